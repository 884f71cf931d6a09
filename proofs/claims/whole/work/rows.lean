section
-- ===== PART A: goes FIRST, ahead of the names: the tables' words, and 'selects' of the private methods out of them =====
/-- a private method of a class that the tables say can be made, by its rows of tables_1 -/
def lw_okq (q : MethodName × Nat) : Prop := (q.1.cls ≠ "java/lang/invoke/MethodHandle" ∧ q.1.cls ≠ "java/lang/invoke/VarHandle") ∧ Cond.instantiable q.1.cls q.2 ∈ tables_1 ∧ Cond.privateMethod q.1 ∈ tables_1 ∧ Cond.instanceMethod q.1 ∈ tables_1
theorem lw_p0 : lw_okq (⟨"SelfIndexImage", "draw", "(LSelfIndexImage$Line;ILSelfIndexImage$Image;)V"⟩, 7) := ⟨⟨by decide +kernel, by decide +kernel⟩, List.mem_of_getElem? (i := 10) (by decide +kernel), List.mem_of_getElem? (i := 159) (by decide +kernel), List.mem_of_getElem? (i := 160) (by decide +kernel)⟩
theorem lw_p1 : lw_okq (⟨"SelfIndexImage$Suffixes", "insert", "(LSelfIndexImage$Line;I)V"⟩, 3) := ⟨⟨by decide +kernel, by decide +kernel⟩, List.mem_of_getElem? (i := 77) (by decide +kernel), List.mem_of_getElem? (i := 167) (by decide +kernel), List.mem_of_getElem? (i := 168) (by decide +kernel)⟩
theorem lw_p2 : lw_okq (⟨"SelfIndexImage$Suffixes", "isSmaller", "(LSelfIndexImage$Line;II)Z"⟩, 3) := ⟨⟨by decide +kernel, by decide +kernel⟩, List.mem_of_getElem? (i := 77) (by decide +kernel), List.mem_of_getElem? (i := 171) (by decide +kernel), List.mem_of_getElem? (i := 172) (by decide +kernel)⟩
theorem lw_p3 : lw_okq (⟨"SelfIndexImage$Befores", "startOrder", "()V"⟩, 5) := ⟨⟨by decide +kernel, by decide +kernel⟩, List.mem_of_getElem? (i := 47) (by decide +kernel), List.mem_of_getElem? (i := 192) (by decide +kernel), List.mem_of_getElem? (i := 193) (by decide +kernel)⟩
theorem lw_p4 : lw_okq (⟨"SelfIndexImage$Befores", "partOrder", "(J)V"⟩, 5) := ⟨⟨by decide +kernel, by decide +kernel⟩, List.mem_of_getElem? (i := 47) (by decide +kernel), List.mem_of_getElem? (i := 196) (by decide +kernel), List.mem_of_getElem? (i := 197) (by decide +kernel)⟩
theorem lw_p5 : lw_okq (⟨"SelfIndexImage$Image", "drawMarkedRows", "(LSelfIndexImage$Suffixes;I)V"⟩, 1) := ⟨⟨by decide +kernel, by decide +kernel⟩, List.mem_of_getElem? (i := 34) (by decide +kernel), List.mem_of_getElem? (i := 200) (by decide +kernel), List.mem_of_getElem? (i := 201) (by decide +kernel)⟩
theorem lw_p6 : lw_okq (⟨"SelfIndexImage$Image", "drawNumber", "(IIJ)V"⟩, 1) := ⟨⟨by decide +kernel, by decide +kernel⟩, List.mem_of_getElem? (i := 34) (by decide +kernel), List.mem_of_getElem? (i := 204) (by decide +kernel), List.mem_of_getElem? (i := 205) (by decide +kernel)⟩
theorem lw_p7 : lw_okq (⟨"SelfIndexImage$Image", "drawRowsOfPlaces", "(LSelfIndexImage$Suffixes;I)V"⟩, 1) := ⟨⟨by decide +kernel, by decide +kernel⟩, List.mem_of_getElem? (i := 34) (by decide +kernel), List.mem_of_getElem? (i := 208) (by decide +kernel), List.mem_of_getElem? (i := 209) (by decide +kernel)⟩
theorem lw_p8 : lw_okq (⟨"SelfIndexImage", "readDesk", "()Z"⟩, 7) := ⟨⟨by decide +kernel, by decide +kernel⟩, List.mem_of_getElem? (i := 10) (by decide +kernel), List.mem_of_getElem? (i := 231) (by decide +kernel), List.mem_of_getElem? (i := 232) (by decide +kernel)⟩
theorem lw_p9 : lw_okq (⟨"SelfIndexImage$Befores", "rowBefore", "(I)I"⟩, 5) := ⟨⟨by decide +kernel, by decide +kernel⟩, List.mem_of_getElem? (i := 47) (by decide +kernel), List.mem_of_getElem? (i := 246) (by decide +kernel), List.mem_of_getElem? (i := 247) (by decide +kernel)⟩
theorem lw_p10 : lw_okq (⟨"SelfIndexImage", "hasLoaded", "()Z"⟩, 7) := ⟨⟨by decide +kernel, by decide +kernel⟩, List.mem_of_getElem? (i := 10) (by decide +kernel), List.mem_of_getElem? (i := 260) (by decide +kernel), List.mem_of_getElem? (i := 261) (by decide +kernel)⟩
theorem lw_p11 : lw_okq (⟨"SelfIndexImage", "isLoadedPlace", "(I)Z"⟩, 7) := ⟨⟨by decide +kernel, by decide +kernel⟩, List.mem_of_getElem? (i := 10) (by decide +kernel), List.mem_of_getElem? (i := 272) (by decide +kernel), List.mem_of_getElem? (i := 273) (by decide +kernel)⟩
theorem lw_p12 : lw_okq (⟨"SelfIndexImage", "occursAt", "(I)Z"⟩, 7) := ⟨⟨by decide +kernel, by decide +kernel⟩, List.mem_of_getElem? (i := 10) (by decide +kernel), List.mem_of_getElem? (i := 301) (by decide +kernel), List.mem_of_getElem? (i := 302) (by decide +kernel)⟩
theorem lw_p13 : lw_okq (⟨"SelfIndexImageModel", "picture", "(I)V"⟩, 19) := ⟨⟨by decide +kernel, by decide +kernel⟩, List.mem_of_getElem? (i := 328) (by decide +kernel), List.mem_of_getElem? (i := 416) (by decide +kernel), List.mem_of_getElem? (i := 417) (by decide +kernel)⟩
theorem lw_p14 : lw_okq (⟨"SelfIndexImageModel", "sort", "()V"⟩, 19) := ⟨⟨by decide +kernel, by decide +kernel⟩, List.mem_of_getElem? (i := 328) (by decide +kernel), List.mem_of_getElem? (i := 420) (by decide +kernel), List.mem_of_getElem? (i := 421) (by decide +kernel)⟩
theorem lw_p15 : lw_okq (⟨"SelfIndexImageModel", "earlier", "(II)Z"⟩, 19) := ⟨⟨by decide +kernel, by decide +kernel⟩, List.mem_of_getElem? (i := 328) (by decide +kernel), List.mem_of_getElem? (i := 424) (by decide +kernel), List.mem_of_getElem? (i := 425) (by decide +kernel)⟩
def lw_privs_1 : List (MethodName × Nat) := [(⟨"SelfIndexImage", "draw", "(LSelfIndexImage$Line;ILSelfIndexImage$Image;)V"⟩, 7), (⟨"SelfIndexImage$Suffixes", "insert", "(LSelfIndexImage$Line;I)V"⟩, 3), (⟨"SelfIndexImage$Suffixes", "isSmaller", "(LSelfIndexImage$Line;II)Z"⟩, 3), (⟨"SelfIndexImage$Befores", "startOrder", "()V"⟩, 5), (⟨"SelfIndexImage$Befores", "partOrder", "(J)V"⟩, 5), (⟨"SelfIndexImage$Image", "drawMarkedRows", "(LSelfIndexImage$Suffixes;I)V"⟩, 1), (⟨"SelfIndexImage$Image", "drawNumber", "(IIJ)V"⟩, 1), (⟨"SelfIndexImage$Image", "drawRowsOfPlaces", "(LSelfIndexImage$Suffixes;I)V"⟩, 1), (⟨"SelfIndexImage", "readDesk", "()Z"⟩, 7), (⟨"SelfIndexImage$Befores", "rowBefore", "(I)I"⟩, 5), (⟨"SelfIndexImage", "hasLoaded", "()Z"⟩, 7), (⟨"SelfIndexImage", "isLoadedPlace", "(I)Z"⟩, 7), (⟨"SelfIndexImage", "occursAt", "(I)Z"⟩, 7), (⟨"SelfIndexImageModel", "picture", "(I)V"⟩, 19), (⟨"SelfIndexImageModel", "sort", "()V"⟩, 19), (⟨"SelfIndexImageModel", "earlier", "(II)Z"⟩, 19)]
theorem lw_r1 : ∀ q ∈ lw_privs_1, lw_okq q := List.forall_mem_cons.mpr ⟨lw_p0, List.forall_mem_cons.mpr ⟨lw_p1, List.forall_mem_cons.mpr ⟨lw_p2, List.forall_mem_cons.mpr ⟨lw_p3, List.forall_mem_cons.mpr ⟨lw_p4, List.forall_mem_cons.mpr ⟨lw_p5, List.forall_mem_cons.mpr ⟨lw_p6, List.forall_mem_cons.mpr ⟨lw_p7, List.forall_mem_cons.mpr ⟨lw_p8, List.forall_mem_cons.mpr ⟨lw_p9, List.forall_mem_cons.mpr ⟨lw_p10, List.forall_mem_cons.mpr ⟨lw_p11, List.forall_mem_cons.mpr ⟨lw_p12, List.forall_mem_cons.mpr ⟨lw_p13, List.forall_mem_cons.mpr ⟨lw_p14, List.forall_mem_cons.mpr ⟨lw_p15, fun _ h => absurd h List.not_mem_nil⟩⟩⟩⟩⟩⟩⟩⟩⟩⟩⟩⟩⟩⟩⟩⟩
theorem lw_p16 : lw_okq (⟨"SelfIndexImageModel", "levels", "()V"⟩, 19) := ⟨⟨by decide +kernel, by decide +kernel⟩, List.mem_of_getElem? (i := 328) (by decide +kernel), List.mem_of_getElem? (i := 429) (by decide +kernel), List.mem_of_getElem? (i := 430) (by decide +kernel)⟩
theorem lw_p17 : lw_okq (⟨"SelfIndexImageModel", "readCodes", "()V"⟩, 19) := ⟨⟨by decide +kernel, by decide +kernel⟩, List.mem_of_getElem? (i := 328) (by decide +kernel), List.mem_of_getElem? (i := 440) (by decide +kernel), List.mem_of_getElem? (i := 441) (by decide +kernel)⟩
theorem lw_p18 : lw_okq (⟨"SelfIndexImageModel", "before", "(I)I"⟩, 19) := ⟨⟨by decide +kernel, by decide +kernel⟩, List.mem_of_getElem? (i := 328) (by decide +kernel), List.mem_of_getElem? (i := 444) (by decide +kernel), List.mem_of_getElem? (i := 445) (by decide +kernel)⟩
theorem lw_p19 : lw_okq (⟨"SelfIndexImageModel", "place", "(I)Z"⟩, 19) := ⟨⟨by decide +kernel, by decide +kernel⟩, List.mem_of_getElem? (i := 328) (by decide +kernel), List.mem_of_getElem? (i := 460) (by decide +kernel), List.mem_of_getElem? (i := 461) (by decide +kernel)⟩
theorem lw_p20 : lw_okq (⟨"SelfIndexImageModel", "occurs", "(I)Z"⟩, 19) := ⟨⟨by decide +kernel, by decide +kernel⟩, List.mem_of_getElem? (i := 328) (by decide +kernel), List.mem_of_getElem? (i := 484) (by decide +kernel), List.mem_of_getElem? (i := 485) (by decide +kernel)⟩
def lw_privs_2 : List (MethodName × Nat) := [(⟨"SelfIndexImageModel", "levels", "()V"⟩, 19), (⟨"SelfIndexImageModel", "readCodes", "()V"⟩, 19), (⟨"SelfIndexImageModel", "before", "(I)I"⟩, 19), (⟨"SelfIndexImageModel", "place", "(I)Z"⟩, 19), (⟨"SelfIndexImageModel", "occurs", "(I)Z"⟩, 19)]
theorem lw_r2 : ∀ q ∈ lw_privs_2, lw_okq q := List.forall_mem_cons.mpr ⟨lw_p16, List.forall_mem_cons.mpr ⟨lw_p17, List.forall_mem_cons.mpr ⟨lw_p18, List.forall_mem_cons.mpr ⟨lw_p19, List.forall_mem_cons.mpr ⟨lw_p20, fun _ h => absurd h List.not_mem_nil⟩⟩⟩⟩⟩
def lw_privs : List (MethodName × Nat) := lw_privs_1 ++ (lw_privs_2)
def lw_tbl : List Cond := k2_sels lw_privs ++ tables_1
theorem lw_privs_ok : ∀ q ∈ lw_privs, lw_okq q := by
  show ∀ q ∈ lw_privs_1 ++ (lw_privs_2), lw_okq q
  exact List.forall_mem_append.mpr ⟨lw_r1, lw_r2⟩
end
section
/-! Rows of the machine, said with naturals; contracts in one form. Written by wip/draft/gen_rows.py -/
section SIW
variable {p : Program} {l : Launch} {e : Env} {R : Room} {s : State} {m : MethodId} {args : Array Value} {below : List Frame} {meth : Method} {c : Code} {H : Heap} {locs : List Loc} {cells slots : Nat} {Q : State → Prop}
variable {cc : ByteArray} {pc : Nat} {ls : Array Slot} {rest : List Value} {D : va_G} {cl : List vw_C} {A : Nat → Prop} {a : Nat} {tys : List (ClassId × FieldType)} {ws : va_W} {H0 : Heap}
theorem si_iadd (hexec : p.tables.exec = Jvm.exec) (hb : c.code = cc) {x y v : Int32} (hdg : decode cc pc = .ok (.iadd, 1)) (hv : x + y = v) (k : W p l e R s m args below meth c H locs cells slots Q (F0 m (pc + 1) ls (.int v :: rest))) : W p l e R s m args below meth c H locs cells slots Q (F0 m pc ls (.int y :: .int x :: rest)) := by subst hv; exact lv_iadd hexec hb hdg k
theorem si_isub (hexec : p.tables.exec = Jvm.exec) (hb : c.code = cc) {x y v : Int32} (hdg : decode cc pc = .ok (.isub, 1)) (hv : x - y = v) (k : W p l e R s m args below meth c H locs cells slots Q (F0 m (pc + 1) ls (.int v :: rest))) : W p l e R s m args below meth c H locs cells slots Q (F0 m pc ls (.int y :: .int x :: rest)) := by subst hv; exact lv_isub hexec hb hdg k
theorem si_imul (hexec : p.tables.exec = Jvm.exec) (hb : c.code = cc) {x y v : Int32} (hdg : decode cc pc = .ok (.imul, 1)) (hv : x * y = v) (k : W p l e R s m args below meth c H locs cells slots Q (F0 m (pc + 1) ls (.int v :: rest))) : W p l e R s m args below meth c H locs cells slots Q (F0 m pc ls (.int y :: .int x :: rest)) := by subst hv; exact lv_imul hexec hb hdg k
theorem si_iand (hexec : p.tables.exec = Jvm.exec) (hb : c.code = cc) {x y v : Int32} (hdg : decode cc pc = .ok (.iand, 1)) (hv : x &&& y = v) (k : W p l e R s m args below meth c H locs cells slots Q (F0 m (pc + 1) ls (.int v :: rest))) : W p l e R s m args below meth c H locs cells slots Q (F0 m pc ls (.int y :: .int x :: rest)) := by subst hv; exact lv_iand hexec hb hdg k
theorem si_ishr (hexec : p.tables.exec = Jvm.exec) (hb : c.code = cc) {x y v : Int32} (hdg : decode cc pc = .ok (.ishr, 1)) (hv : x >>> (y &&& 31) = v) (k : W p l e R s m args below meth c H locs cells slots Q (F0 m (pc + 1) ls (.int v :: rest))) : W p l e R s m args below meth c H locs cells slots Q (F0 m pc ls (.int y :: .int x :: rest)) := by subst hv; exact lv_ishr hexec hb hdg k
theorem si_idiv (hexec : p.tables.exec = Jvm.exec) (hb : c.code = cc) {x y v : Int32} (hdg : decode cc pc = .ok (.idiv, 1)) (hne : ¬ y = 0) (hv : x / y = v) (k : W p l e R s m args below meth c H locs cells slots Q (F0 m (pc + 1) ls (.int v :: rest))) : W p l e R s m args below meth c H locs cells slots Q (F0 m pc ls (.int y :: .int x :: rest)) := by subst hv; exact lv_idiv hexec hb hdg hne k
theorem si_irem (hexec : p.tables.exec = Jvm.exec) (hb : c.code = cc) {x y v : Int32} (hdg : decode cc pc = .ok (.irem, 1)) (hne : ¬ y = 0) (hv : x - x / y * y = v) (k : W p l e R s m args below meth c H locs cells slots Q (F0 m (pc + 1) ls (.int v :: rest))) : W p l e R s m args below meth c H locs cells slots Q (F0 m pc ls (.int y :: .int x :: rest)) := by subst hv; exact lv_irem hexec hb hdg hne k
theorem si_ldiv (hexec : p.tables.exec = Jvm.exec) (hb : c.code = cc) {x y v : Int64} (hdg : decode cc pc = .ok (.ldiv, 1)) (hne : ¬ y = 0) (hv : x / y = v) (k : W p l e R s m args below meth c H locs cells slots Q (F0 m (pc + 1) ls (.long v :: rest))) : W p l e R s m args below meth c H locs cells slots Q (F0 m pc ls (.long y :: .long x :: rest)) := by subst hv; exact lv_ldiv hexec hb hdg hne k
theorem si_ladd (hexec : p.tables.exec = Jvm.exec) (hb : c.code = cc) {x y v : Int64} (hdg : decode cc pc = .ok (.ladd, 1)) (hv : x + y = v) (k : W p l e R s m args below meth c H locs cells slots Q (F0 m (pc + 1) ls (.long v :: rest))) : W p l e R s m args below meth c H locs cells slots Q (F0 m pc ls (.long y :: .long x :: rest)) := by subst hv; exact lv_ladd hexec hb hdg k
theorem si_lsub (hexec : p.tables.exec = Jvm.exec) (hb : c.code = cc) {x y v : Int64} (hdg : decode cc pc = .ok (.lsub, 1)) (hv : x - y = v) (k : W p l e R s m args below meth c H locs cells slots Q (F0 m (pc + 1) ls (.long v :: rest))) : W p l e R s m args below meth c H locs cells slots Q (F0 m pc ls (.long y :: .long x :: rest)) := by subst hv; exact lv_lsub hexec hb hdg k
theorem si_land (hexec : p.tables.exec = Jvm.exec) (hb : c.code = cc) {x y v : Int64} (hdg : decode cc pc = .ok (.land, 1)) (hv : x &&& y = v) (k : W p l e R s m args below meth c H locs cells slots Q (F0 m (pc + 1) ls (.long v :: rest))) : W p l e R s m args below meth c H locs cells slots Q (F0 m pc ls (.long y :: .long x :: rest)) := by subst hv; exact lv_land hexec hb hdg k
theorem si_lor (hexec : p.tables.exec = Jvm.exec) (hb : c.code = cc) {x y v : Int64} (hdg : decode cc pc = .ok (.lor, 1)) (hv : x ||| y = v) (k : W p l e R s m args below meth c H locs cells slots Q (F0 m (pc + 1) ls (.long v :: rest))) : W p l e R s m args below meth c H locs cells slots Q (F0 m pc ls (.long y :: .long x :: rest)) := by subst hv; exact lv_lor hexec hb hdg k
theorem si_lxor (hexec : p.tables.exec = Jvm.exec) (hb : c.code = cc) {x y v : Int64} (hdg : decode cc pc = .ok (.lxor, 1)) (hv : x ^^^ y = v) (k : W p l e R s m args below meth c H locs cells slots Q (F0 m (pc + 1) ls (.long v :: rest))) : W p l e R s m args below meth c H locs cells slots Q (F0 m pc ls (.long y :: .long x :: rest)) := by subst hv; exact lv_lxor hexec hb hdg k
theorem si_lmul (hexec : p.tables.exec = Jvm.exec) (hb : c.code = cc) {x y v : Int64} (hdg : decode cc pc = .ok (.lmul, 1)) (hv : x * y = v) (k : W p l e R s m args below meth c H locs cells slots Q (F0 m (pc + 1) ls (.long v :: rest))) : W p l e R s m args below meth c H locs cells slots Q (F0 m pc ls (.long y :: .long x :: rest)) := by subst hv; exact lv_lmul hexec hb hdg k
theorem si_icmp_lt (hexec : p.tables.exec = Jvm.exec) (hb : c.code = cc) {a b : Nat} {off : Int} {tgt : Nat} (hdg : decode cc pc = .ok (.if_icmp .lt off, 3)) (ht : (pc : Int) + off = (tgt : Int)) (ha : a < 2 ^ 31) (hb2 : b < 2 ^ 31) (kt : a < b → W p l e R s m args below meth c H locs cells slots Q (F0 m tgt ls rest)) (kf : b ≤ a → W p l e R s m args below meth c H locs cells slots Q (F0 m (pc + 3) ls rest)) : W p l e R s m args below meth c H locs cells slots Q (F0 m pc ls (.int (nI b) :: .int (nI a) :: rest)) := lv_icmp_lt hexec hb hdg ht (fun h => kt ((nI_ltI ha hb2).mp h)) (fun h => kf (Nat.le_of_not_lt (fun q => h ((nI_ltI ha hb2).mpr q))))
theorem si_icmp_ge (hexec : p.tables.exec = Jvm.exec) (hb : c.code = cc) {a b : Nat} {off : Int} {tgt : Nat} (hdg : decode cc pc = .ok (.if_icmp .ge off, 3)) (ht : (pc : Int) + off = (tgt : Int)) (ha : a < 2 ^ 31) (hb2 : b < 2 ^ 31) (kt : b ≤ a → W p l e R s m args below meth c H locs cells slots Q (F0 m tgt ls rest)) (kf : a < b → W p l e R s m args below meth c H locs cells slots Q (F0 m (pc + 3) ls rest)) : W p l e R s m args below meth c H locs cells slots Q (F0 m pc ls (.int (nI b) :: .int (nI a) :: rest)) := lv_icmp_ge hexec hb hdg ht (fun h => kt ((nI_leI hb2 ha).mp h)) (fun h => kf (Nat.lt_of_not_le (fun q => h ((nI_leI hb2 ha).mpr q))))
theorem si_icmp_gt (hexec : p.tables.exec = Jvm.exec) (hb : c.code = cc) {a b : Nat} {off : Int} {tgt : Nat} (hdg : decode cc pc = .ok (.if_icmp .gt off, 3)) (ht : (pc : Int) + off = (tgt : Int)) (ha : a < 2 ^ 31) (hb2 : b < 2 ^ 31) (kt : b < a → W p l e R s m args below meth c H locs cells slots Q (F0 m tgt ls rest)) (kf : a ≤ b → W p l e R s m args below meth c H locs cells slots Q (F0 m (pc + 3) ls rest)) : W p l e R s m args below meth c H locs cells slots Q (F0 m pc ls (.int (nI b) :: .int (nI a) :: rest)) := lv_icmp_gt hexec hb hdg ht (fun h => kt ((nI_ltI hb2 ha).mp h)) (fun h => kf (Nat.le_of_not_lt (fun q => h ((nI_ltI hb2 ha).mpr q))))
theorem si_icmp_le (hexec : p.tables.exec = Jvm.exec) (hb : c.code = cc) {a b : Nat} {off : Int} {tgt : Nat} (hdg : decode cc pc = .ok (.if_icmp .le off, 3)) (ht : (pc : Int) + off = (tgt : Int)) (ha : a < 2 ^ 31) (hb2 : b < 2 ^ 31) (kt : a ≤ b → W p l e R s m args below meth c H locs cells slots Q (F0 m tgt ls rest)) (kf : b < a → W p l e R s m args below meth c H locs cells slots Q (F0 m (pc + 3) ls rest)) : W p l e R s m args below meth c H locs cells slots Q (F0 m pc ls (.int (nI b) :: .int (nI a) :: rest)) := lv_icmp_le hexec hb hdg ht (fun h => kt ((nI_leI ha hb2).mp h)) (fun h => kf (Nat.lt_of_not_le (fun q => h ((nI_leI ha hb2).mpr q))))
theorem si_icmp_eq (hexec : p.tables.exec = Jvm.exec) (hb : c.code = cc) {a b : Nat} {off : Int} {tgt : Nat} (hdg : decode cc pc = .ok (.if_icmp .eq off, 3)) (ht : (pc : Int) + off = (tgt : Int)) (ha : a < 2 ^ 31) (hb2 : b < 2 ^ 31) (kt : a = b → W p l e R s m args below meth c H locs cells slots Q (F0 m tgt ls rest)) (kf : a ≠ b → W p l e R s m args below meth c H locs cells slots Q (F0 m (pc + 3) ls rest)) : W p l e R s m args below meth c H locs cells slots Q (F0 m pc ls (.int (nI b) :: .int (nI a) :: rest)) := lv_icmp_eq hexec hb hdg ht (fun h => kt ((nI_eq ha hb2).mp h)) (fun h => kf (fun q => h ((nI_eq ha hb2).mpr q)))
theorem si_icmp_ne (hexec : p.tables.exec = Jvm.exec) (hb : c.code = cc) {a b : Nat} {off : Int} {tgt : Nat} (hdg : decode cc pc = .ok (.if_icmp .ne off, 3)) (ht : (pc : Int) + off = (tgt : Int)) (ha : a < 2 ^ 31) (hb2 : b < 2 ^ 31) (kt : a ≠ b → W p l e R s m args below meth c H locs cells slots Q (F0 m tgt ls rest)) (kf : a = b → W p l e R s m args below meth c H locs cells slots Q (F0 m (pc + 3) ls rest)) : W p l e R s m args below meth c H locs cells slots Q (F0 m pc ls (.int (nI b) :: .int (nI a) :: rest)) := lv_icmp_ne hexec hb hdg ht (fun h => kt (fun q => h ((nI_eq ha hb2).mpr q))) (fun h => kf ((nI_eq ha hb2).mp h))
theorem si_if_eq (hexec : p.tables.exec = Jvm.exec) (hb : c.code = cc) {a : Nat} {off : Int} {tgt : Nat} (hdg : decode cc pc = .ok (.ifCond .eq off, 3)) (ht : (pc : Int) + off = (tgt : Int)) (ha : a < 2 ^ 31) (kt : a = 0 → W p l e R s m args below meth c H locs cells slots Q (F0 m tgt ls rest)) (kf : a ≠ 0 → W p l e R s m args below meth c H locs cells slots Q (F0 m (pc + 3) ls rest)) : W p l e R s m args below meth c H locs cells slots Q (F0 m pc ls (.int (nI a) :: rest)) := lv_if_eq hexec hb hdg ht (fun h => kt ((nI_eq ha (by decide) : nI a = nI 0 ↔ a = 0).mp (h.trans nI_0.symm))) (fun h => kf (fun q => h (((nI_eq ha (by decide) : nI a = nI 0 ↔ a = 0).mpr q).trans nI_0)))
theorem si_if_ne (hexec : p.tables.exec = Jvm.exec) (hb : c.code = cc) {a : Nat} {off : Int} {tgt : Nat} (hdg : decode cc pc = .ok (.ifCond .ne off, 3)) (ht : (pc : Int) + off = (tgt : Int)) (ha : a < 2 ^ 31) (kt : a ≠ 0 → W p l e R s m args below meth c H locs cells slots Q (F0 m tgt ls rest)) (kf : a = 0 → W p l e R s m args below meth c H locs cells slots Q (F0 m (pc + 3) ls rest)) : W p l e R s m args below meth c H locs cells slots Q (F0 m pc ls (.int (nI a) :: rest)) := lv_if_ne hexec hb hdg ht (fun h => kt (fun q => h (((nI_eq ha (by decide) : nI a = nI 0 ↔ a = 0).mpr q).trans nI_0))) (fun h => kf ((nI_eq ha (by decide) : nI a = nI 0 ↔ a = 0).mp (h.trans nI_0.symm)))
theorem si_if_gt (hexec : p.tables.exec = Jvm.exec) (hb : c.code = cc) {a : Nat} {off : Int} {tgt : Nat} (hdg : decode cc pc = .ok (.ifCond .gt off, 3)) (ht : (pc : Int) + off = (tgt : Int)) (ha : a < 2 ^ 31) (kt : 0 < a → W p l e R s m args below meth c H locs cells slots Q (F0 m tgt ls rest)) (kf : a = 0 → W p l e R s m args below meth c H locs cells slots Q (F0 m (pc + 3) ls rest)) : W p l e R s m args below meth c H locs cells slots Q (F0 m pc ls (.int (nI a) :: rest)) := lv_if_gt hexec hb hdg ht (fun h => kt ((nI_ltI (a := 0) (by decide) ha).mp (nI_0 ▸ h))) (fun h => kf (Nat.le_zero.mp (Nat.le_of_not_lt (fun q => h (nI_0 ▸ (nI_ltI (a := 0) (by decide) ha).mpr q)))))
theorem si_if_le (hexec : p.tables.exec = Jvm.exec) (hb : c.code = cc) {a : Nat} {off : Int} {tgt : Nat} (hdg : decode cc pc = .ok (.ifCond .le off, 3)) (ht : (pc : Int) + off = (tgt : Int)) (ha : a < 2 ^ 31) (kt : a = 0 → W p l e R s m args below meth c H locs cells slots Q (F0 m tgt ls rest)) (kf : 0 < a → W p l e R s m args below meth c H locs cells slots Q (F0 m (pc + 3) ls rest)) : W p l e R s m args below meth c H locs cells slots Q (F0 m pc ls (.int (nI a) :: rest)) := lv_if_le hexec hb hdg ht (fun h => kt (Nat.le_zero.mp ((nI_leI (b := 0) ha (by decide)).mp (nI_0 ▸ h)))) (fun h => kf (Nat.lt_of_not_le (fun q => h (nI_0 ▸ (nI_leI (b := 0) ha (by decide)).mpr q))))
theorem si_if_lt (hexec : p.tables.exec = Jvm.exec) (hb : c.code = cc) {a : Nat} {off : Int} {tgt : Nat} (hdg : decode cc pc = .ok (.ifCond .lt off, 3)) (ht : (pc : Int) + off = (tgt : Int)) (ha : a < 2 ^ 31) (kf : W p l e R s m args below meth c H locs cells slots Q (F0 m (pc + 3) ls rest)) : W p l e R s m args below meth c H locs cells slots Q (F0 m pc ls (.int (nI a) :: rest)) := lv_if_lt hexec hb hdg ht (fun h => absurd h (nI_pos ha)) (fun _ => kf)
theorem si_if_ge (hexec : p.tables.exec = Jvm.exec) (hb : c.code = cc) {a : Nat} {off : Int} {tgt : Nat} (hdg : decode cc pc = .ok (.ifCond .ge off, 3)) (ht : (pc : Int) + off = (tgt : Int)) (ha : a < 2 ^ 31) (kt : W p l e R s m args below meth c H locs cells slots Q (F0 m tgt ls rest)) : W p l e R s m args below meth c H locs cells slots Q (F0 m pc ls (.int (nI a) :: rest)) := lv_if_ge hexec hb hdg ht (fun _ => kt) (fun h => absurd (nI_pos' ha) h)
theorem si_iald (hexec : p.tables.exec = Jvm.exec) (hb : c.code = cc) (hK : va_K D cl tys s) (hP : va_P D cl ws H) (q0 t0 : Nat) {cA : ClassId} {n : Nat} {f : Nat → Int32} (ha : ws[q0]? = some (a, .inl (cA, n, .inl f))) (ht : tys[t0]? = some (cA, .int)) {k : Nat} {v : Int32} (hn : n < 2 ^ 31) (hk : k < n) (hv : f k = v) (hdg : decode cc pc = .ok (.iaload, 1)) (kk : W p l e R s m args below meth c H locs cells slots Q (F0 m (pc + 1) ls (.int v :: rest))) : W p l e R s m args below meth c H locs cells slots Q (F0 m pc ls (.int (nI k) :: .ref a :: rest)) := by
  refine va_iald hexec hb hK hP q0 t0 ha ht (vp_in_nI hk hn) hdg ?_
  rw [nI_clamp (by omega), hv]
  exact kk
theorem si_lald (hexec : p.tables.exec = Jvm.exec) (hb : c.code = cc) (hK : va_K D cl tys s) (hP : va_P D cl ws H) (q0 t0 : Nat) {cA : ClassId} {n : Nat} {f : Nat → Int64} (ha : ws[q0]? = some (a, .inl (cA, n, .inr (.inl f)))) (ht : tys[t0]? = some (cA, .long)) {k : Nat} {v : Int64} (hn : n < 2 ^ 31) (hk : k < n) (hv : f k = v) (hdg : decode cc pc = .ok (.laload, 1)) (kk : W p l e R s m args below meth c H locs cells slots Q (F0 m (pc + 1) ls (.long v :: rest))) : W p l e R s m args below meth c H locs cells slots Q (F0 m pc ls (.int (nI k) :: .ref a :: rest)) := by
  refine va_lald hexec hb hK hP q0 t0 ha ht (vp_in_nI hk hn) hdg ?_
  rw [nI_clamp (by omega), hv]
  exact kk
theorem si_iast (hexec : p.tables.exec = Jvm.exec) (hb : c.code = cc) (hK : va_K D cl tys s) (hP : va_P D cl ws H) (hD : va_D A ws) (hS : va_S A H0 H locs) (q0 t0 : Nat) {cA : ClassId} {n : Nat} {f : Nat → Int32} (ha : ws[q0]? = some (a, .inl (cA, n, .inl f))) (ht : tys[t0]? = some (cA, .int)) {k : Nat} {x : Int32} (hn : n < 2 ^ 31) (hk : k < n) (hdg : decode cc pc = .ok (.iastore, 1)) (kk : ∀ (H1 : Heap) (locs1 : List Loc), va_P D cl (ws.set q0 (a, .inl (cA, n, .inl (upd f k x)))) H1 → va_D A (ws.set q0 (a, .inl (cA, n, .inl (upd f k x)))) → va_S A H0 H1 locs1 → W p l e R s m args below meth c H1 locs1 cells slots Q (F0 m (pc + 1) ls rest)) : W p l e R s m args below meth c H locs cells slots Q (F0 m pc ls (.int x :: .int (nI k) :: .ref a :: rest)) := by
  refine va_iast hexec hb hK hP hD hS q0 t0 ha ht (vp_in_nI hk hn) hdg ?_
  rw [nI_clamp (by omega)]
  exact kk
theorem si_last (hexec : p.tables.exec = Jvm.exec) (hb : c.code = cc) (hK : va_K D cl tys s) (hP : va_P D cl ws H) (hD : va_D A ws) (hS : va_S A H0 H locs) (q0 t0 : Nat) {cA : ClassId} {n : Nat} {f : Nat → Int64} (ha : ws[q0]? = some (a, .inl (cA, n, .inr (.inl f)))) (ht : tys[t0]? = some (cA, .long)) {k : Nat} {x : Int64} (hn : n < 2 ^ 31) (hk : k < n) (hdg : decode cc pc = .ok (.lastore, 1)) (kk : ∀ (H1 : Heap) (locs1 : List Loc), va_P D cl (ws.set q0 (a, .inl (cA, n, .inr (.inl (vp_updL f k x))))) H1 → va_D A (ws.set q0 (a, .inl (cA, n, .inr (.inl (vp_updL f k x))))) → va_S A H0 H1 locs1 → W p l e R s m args below meth c H1 locs1 cells slots Q (F0 m (pc + 1) ls rest)) : W p l e R s m args below meth c H locs cells slots Q (F0 m pc ls (.long x :: .int (nI k) :: .ref a :: rest)) := by
  refine va_last hexec hb hK hP hD hS q0 t0 ha ht (vp_in_nI hk hn) hdg ?_
  rw [nI_clamp (by omega)]
  exact kk
theorem si_inc (i : Nat) : nI i + Int32.ofInt 1 = nI (i + 1) := nI_1 i
theorem si_dec {i : Nat} (h : 1 ≤ i) : nI i + Int32.ofInt (-1) = nI (i - 1) := by
  obtain ⟨k, rfl⟩ : ∃ k, i = k + 1 := ⟨i - 1, by omega⟩
  exact pk_m1 k
theorem si_lc0 (x y : Int64) : lg_cmp x y = 0 ↔ x = y := by
  unfold lg_cmp
  by_cases h : x > y
  · rw [if_pos h]
    exact ⟨fun q => absurd q (by decide), fun q => by subst q; exact absurd h (fun z9 => Int64.lt_irrefl z9)⟩
  · rw [if_neg h]
    by_cases q : x = y
    · rw [if_pos q]; exact ⟨fun _ => q, fun _ => rfl⟩
    · rw [if_neg q]; exact ⟨fun z => absurd z (by decide), fun z => absurd z q⟩
theorem si_lcL (x y : Int64) : lg_cmp x y < 0 ↔ x < y := by
  unfold lg_cmp
  by_cases h : x > y
  · rw [if_pos h]
    exact ⟨fun q => absurd q (by decide), fun q => absurd (Int64.lt_trans h q) (fun z9 => Int64.lt_irrefl z9)⟩
  · rw [if_neg h]
    by_cases q : x = y
    · rw [if_pos q]; exact ⟨fun z => absurd z (by decide), fun z => by subst q; exact absurd z (fun z9 => Int64.lt_irrefl z9)⟩
    · rw [if_neg q]
      refine ⟨fun _ => ?_, fun _ => by decide⟩
      rw [Int64.lt_iff_toInt_lt]
      rw [gt_iff_lt, Int64.lt_iff_toInt_lt] at h
      have : x.toInt ≠ y.toInt := fun z => q (Int64.toInt_inj.mp z)
      omega
theorem si_lcG (x y : Int64) : 0 < lg_cmp x y ↔ y < x := by
  unfold lg_cmp
  by_cases h : x > y
  · rw [if_pos h]; exact ⟨fun _ => h, fun _ => by decide⟩
  · rw [if_neg h]
    refine ⟨fun q => ?_, fun q => absurd q h⟩
    by_cases z : x = y
    · rw [if_pos z] at q; exact absurd q (by decide)
    · rw [if_neg z] at q; exact absurd q (by decide)
end SIW
/-- the numbers of the classes, of their slots, of the two kinds of arrays -/
abbrev si_G : Type := va_G × ClassId × ClassId
abbrev si_T (g : si_G) : List (ClassId × FieldType) := [(g.2.1, .int), (g.2.2, .long)]
/-- the words of the fields of nest mates: they go from state to state beside the classes' numbers -/
def si_isN : Cond → Bool
  | .fieldLinkNest .. => true
  | _ => false
def si_nst : List Cond := tables_1.filter si_isN
def si_NK (U : State) : Prop := ∀ w ∈ si_nst, va_Nw w U
theorem si_NK.warm {s U : State} (hW : s.WarmedH U.vm) (h : si_NK s) : si_NK U := by
  intro w hw
  have hg := (List.mem_filter.mp hw).2
  have h1 := h w hw
  cases w <;> first | exact va_Nw.warmF hW h1 | exact absurd hg Bool.false_ne_true
theorem si_NK.same {u U : State} (hv : u.vm = U.vm) (h : si_NK u) : si_NK U := by
  intro w hw
  have hg := (List.mem_filter.mp hw).2
  have h1 := h w hw
  cases w <;> first | exact va_Nw.same rfl hv h1 | exact absurd hg Bool.false_ne_true
/-- the world that a method begins with -/
def si_pre (g : si_G) (cl : List vw_C) (ws : va_W) (sz : Nat) (U : State) : Prop := U.heap.size = sz ∧ va_P g.1 cl ws U.heap ∧ va_K g.1 cl (si_T g) U ∧ va_D (fun _ => True) ws ∧ si_NK U
/-- the world behind a method -/
def si_at (g : si_G) (cl : List vw_C) (A : Nat → Prop) (ws : va_W) (t : State) : Prop := va_P g.1 cl ws t.heap ∧ va_K g.1 cl (si_T g) t ∧ va_D A ws
theorem si_blind (g : si_G) (cl : List vw_C) (ws : va_W) (sz : Nat) (av : List Value) : FrameBlind (va_Pc av (si_pre g cl ws sz)) := fun a U f mk q => by
  obtain ⟨q0, q1, qP, qK, qD, qN⟩ := q
  exact ⟨q0, q1, qP, va_K.moved (u := U) (U := U.calling f mk a) (Vm.Alike.refl U.vm) qK, qD, si_NK.same (u := U) (U := U.calling f mk a) rfl qN⟩
theorem si_Psub {D : va_G} {cl : List vw_C} {ws ws' : va_W} {H : Heap} (h : va_P D cl ws H) (is : List Nat) (hs : is.map (fun i => ws[i]?) = ws'.map some) : va_P D cl ws' H := fun k q hk => by
  have h1 : (is.map (fun i => ws[i]?))[k]? = some (some q) := by rw [hs, List.getElem?_map, hk]; rfl
  rw [List.getElem?_map] at h1
  cases hi : is[k]? with
  | none => rw [hi] at h1; cases h1
  | some i => rw [hi] at h1; exact h i q (Option.some.inj h1)
theorem si_free {A : Nat → Prop} {ws wc : va_W} {H0 H : Heap} {locs : List Loc} (hD : va_D A ws) (hS : va_S A H0 H locs) (hA : ∀ q, H0.size ≤ q → A q) (isC : List Nat) (hC : isC.map (fun i => ws[i]?) = wc.map some) : ∀ q, va_A wc H.size q → A q := va_free hD hS hA isC hC
def si_Mi {S : Type} (l : Launch) (g : si_G) (cl : List vw_C) (y : MethodName) (w : List Cond) (rm : Room) (av : List Value) (ws : va_W) (post : Int32 → S → Prop) (w1 : S → va_W) : Prop := ∀ sz : Nat, Met l y w rm (va_Pc av (si_pre g cl ws sz)) (va_Qi post (fun u t => si_at g cl (va_A ws sz) (w1 u) t) (va_A ws sz)) rm.cells rm.slots (va_A ws sz)
/-- a contract out of a walk of the body -/
theorem si_Mi.of {S : Type} {l : Launch} {g : si_G} {cl : List vw_C} {y : MethodName} {w w' : List Cond} {rm : Room} {av : List Value} {ws : va_W} {post : Int32 → S → Prop} {w1 : S → va_W} {cc : ByteArray} {maxL : Nat} {ty : FieldType} (hy : plainName y.cls = true) (hw : w = Cond.code y cc maxL (some ty) :: w') (hlen : (lg_sl av).length ≤ maxL)
    (hbody : ∀ (p : Program) (e : Env) (s : State) (m : MethodId) (args : Array Value) (below : List Frame) (meth : Method) (c : Code) (A : Nat → Prop) (Q : State → Prop) (ls : Array Slot),
      CallFix p m c cc maxL s args w y.cls → meth.name = y.name → va_K g.1 cl (si_T g) s → si_NK s → va_P g.1 cl ws s.heap → va_D A ws → (∀ q, s.heap.size ≤ q → A q) → va_S A s.heap s.heap [] → lv_has ls maxL (lv_args 0 av) →
      (∀ (v : Int32) (u : S) (H : Heap) (locs : List Loc) (pc : Nat) (ls : Array Slot), narrow ty (.int v) = .int v → post v u → va_P g.1 cl (w1 u) H → va_D A (w1 u) → va_S A s.heap H locs → decode cc pc = .ok (.ireturn, 1) → W p l e rm s m args below meth c H locs rm.cells rm.slots Q (F0 m pc ls [.int v])) →
      W p l e rm s m args below meth c s.heap [] 0 0 Q (F0 m 0 ls [])) : si_Mi l g cl y w rm av ws post w1 := by
  intro sz
  refine Met.ofW (cc := cc) (maxL := maxL) (ret := (some ty)) hy hw ?_
  intro p e s m args below meth c s₁ B hml hv
  obtain ⟨rfl, hsz, hP, hK, hD0, hN⟩ := hv
  subst hsz
  have hD := hD0.self (sz := s.heap.size)
  have hr := B.returns
  have hlocks := B.notSynchronized
  have hl := lv_entry av (n := maxL) hlen
  rw [lg_entry_eq]
  refine hbody p e s m av.toArray below meth c (va_A ws s.heap.size) _ _ ⟨B.exec, B.bytes, hml, findClass_of_methodNamed B.named, atoms_spec (ws := w) B.pre⟩ (name_of_methodNamed B.named B.method).1 hK hN hP hD (fun q h => Or.inr h) va_S.rf hl ?_
  intro v u H locs pc ls hn hpost hP1 hD1 hS hdg
  exact W.zret B.exec B.bytes hr hn (fun t ht hW => ⟨⟨v, u, rfl, hpost, by rw [ht]; exact hP1, va_K.moved hW.alike hK, hD1⟩, hS.F ht⟩) hS.2.2 hdg
theorem si_Mi.callV {p : Program} {l : Launch} {e : Env} {R : Room} {s : State} {m : MethodId} {args : Array Value} {below : List Frame} {meth : Method} {c : Code} {H : Heap} {locs : List Loc} {cells slots : Nat} {Q : State → Prop} {cc : ByteArray} {pc nL n index maxL : Nat} {ls : Array Slot} {rest st0 As : List Value} {b : Addr} {C : String} {ret : Option FieldType} {own : String} {Ts : List Cond} {bytes : ByteArray} {A : Nat → Prop} {S : Type} {g : si_G} {cl : List vw_C} {y : MethodName} {w : List Cond} {rm : Room} {ws wc wr : va_W} {post : Int32 → S → Prop} {w1 : S → va_W}
    (hM : si_Mi l g cl y w rm (.ref b :: As) wc post w1) (F : CallFix p m c cc nL s args Ts own) (cw : CallW R s args own C index y bytes maxL ret w rm rm.cells rm.slots n)
    (hK : va_K g.1 cl (si_T g) s) (hN : si_NK s) (hP : va_P g.1 cl ws H) (hD : va_D A ws) (hS : va_S A s.heap H locs) (hA : ∀ q, s.heap.size ≤ q → A q)
    (isC isR : List Nat) (hC : isC.map (fun i => ws[i]?) = wc.map some) (hR : isR.map (fun i => ws[i]?) = wr.map some) (hnd : (va_nd isC && va_nd isR) = true) (hdis : ∀ i ∈ isR, i ∉ isC) (hrc : ∃ cell : Cell, H[b]? = some cell ∧ cell.vm.isStatics = false ∧ s.vm.findClass C = some cell.cls)
    (hn : As.length = n) (hsize : ls.size = nL) (hst : st0 = As.reverse ++ .ref b :: rest) (hW : (rest.map fun v => v.category).sum ≤ 8) (hdg : decode cc pc = .ok (.invokevirtual index, 3)) (hf : cells ≤ R.cells ∧ slots ≤ R.slots)
    (hc0 : rm.cells = 0) (hs0 : rm.slots = 0)
    (kk : ∀ (r : Int32) (u : S) (H1 : Heap) (locs1 : List Loc), post r u → va_P g.1 cl (wr ++ w1 u) H1 → va_D A (wr ++ w1 u) → va_S A s.heap H1 locs1 → W p l e R s m args below meth c H1 locs1 cells slots Q (F0 m (pc + 3) ls (.int r :: rest))) :
    W p l e R s m args below meth c H locs cells slots Q (F0 m pc ls st0) := by
  rw [Bool.and_eq_true] at hnd
  have hFc := va_free (wc := wc) hD hS hA isC hC
  have hDc : va_D A wc := hD.sub isC hnd.1 hC
  have hPc : va_P g.1 cl wc H := si_Psub hP isC hC
  subst hst
  refine va_calli (va_runV F (hM H.size) cw ⟨si_blind g cl wc H.size _, hrc, fun U hU hW => ⟨rfl, by rw [hU], by rw [hU]; exact hPc, va_K.moved hW.alike hK, hDc.weaken (fun _ _ _ _ => trivial), hN.warm hW⟩⟩ rfl hn hsize rfl (lv_room hW) hdg (by rw [hc0, hs0]; exact hf)) hS (fun q _ h => hFc q h) hFc (fun r u t H1 locs1 ht hvm hpost hB hz hk hS1 => ?_)
  obtain ⟨hP1, hK1, hD1⟩ := hB
  rw [ht] at hP1
  obtain ⟨hP2, hD2⟩ := va_join (w1 := w1 u) hP hD isC isR hC hR hnd.2 hdis hk hFc hP1 hD1
  rw [hc0, hs0]
  exact kk r u H1 locs1 hpost hP2 hD2 hS1
theorem si_Mi.callS {p : Program} {l : Launch} {e : Env} {R : Room} {s : State} {m : MethodId} {args : Array Value} {below : List Frame} {meth : Method} {c : Code} {H : Heap} {locs : List Loc} {cells slots : Nat} {Q : State → Prop} {cc : ByteArray} {pc nL n index maxL : Nat} {ls : Array Slot} {rest st0 As : List Value} {ret : Option FieldType} {own : String} {Ts : List Cond} {bytes : ByteArray} {A : Nat → Prop} {S : Type} {g : si_G} {cl : List vw_C} {y : MethodName} {w : List Cond} {rm : Room} {ws wc wr : va_W} {post : Int32 → S → Prop} {w1 : S → va_W}
    (hM : si_Mi l g cl y w rm As wc post w1) (F : CallFix p m c cc nL s args Ts own) (cw : CallB R s args own index y bytes maxL ret w rm rm.cells rm.slots n ∧ (Cond.static y).before args s = true)
    (hK : va_K g.1 cl (si_T g) s) (hN : si_NK s) (hP : va_P g.1 cl ws H) (hD : va_D A ws) (hS : va_S A s.heap H locs) (hA : ∀ q, s.heap.size ≤ q → A q)
    (isC isR : List Nat) (hC : isC.map (fun i => ws[i]?) = wc.map some) (hR : isR.map (fun i => ws[i]?) = wr.map some) (hnd : (va_nd isC && va_nd isR) = true) (hdis : ∀ i ∈ isR, i ∉ isC)
    (hn : As.length = n) (hsize : ls.size = nL) (hst : st0 = As.reverse ++ rest) (hW : (rest.map fun v => v.category).sum ≤ 8) (hdg : decode cc pc = .ok (.invokestatic index, 3)) (hf : cells ≤ R.cells ∧ slots ≤ R.slots)
    (hc0 : rm.cells = 0) (hs0 : rm.slots = 0)
    (kk : ∀ (r : Int32) (u : S) (H1 : Heap) (locs1 : List Loc), post r u → va_P g.1 cl (wr ++ w1 u) H1 → va_D A (wr ++ w1 u) → va_S A s.heap H1 locs1 → W p l e R s m args below meth c H1 locs1 cells slots Q (F0 m (pc + 3) ls (.int r :: rest))) :
    W p l e R s m args below meth c H locs cells slots Q (F0 m pc ls st0) := by
  rw [Bool.and_eq_true] at hnd
  have hFc := va_free (wc := wc) hD hS hA isC hC
  have hDc : va_D A wc := hD.sub isC hnd.1 hC
  have hPc : va_P g.1 cl wc H := si_Psub hP isC hC
  subst hst
  refine va_calli (va_runS F (hM H.size) cw ⟨si_blind g cl wc H.size _, fun U hU hW => ⟨rfl, by rw [hU], by rw [hU]; exact hPc, va_K.moved hW.alike hK, hDc.weaken (fun _ _ _ _ => trivial), hN.warm hW⟩⟩ rfl hn hsize rfl (lv_room hW) hdg (by rw [hc0, hs0]; exact hf)) hS (fun q _ h => hFc q h) hFc (fun r u t H1 locs1 ht hvm hpost hB hz hk hS1 => ?_)
  obtain ⟨hP1, hK1, hD1⟩ := hB
  rw [ht] at hP1
  obtain ⟨hP2, hD2⟩ := va_join (w1 := w1 u) hP hD isC isR hC hR hnd.2 hdis hk hFc hP1 hD1
  rw [hc0, hs0]
  exact kk r u H1 locs1 hpost hP2 hD2 hS1
def si_Ml {S : Type} (l : Launch) (g : si_G) (cl : List vw_C) (y : MethodName) (w : List Cond) (rm : Room) (av : List Value) (ws : va_W) (post : Int64 → S → Prop) (w1 : S → va_W) : Prop := ∀ sz : Nat, Met l y w rm (va_Pc av (si_pre g cl ws sz)) (va_Ql post (fun u t => si_at g cl (va_A ws sz) (w1 u) t) (va_A ws sz)) rm.cells rm.slots (va_A ws sz)
/-- a contract out of a walk of the body -/
theorem si_Ml.of {S : Type} {l : Launch} {g : si_G} {cl : List vw_C} {y : MethodName} {w w' : List Cond} {rm : Room} {av : List Value} {ws : va_W} {post : Int64 → S → Prop} {w1 : S → va_W} {cc : ByteArray} {maxL : Nat} (hy : plainName y.cls = true) (hw : w = Cond.code y cc maxL (some .long) :: w') (hlen : (lg_sl av).length ≤ maxL)
    (hbody : ∀ (p : Program) (e : Env) (s : State) (m : MethodId) (args : Array Value) (below : List Frame) (meth : Method) (c : Code) (A : Nat → Prop) (Q : State → Prop) (ls : Array Slot),
      CallFix p m c cc maxL s args w y.cls → meth.name = y.name → va_K g.1 cl (si_T g) s → si_NK s → va_P g.1 cl ws s.heap → va_D A ws → (∀ q, s.heap.size ≤ q → A q) → va_S A s.heap s.heap [] → lv_has ls maxL (lv_args 0 av) →
      (∀ (v : Int64) (u : S) (H : Heap) (locs : List Loc) (pc : Nat) (ls : Array Slot), post v u → va_P g.1 cl (w1 u) H → va_D A (w1 u) → va_S A s.heap H locs → decode cc pc = .ok (.lreturn, 1) → W p l e rm s m args below meth c H locs rm.cells rm.slots Q (F0 m pc ls [.long v])) →
      W p l e rm s m args below meth c s.heap [] 0 0 Q (F0 m 0 ls [])) : si_Ml l g cl y w rm av ws post w1 := by
  intro sz
  refine Met.ofW (cc := cc) (maxL := maxL) (ret := (some .long)) hy hw ?_
  intro p e s m args below meth c s₁ B hml hv
  obtain ⟨rfl, hsz, hP, hK, hD0, hN⟩ := hv
  subst hsz
  have hD := hD0.self (sz := s.heap.size)
  have hr := B.returns
  have hlocks := B.notSynchronized
  have hl := lv_entry av (n := maxL) hlen
  rw [lg_entry_eq]
  refine hbody p e s m av.toArray below meth c (va_A ws s.heap.size) _ _ ⟨B.exec, B.bytes, hml, findClass_of_methodNamed B.named, atoms_spec (ws := w) B.pre⟩ (name_of_methodNamed B.named B.method).1 hK hN hP hD (fun q h => Or.inr h) va_S.rf hl ?_
  intro v u H locs pc ls hpost hP1 hD1 hS hdg
  exact W.lret B.exec B.bytes hr (fun t ht hW => ⟨⟨v, u, rfl, hpost, by rw [ht]; exact hP1, va_K.moved hW.alike hK, hD1⟩, hS.F ht⟩) hS.2.2 hdg
theorem si_Ml.callV {p : Program} {l : Launch} {e : Env} {R : Room} {s : State} {m : MethodId} {args : Array Value} {below : List Frame} {meth : Method} {c : Code} {H : Heap} {locs : List Loc} {cells slots : Nat} {Q : State → Prop} {cc : ByteArray} {pc nL n index maxL : Nat} {ls : Array Slot} {rest st0 As : List Value} {b : Addr} {C : String} {ret : Option FieldType} {own : String} {Ts : List Cond} {bytes : ByteArray} {A : Nat → Prop} {S : Type} {g : si_G} {cl : List vw_C} {y : MethodName} {w : List Cond} {rm : Room} {ws wc wr : va_W} {post : Int64 → S → Prop} {w1 : S → va_W}
    (hM : si_Ml l g cl y w rm (.ref b :: As) wc post w1) (F : CallFix p m c cc nL s args Ts own) (cw : CallW R s args own C index y bytes maxL ret w rm rm.cells rm.slots n)
    (hK : va_K g.1 cl (si_T g) s) (hN : si_NK s) (hP : va_P g.1 cl ws H) (hD : va_D A ws) (hS : va_S A s.heap H locs) (hA : ∀ q, s.heap.size ≤ q → A q)
    (isC isR : List Nat) (hC : isC.map (fun i => ws[i]?) = wc.map some) (hR : isR.map (fun i => ws[i]?) = wr.map some) (hnd : (va_nd isC && va_nd isR) = true) (hdis : ∀ i ∈ isR, i ∉ isC) (hrc : ∃ cell : Cell, H[b]? = some cell ∧ cell.vm.isStatics = false ∧ s.vm.findClass C = some cell.cls)
    (hn : As.length = n) (hsize : ls.size = nL) (hst : st0 = As.reverse ++ .ref b :: rest) (hW : (rest.map fun v => v.category).sum ≤ 8) (hdg : decode cc pc = .ok (.invokevirtual index, 3)) (hf : cells ≤ R.cells ∧ slots ≤ R.slots)
    (hc0 : rm.cells = 0) (hs0 : rm.slots = 0)
    (kk : ∀ (r : Int64) (u : S) (H1 : Heap) (locs1 : List Loc), post r u → va_P g.1 cl (wr ++ w1 u) H1 → va_D A (wr ++ w1 u) → va_S A s.heap H1 locs1 → W p l e R s m args below meth c H1 locs1 cells slots Q (F0 m (pc + 3) ls (.long r :: rest))) :
    W p l e R s m args below meth c H locs cells slots Q (F0 m pc ls st0) := by
  rw [Bool.and_eq_true] at hnd
  have hFc := va_free (wc := wc) hD hS hA isC hC
  have hDc : va_D A wc := hD.sub isC hnd.1 hC
  have hPc : va_P g.1 cl wc H := si_Psub hP isC hC
  subst hst
  refine va_calll (va_runV F (hM H.size) cw ⟨si_blind g cl wc H.size _, hrc, fun U hU hW => ⟨rfl, by rw [hU], by rw [hU]; exact hPc, va_K.moved hW.alike hK, hDc.weaken (fun _ _ _ _ => trivial), hN.warm hW⟩⟩ rfl hn hsize rfl (lv_room hW) hdg (by rw [hc0, hs0]; exact hf)) hS (fun q _ h => hFc q h) hFc (fun r u t H1 locs1 ht hvm hpost hB hz hk hS1 => ?_)
  obtain ⟨hP1, hK1, hD1⟩ := hB
  rw [ht] at hP1
  obtain ⟨hP2, hD2⟩ := va_join (w1 := w1 u) hP hD isC isR hC hR hnd.2 hdis hk hFc hP1 hD1
  rw [hc0, hs0]
  exact kk r u H1 locs1 hpost hP2 hD2 hS1
theorem si_Ml.callS {p : Program} {l : Launch} {e : Env} {R : Room} {s : State} {m : MethodId} {args : Array Value} {below : List Frame} {meth : Method} {c : Code} {H : Heap} {locs : List Loc} {cells slots : Nat} {Q : State → Prop} {cc : ByteArray} {pc nL n index maxL : Nat} {ls : Array Slot} {rest st0 As : List Value} {ret : Option FieldType} {own : String} {Ts : List Cond} {bytes : ByteArray} {A : Nat → Prop} {S : Type} {g : si_G} {cl : List vw_C} {y : MethodName} {w : List Cond} {rm : Room} {ws wc wr : va_W} {post : Int64 → S → Prop} {w1 : S → va_W}
    (hM : si_Ml l g cl y w rm As wc post w1) (F : CallFix p m c cc nL s args Ts own) (cw : CallB R s args own index y bytes maxL ret w rm rm.cells rm.slots n ∧ (Cond.static y).before args s = true)
    (hK : va_K g.1 cl (si_T g) s) (hN : si_NK s) (hP : va_P g.1 cl ws H) (hD : va_D A ws) (hS : va_S A s.heap H locs) (hA : ∀ q, s.heap.size ≤ q → A q)
    (isC isR : List Nat) (hC : isC.map (fun i => ws[i]?) = wc.map some) (hR : isR.map (fun i => ws[i]?) = wr.map some) (hnd : (va_nd isC && va_nd isR) = true) (hdis : ∀ i ∈ isR, i ∉ isC)
    (hn : As.length = n) (hsize : ls.size = nL) (hst : st0 = As.reverse ++ rest) (hW : (rest.map fun v => v.category).sum ≤ 8) (hdg : decode cc pc = .ok (.invokestatic index, 3)) (hf : cells ≤ R.cells ∧ slots ≤ R.slots)
    (hc0 : rm.cells = 0) (hs0 : rm.slots = 0)
    (kk : ∀ (r : Int64) (u : S) (H1 : Heap) (locs1 : List Loc), post r u → va_P g.1 cl (wr ++ w1 u) H1 → va_D A (wr ++ w1 u) → va_S A s.heap H1 locs1 → W p l e R s m args below meth c H1 locs1 cells slots Q (F0 m (pc + 3) ls (.long r :: rest))) :
    W p l e R s m args below meth c H locs cells slots Q (F0 m pc ls st0) := by
  rw [Bool.and_eq_true] at hnd
  have hFc := va_free (wc := wc) hD hS hA isC hC
  have hDc : va_D A wc := hD.sub isC hnd.1 hC
  have hPc : va_P g.1 cl wc H := si_Psub hP isC hC
  subst hst
  refine va_calll (va_runS F (hM H.size) cw ⟨si_blind g cl wc H.size _, fun U hU hW => ⟨rfl, by rw [hU], by rw [hU]; exact hPc, va_K.moved hW.alike hK, hDc.weaken (fun _ _ _ _ => trivial), hN.warm hW⟩⟩ rfl hn hsize rfl (lv_room hW) hdg (by rw [hc0, hs0]; exact hf)) hS (fun q _ h => hFc q h) hFc (fun r u t H1 locs1 ht hvm hpost hB hz hk hS1 => ?_)
  obtain ⟨hP1, hK1, hD1⟩ := hB
  rw [ht] at hP1
  obtain ⟨hP2, hD2⟩ := va_join (w1 := w1 u) hP hD isC isR hC hR hnd.2 hdis hk hFc hP1 hD1
  rw [hc0, hs0]
  exact kk r u H1 locs1 hpost hP2 hD2 hS1
def si_Mv {S : Type} (l : Launch) (g : si_G) (cl : List vw_C) (y : MethodName) (w : List Cond) (rm : Room) (av : List Value) (ws : va_W) (post : S → Prop) (w1 : S → va_W) : Prop := ∀ sz : Nat, Met l y w rm (va_Pc av (si_pre g cl ws sz)) (va_Qv post (fun u t => si_at g cl (va_A ws sz) (w1 u) t) (va_A ws sz)) rm.cells rm.slots (va_A ws sz)
/-- a contract out of a walk of the body -/
theorem si_Mv.of {S : Type} {l : Launch} {g : si_G} {cl : List vw_C} {y : MethodName} {w w' : List Cond} {rm : Room} {av : List Value} {ws : va_W} {post : S → Prop} {w1 : S → va_W} {cc : ByteArray} {maxL : Nat} (hy : plainName y.cls = true) (hw : w = Cond.code y cc maxL none :: w') (hlen : (lg_sl av).length ≤ maxL)
    (hbody : ∀ (p : Program) (e : Env) (s : State) (m : MethodId) (args : Array Value) (below : List Frame) (meth : Method) (c : Code) (A : Nat → Prop) (Q : State → Prop) (ls : Array Slot),
      CallFix p m c cc maxL s args w y.cls → meth.name = y.name → va_K g.1 cl (si_T g) s → si_NK s → va_P g.1 cl ws s.heap → va_D A ws → (∀ q, s.heap.size ≤ q → A q) → va_S A s.heap s.heap [] → lv_has ls maxL (lv_args 0 av) →
      (∀ (u : S) (H : Heap) (locs : List Loc) (pc : Nat) (ls : Array Slot), post u → va_P g.1 cl (w1 u) H → va_D A (w1 u) → va_S A s.heap H locs → decode cc pc = .ok (.return_, 1) → W p l e rm s m args below meth c H locs rm.cells rm.slots Q (F0 m pc ls [])) →
      W p l e rm s m args below meth c s.heap [] 0 0 Q (F0 m 0 ls [])) : si_Mv l g cl y w rm av ws post w1 := by
  intro sz
  refine Met.ofW (cc := cc) (maxL := maxL) (ret := none) hy hw ?_
  intro p e s m args below meth c s₁ B hml hv
  obtain ⟨rfl, hsz, hP, hK, hD0, hN⟩ := hv
  subst hsz
  have hD := hD0.self (sz := s.heap.size)
  have hr := B.returns
  have hlocks := B.notSynchronized
  have hl := lv_entry av (n := maxL) hlen
  rw [lg_entry_eq]
  refine hbody p e s m av.toArray below meth c (va_A ws s.heap.size) _ _ ⟨B.exec, B.bytes, hml, findClass_of_methodNamed B.named, atoms_spec (ws := w) B.pre⟩ (name_of_methodNamed B.named B.method).1 hK hN hP hD (fun q h => Or.inr h) va_S.rf hl ?_
  intro u H locs pc ls hpost hP1 hD1 hS hdg
  exact W.vret B.exec B.bytes hr (fun t ht hW => ⟨⟨u, rfl, hpost, by rw [ht]; exact hP1, va_K.moved hW.alike hK, hD1⟩, hS.F ht⟩) hS.2.2 hdg
theorem si_Mv.callV {p : Program} {l : Launch} {e : Env} {R : Room} {s : State} {m : MethodId} {args : Array Value} {below : List Frame} {meth : Method} {c : Code} {H : Heap} {locs : List Loc} {cells slots : Nat} {Q : State → Prop} {cc : ByteArray} {pc nL n index maxL : Nat} {ls : Array Slot} {rest st0 As : List Value} {b : Addr} {C : String} {ret : Option FieldType} {own : String} {Ts : List Cond} {bytes : ByteArray} {A : Nat → Prop} {S : Type} {g : si_G} {cl : List vw_C} {y : MethodName} {w : List Cond} {rm : Room} {ws wc wr : va_W} {post : S → Prop} {w1 : S → va_W}
    (hM : si_Mv l g cl y w rm (.ref b :: As) wc post w1) (F : CallFix p m c cc nL s args Ts own) (cw : CallW R s args own C index y bytes maxL ret w rm rm.cells rm.slots n)
    (hK : va_K g.1 cl (si_T g) s) (hN : si_NK s) (hP : va_P g.1 cl ws H) (hD : va_D A ws) (hS : va_S A s.heap H locs) (hA : ∀ q, s.heap.size ≤ q → A q)
    (isC isR : List Nat) (hC : isC.map (fun i => ws[i]?) = wc.map some) (hR : isR.map (fun i => ws[i]?) = wr.map some) (hnd : (va_nd isC && va_nd isR) = true) (hdis : ∀ i ∈ isR, i ∉ isC) (hrc : ∃ cell : Cell, H[b]? = some cell ∧ cell.vm.isStatics = false ∧ s.vm.findClass C = some cell.cls)
    (hn : As.length = n) (hsize : ls.size = nL) (hst : st0 = As.reverse ++ .ref b :: rest) (hW : (rest.map fun v => v.category).sum ≤ 8) (hdg : decode cc pc = .ok (.invokevirtual index, 3)) (hf : cells ≤ R.cells ∧ slots ≤ R.slots)
    (hc0 : rm.cells = 0) (hs0 : rm.slots = 0)
    (kk : ∀ (u : S) (H1 : Heap) (locs1 : List Loc), post u → va_P g.1 cl (wr ++ w1 u) H1 → va_D A (wr ++ w1 u) → va_S A s.heap H1 locs1 → W p l e R s m args below meth c H1 locs1 cells slots Q (F0 m (pc + 3) ls (rest))) :
    W p l e R s m args below meth c H locs cells slots Q (F0 m pc ls st0) := by
  rw [Bool.and_eq_true] at hnd
  have hFc := va_free (wc := wc) hD hS hA isC hC
  have hDc : va_D A wc := hD.sub isC hnd.1 hC
  have hPc : va_P g.1 cl wc H := si_Psub hP isC hC
  subst hst
  refine va_callv (va_runV F (hM H.size) cw ⟨si_blind g cl wc H.size _, hrc, fun U hU hW => ⟨rfl, by rw [hU], by rw [hU]; exact hPc, va_K.moved hW.alike hK, hDc.weaken (fun _ _ _ _ => trivial), hN.warm hW⟩⟩ rfl hn hsize rfl (lv_room hW) hdg (by rw [hc0, hs0]; exact hf)) hS (fun q _ h => hFc q h) hFc (fun u t H1 locs1 ht hvm hpost hB hz hk hS1 => ?_)
  obtain ⟨hP1, hK1, hD1⟩ := hB
  rw [ht] at hP1
  obtain ⟨hP2, hD2⟩ := va_join (w1 := w1 u) hP hD isC isR hC hR hnd.2 hdis hk hFc hP1 hD1
  rw [hc0, hs0]
  exact kk u H1 locs1 hpost hP2 hD2 hS1
theorem si_Mv.callS {p : Program} {l : Launch} {e : Env} {R : Room} {s : State} {m : MethodId} {args : Array Value} {below : List Frame} {meth : Method} {c : Code} {H : Heap} {locs : List Loc} {cells slots : Nat} {Q : State → Prop} {cc : ByteArray} {pc nL n index maxL : Nat} {ls : Array Slot} {rest st0 As : List Value} {ret : Option FieldType} {own : String} {Ts : List Cond} {bytes : ByteArray} {A : Nat → Prop} {S : Type} {g : si_G} {cl : List vw_C} {y : MethodName} {w : List Cond} {rm : Room} {ws wc wr : va_W} {post : S → Prop} {w1 : S → va_W}
    (hM : si_Mv l g cl y w rm As wc post w1) (F : CallFix p m c cc nL s args Ts own) (cw : CallB R s args own index y bytes maxL ret w rm rm.cells rm.slots n ∧ (Cond.static y).before args s = true)
    (hK : va_K g.1 cl (si_T g) s) (hN : si_NK s) (hP : va_P g.1 cl ws H) (hD : va_D A ws) (hS : va_S A s.heap H locs) (hA : ∀ q, s.heap.size ≤ q → A q)
    (isC isR : List Nat) (hC : isC.map (fun i => ws[i]?) = wc.map some) (hR : isR.map (fun i => ws[i]?) = wr.map some) (hnd : (va_nd isC && va_nd isR) = true) (hdis : ∀ i ∈ isR, i ∉ isC)
    (hn : As.length = n) (hsize : ls.size = nL) (hst : st0 = As.reverse ++ rest) (hW : (rest.map fun v => v.category).sum ≤ 8) (hdg : decode cc pc = .ok (.invokestatic index, 3)) (hf : cells ≤ R.cells ∧ slots ≤ R.slots)
    (hc0 : rm.cells = 0) (hs0 : rm.slots = 0)
    (kk : ∀ (u : S) (H1 : Heap) (locs1 : List Loc), post u → va_P g.1 cl (wr ++ w1 u) H1 → va_D A (wr ++ w1 u) → va_S A s.heap H1 locs1 → W p l e R s m args below meth c H1 locs1 cells slots Q (F0 m (pc + 3) ls (rest))) :
    W p l e R s m args below meth c H locs cells slots Q (F0 m pc ls st0) := by
  rw [Bool.and_eq_true] at hnd
  have hFc := va_free (wc := wc) hD hS hA isC hC
  have hDc : va_D A wc := hD.sub isC hnd.1 hC
  have hPc : va_P g.1 cl wc H := si_Psub hP isC hC
  subst hst
  refine va_callv (va_runS F (hM H.size) cw ⟨si_blind g cl wc H.size _, fun U hU hW => ⟨rfl, by rw [hU], by rw [hU]; exact hPc, va_K.moved hW.alike hK, hDc.weaken (fun _ _ _ _ => trivial), hN.warm hW⟩⟩ rfl hn hsize rfl (lv_room hW) hdg (by rw [hc0, hs0]; exact hf)) hS (fun q _ h => hFc q h) hFc (fun u t H1 locs1 ht hvm hpost hB hz hk hS1 => ?_)
  obtain ⟨hP1, hK1, hD1⟩ := hB
  rw [ht] at hP1
  obtain ⟨hP2, hD2⟩ := va_join (w1 := w1 u) hP hD isC isR hC hR hnd.2 hdis hk hFc hP1 hD1
  rw [hc0, hs0]
  exact kk u H1 locs1 hpost hP2 hD2 hS1
theorem si_Mv.callI {p : Program} {l : Launch} {e : Env} {R : Room} {s : State} {m : MethodId} {args : Array Value} {below : List Frame} {meth : Method} {c : Code} {H : Heap} {locs : List Loc} {cells slots : Nat} {Q : State → Prop} {cc : ByteArray} {pc nL n index maxL : Nat} {ls : Array Slot} {rest st0 As : List Value} {b : Addr} {own : String} {Ts : List Cond} {bytes : ByteArray} {A : Nat → Prop} {S : Type} {g : si_G} {cl : List vw_C} {y : MethodName} {w : List Cond} {rm : Room} {ws wc wr : va_W} {post : S → Prop} {w1 : S → va_W}
    (hM : si_Mv l g cl y w rm (.ref b :: As) wc post w1) (F : CallFix p m c cc nL s args Ts own) (cw : CallB R s args own index y bytes maxL none w rm rm.cells rm.slots n ∧ y.name = "<init>" ∧ (Cond.instanceMethod y).before args s = true)
    (hK : va_K g.1 cl (si_T g) s) (hN : si_NK s) (hP : va_P g.1 cl ws H) (hD : va_D A ws) (hS : va_S A s.heap H locs) (hA : ∀ q, s.heap.size ≤ q → A q)
    (isC isR : List Nat) (hC : isC.map (fun i => ws[i]?) = wc.map some) (hR : isR.map (fun i => ws[i]?) = wr.map some) (hnd : (va_nd isC && va_nd isR) = true) (hdis : ∀ i ∈ isR, i ∉ isC)
    (hn : As.length = n) (hsize : ls.size = nL) (hst : st0 = As.reverse ++ .ref b :: rest) (hW : (rest.map fun v => v.category).sum ≤ 8) (hdg : decode cc pc = .ok (.invokespecial index, 3)) (hf : cells + rm.cells ≤ R.cells ∧ slots + rm.slots ≤ R.slots)
    (kk : ∀ (u : S) (H1 : Heap) (locs1 : List Loc), post u → va_P g.1 cl (wr ++ w1 u) H1 → va_D A (wr ++ w1 u) → va_S A s.heap H1 locs1 → W p l e R s m args below meth c H1 locs1 (cells + rm.cells) (slots + rm.slots) Q (F0 m (pc + 3) ls (rest))) :
    W p l e R s m args below meth c H locs cells slots Q (F0 m pc ls st0) := by
  rw [Bool.and_eq_true] at hnd
  have hFc := va_free (wc := wc) hD hS hA isC hC
  have hDc : va_D A wc := hD.sub isC hnd.1 hC
  have hPc : va_P g.1 cl wc H := si_Psub hP isC hC
  subst hst
  refine va_callv (va_runI F (hM H.size) cw ⟨si_blind g cl wc H.size _, fun U hU hW => ⟨rfl, by rw [hU], by rw [hU]; exact hPc, va_K.moved hW.alike hK, hDc.weaken (fun _ _ _ _ => trivial), hN.warm hW⟩⟩ rfl hn hsize rfl (lv_room hW) hdg hf) hS (fun q _ h => hFc q h) hFc (fun u t H1 locs1 ht hvm hpost hB hz hk hS1 => ?_)
  obtain ⟨hP1, hK1, hD1⟩ := hB
  rw [ht] at hP1
  obtain ⟨hP2, hD2⟩ := va_join (w1 := w1 u) hP hD isC isR hC hR hnd.2 hdis hk hFc hP1 hD1
  exact kk u H1 locs1 hpost hP2 hD2 hS1
end
section
/-! Names, fields, words. Written by wip/draft/gen_names.py out of the claim's listing. -/
/-- the tables' words that every call keeps -/
def si_tbl : List Cond := lw_tbl.filter goodWord
theorem si_in {w : Cond} (i : Nat) (h : tables_1[i]? = some w) (hg : goodWord w = true := by decide +kernel) : w ∈ si_tbl := List.mem_filter.mpr ⟨List.mem_append_right _ (List.mem_of_getElem? h), hg⟩
theorem si_inN {w : Cond} (i : Nat) (h : tables_1[i]? = some w) (hg : si_isN w = true := by decide +kernel) : w ∈ si_nst := List.mem_filter.mpr ⟨List.mem_of_getElem? h, hg⟩
theorem si_ins {w : Cond} (h : w ∈ k2_sels lw_privs) (hg : goodWord w = true := by decide +kernel) : w ∈ si_tbl := List.mem_filter.mpr ⟨List.mem_append_left _ h, hg⟩
theorem si_inu {C : String} {T : u_T} {N : Nat} (h : ∀ w ∈ u_ws C T N, w ∈ lw_tbl) (hg : (u_ws C T N).all goodWord = true) : ∀ w ∈ u_ws C T N, w ∈ si_tbl := fun w hw => List.mem_filter.mpr ⟨h w hw, List.all_eq_true.mp hg w hw⟩
abbrev zRB : String := "SelfIndexImage$Befores"
abbrev zRI : String := "SelfIndexImage$Image"
abbrev zRL : String := "SelfIndexImage$Line"
abbrev zRR : String := "SelfIndexImage$Reading"
abbrev zRS : String := "SelfIndexImage$Suffixes"
abbrev zRX : String := "SelfIndexImage"
abbrev zRM : String := "SelfIndexImageModel"
abbrev zRW : String := "SelfIndexImageLaw"
abbrev zRJ : String := "java/lang/Long"
def zTB : u_T := fun k => match k with
  | 0 => ("SelfIndexImage$Befores", "codes", "[I", true)
  | 1 => ("SelfIndexImage$Befores", "order", "[I", true)
  | 2 => ("SelfIndexImage$Befores", "ones", "[I", true)
  | 3 => ("SelfIndexImage$Befores", "following", "[I", true)
  | _ => ("SelfIndexImage$Befores", "last", "I", false)
def ztB : Nat → FieldType := fun k => match k with
  | 0 => .array .int
  | 1 => .array .int
  | 2 => .array .int
  | 3 => .array .int
  | _ => .int
theorem znB : ∀ a, a < 5 → ∀ b, b < 5 → a ≠ b → (zTB a).2.1 ≠ (zTB b).2.1 := by decide +kernel
theorem ztoB : ∀ k, k < 5 → parseFieldDescriptor (zTB k).2.2.1 = some (ztB k) := by decide +kernel
theorem ziB : ∀ w ∈ u_ws zRB zTB 5, w ∈ si_tbl := si_inu (by decide +kernel) (by decide +kernel)
def zTI : u_T := fun k => match k with
  | _ => ("SelfIndexImage$Image", "words", "[J", true)
def ztI : Nat → FieldType := fun k => match k with
  | _ => .array .long
theorem znI : ∀ a, a < 1 → ∀ b, b < 1 → a ≠ b → (zTI a).2.1 ≠ (zTI b).2.1 := by decide +kernel
theorem ztoI : ∀ k, k < 1 → parseFieldDescriptor (zTI k).2.2.1 = some (ztI k) := by decide +kernel
theorem ziI : ∀ w ∈ u_ws zRI zTI 1, w ∈ si_tbl := si_inu (by decide +kernel) (by decide +kernel)
def zTL : u_T := fun k => match k with
  | 0 => ("SelfIndexImage$Line", "codes", "[I", true)
  | _ => ("SelfIndexImage$Line", "size", "I", false)
def ztL : Nat → FieldType := fun k => match k with
  | 0 => .array .int
  | _ => .int
theorem znL : ∀ a, a < 2 → ∀ b, b < 2 → a ≠ b → (zTL a).2.1 ≠ (zTL b).2.1 := by decide +kernel
theorem ztoL : ∀ k, k < 2 → parseFieldDescriptor (zTL k).2.2.1 = some (ztL k) := by decide +kernel
theorem ziL : ∀ w ∈ u_ws zRL zTL 2, w ∈ si_tbl := si_inu (by decide +kernel) (by decide +kernel)
def zTR : u_T := fun k => match k with
  | 0 => ("SelfIndexImage$Reading", "text", "LSelfIndexImage$Line;", true)
  | 1 => ("SelfIndexImage$Reading", "suffixes", "LSelfIndexImage$Suffixes;", true)
  | _ => ("SelfIndexImage$Reading", "rate", "I", false)
def ztR : Nat → FieldType := fun k => match k with
  | 0 => .object "SelfIndexImage$Line"
  | 1 => .object "SelfIndexImage$Suffixes"
  | _ => .int
theorem znR : ∀ a, a < 3 → ∀ b, b < 3 → a ≠ b → (zTR a).2.1 ≠ (zTR b).2.1 := by decide +kernel
theorem ztoR : ∀ k, k < 3 → parseFieldDescriptor (zTR k).2.2.1 = some (ztR k) := by decide +kernel
theorem ziR : ∀ w ∈ u_ws zRR zTR 3, w ∈ si_tbl := si_inu (by decide +kernel) (by decide +kernel)
def zTS : u_T := fun k => match k with
  | 0 => ("SelfIndexImage$Suffixes", "rows", "[I", true)
  | 1 => ("SelfIndexImage$Suffixes", "places", "[I", true)
  | _ => ("SelfIndexImage$Suffixes", "last", "I", false)
def ztS : Nat → FieldType := fun k => match k with
  | 0 => .array .int
  | 1 => .array .int
  | _ => .int
theorem znS : ∀ a, a < 3 → ∀ b, b < 3 → a ≠ b → (zTS a).2.1 ≠ (zTS b).2.1 := by decide +kernel
theorem ztoS : ∀ k, k < 3 → parseFieldDescriptor (zTS k).2.2.1 = some (ztS k) := by decide +kernel
theorem ziS : ∀ w ∈ u_ws zRS zTS 3, w ∈ si_tbl := si_inu (by decide +kernel) (by decide +kernel)
def zTX : u_T := fun k => match k with
  | 0 => ("SelfIndexImage", "written", "LSelfIndexImage$Line;", true)
  | 1 => ("SelfIndexImage", "pattern", "LSelfIndexImage$Line;", true)
  | 2 => ("SelfIndexImage", "desk", "LSelfIndexImage$Image;", true)
  | 3 => ("SelfIndexImage", "redrawn", "LSelfIndexImage$Image;", true)
  | 4 => ("SelfIndexImage", "befores", "LSelfIndexImage$Befores;", true)
  | 5 => ("SelfIndexImage", "loaded", "LSelfIndexImage$Reading;", false)
  | _ => ("SelfIndexImage", "trial", "LSelfIndexImage$Reading;", false)
def ztX : Nat → FieldType := fun k => match k with
  | 0 => .object "SelfIndexImage$Line"
  | 1 => .object "SelfIndexImage$Line"
  | 2 => .object "SelfIndexImage$Image"
  | 3 => .object "SelfIndexImage$Image"
  | 4 => .object "SelfIndexImage$Befores"
  | 5 => .object "SelfIndexImage$Reading"
  | _ => .object "SelfIndexImage$Reading"
theorem znX : ∀ a, a < 7 → ∀ b, b < 7 → a ≠ b → (zTX a).2.1 ≠ (zTX b).2.1 := by decide +kernel
theorem ztoX : ∀ k, k < 7 → parseFieldDescriptor (zTX k).2.2.1 = some (ztX k) := by decide +kernel
theorem ziX : ∀ w ∈ u_ws zRX zTX 7, w ∈ si_tbl := si_inu (by decide +kernel) (by decide +kernel)
def zTM : u_T := fun k => match k with
  | 0 => ("SelfIndexImageModel", "size", "I", false)
  | 1 => ("SelfIndexImageModel", "written", "[I", false)
  | 2 => ("SelfIndexImageModel", "desk", "[J", false)
  | 3 => ("SelfIndexImageModel", "there", "Z", false)
  | 4 => ("SelfIndexImageModel", "n", "I", false)
  | 5 => ("SelfIndexImageModel", "text", "[I", false)
  | 6 => ("SelfIndexImageModel", "every", "I", false)
  | 7 => ("SelfIndexImageModel", "places", "[I", false)
  | 8 => ("SelfIndexImageModel", "rows", "[I", false)
  | 9 => ("SelfIndexImageModel", "asked", "I", false)
  | 10 => ("SelfIndexImageModel", "pattern", "[I", false)
  | 11 => ("SelfIndexImageModel", "m", "I", false)
  | 12 => ("SelfIndexImageModel", "work", "[I", false)
  | 13 => ("SelfIndexImageModel", "order", "[I", false)
  | 14 => ("SelfIndexImageModel", "back", "[I", false)
  | 15 => ("SelfIndexImageModel", "image", "[J", false)
  | 16 => ("SelfIndexImageModel", "now", "[I", false)
  | 17 => ("SelfIndexImageModel", "then", "[I", false)
  | _ => ("SelfIndexImageModel", "code", "[I", false)
def ztM : Nat → FieldType := fun k => match k with
  | 0 => .int
  | 1 => .array .int
  | 2 => .array .long
  | 3 => .boolean
  | 4 => .int
  | 5 => .array .int
  | 6 => .int
  | 7 => .array .int
  | 8 => .array .int
  | 9 => .int
  | 10 => .array .int
  | 11 => .int
  | 12 => .array .int
  | 13 => .array .int
  | 14 => .array .int
  | 15 => .array .long
  | 16 => .array .int
  | 17 => .array .int
  | _ => .array .int
theorem znM : ∀ a, a < 19 → ∀ b, b < 19 → a ≠ b → (zTM a).2.1 ≠ (zTM b).2.1 := by decide +kernel
theorem ztoM : ∀ k, k < 19 → parseFieldDescriptor (zTM k).2.2.1 = some (ztM k) := by decide +kernel
theorem ziM : ∀ w ∈ u_ws zRM zTM 19, w ∈ si_tbl := si_inu (by decide +kernel) (by decide +kernel)
abbrev vwCl : List vw_C := [(zRB, zTB, 5), (zRI, zTI, 1), (zRL, zTL, 2), (zRR, zTR, 3), (zRS, zTS, 3), (zRX, zTX, 7), (zRM, zTM, 19)]
theorem ziniW : Cond.initialized zRW ∈ si_tbl := si_in 0 (by decide +kernel)
theorem ziniX : Cond.initialized zRX ∈ si_tbl := si_in 1 (by decide +kernel)
theorem ziniL : Cond.initialized zRL ∈ si_tbl := si_in 2 (by decide +kernel)
theorem ziniI : Cond.initialized zRI ∈ si_tbl := si_in 3 (by decide +kernel)
theorem ziniB : Cond.initialized zRB ∈ si_tbl := si_in 4 (by decide +kernel)
theorem ziniR : Cond.initialized zRR ∈ si_tbl := si_in 5 (by decide +kernel)
theorem ziniS : Cond.initialized zRS ∈ si_tbl := si_in 6 (by decide +kernel)
theorem ziniM : Cond.initialized zRM ∈ si_tbl := si_in 7 (by decide +kernel)
theorem ziniJ : Cond.initialized zRJ ∈ si_tbl := si_in 8 (by decide +kernel)
abbrev zkX_init : ByteArray := prog_1_method_1_code
abbrev zyX_init : MethodName := ⟨zRX, "<init>", "()V"⟩
abbrev zwX_init : List Cond := .code zyX_init zkX_init 1 none :: si_tbl
theorem zcX_init : Cond.code zyX_init zkX_init 1 none ∈ si_tbl := si_in 13 (by decide +kernel)
theorem zimX_init : Cond.instanceMethod zyX_init ∈ si_tbl := si_in 12 (by decide +kernel)
abbrev zkX_write : ByteArray := prog_1_method_2_code
abbrev zyX_write : MethodName := ⟨zRX, "write", "(C)Z"⟩
abbrev zwX_write : List Cond := .code zyX_write zkX_write 2 (some .boolean) :: si_tbl
theorem zcX_write : Cond.code zyX_write zkX_write 2 (some .boolean) ∈ si_tbl := si_in 137 (by decide +kernel)
theorem zimX_write : Cond.instanceMethod zyX_write ∈ si_tbl := si_in 135 (by decide +kernel)
theorem zseX_write : Cond.selects zRX zyX_write zyX_write ∈ si_tbl := si_in 136 (by decide +kernel)
abbrev zkX_erase : ByteArray := prog_1_method_3_code
abbrev zyX_erase : MethodName := ⟨zRX, "erase", "()V"⟩
abbrev zwX_erase : List Cond := .code zyX_erase zkX_erase 1 none :: si_tbl
theorem zcX_erase : Cond.code zyX_erase zkX_erase 1 none ∈ si_tbl := si_in 145 (by decide +kernel)
theorem zimX_erase : Cond.instanceMethod zyX_erase ∈ si_tbl := si_in 143 (by decide +kernel)
theorem zseX_erase : Cond.selects zRX zyX_erase zyX_erase ∈ si_tbl := si_in 144 (by decide +kernel)
abbrev zkX_build : ByteArray := prog_1_method_4_code
abbrev zyX_build : MethodName := ⟨zRX, "build", "(I)Z"⟩
abbrev zwX_build : List Cond := .code zyX_build zkX_build 2 (some .boolean) :: si_tbl
theorem zcX_build : Cond.code zyX_build zkX_build 2 (some .boolean) ∈ si_tbl := si_in 153 (by decide +kernel)
theorem zimX_build : Cond.instanceMethod zyX_build ∈ si_tbl := si_in 151 (by decide +kernel)
theorem zseX_build : Cond.selects zRX zyX_build zyX_build ∈ si_tbl := si_in 152 (by decide +kernel)
abbrev zkX_word : ByteArray := prog_1_method_5_code
abbrev zyX_word : MethodName := ⟨zRX, "word", "(I)J"⟩
abbrev zwX_word : List Cond := .code zyX_word zkX_word 2 (some .long) :: si_tbl
theorem zcX_word : Cond.code zyX_word zkX_word 2 (some .long) ∈ si_tbl := si_in 214 (by decide +kernel)
theorem zimX_word : Cond.instanceMethod zyX_word ∈ si_tbl := si_in 212 (by decide +kernel)
theorem zseX_word : Cond.selects zRX zyX_word zyX_word ∈ si_tbl := si_in 213 (by decide +kernel)
abbrev zkX_put : ByteArray := prog_1_method_6_code
abbrev zyX_put : MethodName := ⟨zRX, "put", "(IJ)Z"⟩
abbrev zwX_put : List Cond := .code zyX_put zkX_put 4 (some .boolean) :: si_tbl
theorem zcX_put : Cond.code zyX_put zkX_put 4 (some .boolean) ∈ si_tbl := si_in 221 (by decide +kernel)
theorem zimX_put : Cond.instanceMethod zyX_put ∈ si_tbl := si_in 219 (by decide +kernel)
theorem zseX_put : Cond.selects zRX zyX_put zyX_put ∈ si_tbl := si_in 220 (by decide +kernel)
abbrev zkX_flip : ByteArray := prog_1_method_7_code
abbrev zyX_flip : MethodName := ⟨zRX, "flip", "(II)Z"⟩
abbrev zwX_flip : List Cond := .code zyX_flip zkX_flip 3 (some .boolean) :: si_tbl
theorem zcX_flip : Cond.code zyX_flip zkX_flip 3 (some .boolean) ∈ si_tbl := si_in 225 (by decide +kernel)
theorem zimX_flip : Cond.instanceMethod zyX_flip ∈ si_tbl := si_in 223 (by decide +kernel)
theorem zseX_flip : Cond.selects zRX zyX_flip zyX_flip ∈ si_tbl := si_in 224 (by decide +kernel)
abbrev zkX_load : ByteArray := prog_1_method_8_code
abbrev zyX_load : MethodName := ⟨zRX, "load", "()Z"⟩
abbrev zwX_load : List Cond := .code zyX_load zkX_load 2 (some .boolean) :: si_tbl
theorem zcX_load : Cond.code zyX_load zkX_load 2 (some .boolean) ∈ si_tbl := si_in 229 (by decide +kernel)
theorem zimX_load : Cond.instanceMethod zyX_load ∈ si_tbl := si_in 227 (by decide +kernel)
theorem zseX_load : Cond.selects zRX zyX_load zyX_load ∈ si_tbl := si_in 228 (by decide +kernel)
abbrev zkX_length : ByteArray := prog_1_method_9_code
abbrev zyX_length : MethodName := ⟨zRX, "length", "()I"⟩
abbrev zwX_length : List Cond := .code zyX_length zkX_length 1 (some .int) :: si_tbl
theorem zcX_length : Cond.code zyX_length zkX_length 1 (some .int) ∈ si_tbl := si_in 258 (by decide +kernel)
theorem zimX_length : Cond.instanceMethod zyX_length ∈ si_tbl := si_in 256 (by decide +kernel)
theorem zseX_length : Cond.selects zRX zyX_length zyX_length ∈ si_tbl := si_in 257 (by decide +kernel)
abbrev zkX_rate : ByteArray := prog_1_method_10_code
abbrev zyX_rate : MethodName := ⟨zRX, "rate", "()I"⟩
abbrev zwX_rate : List Cond := .code zyX_rate zkX_rate 1 (some .int) :: si_tbl
theorem zcX_rate : Cond.code zyX_rate zkX_rate 1 (some .int) ∈ si_tbl := si_in 266 (by decide +kernel)
theorem zimX_rate : Cond.instanceMethod zyX_rate ∈ si_tbl := si_in 264 (by decide +kernel)
theorem zseX_rate : Cond.selects zRX zyX_rate zyX_rate ∈ si_tbl := si_in 265 (by decide +kernel)
abbrev zkX_charAt : ByteArray := prog_1_method_11_code
abbrev zyX_charAt : MethodName := ⟨zRX, "charAt", "(I)I"⟩
abbrev zwX_charAt : List Cond := .code zyX_charAt zkX_charAt 2 (some .int) :: si_tbl
theorem zcX_charAt : Cond.code zyX_charAt zkX_charAt 2 (some .int) ∈ si_tbl := si_in 270 (by decide +kernel)
theorem zimX_charAt : Cond.instanceMethod zyX_charAt ∈ si_tbl := si_in 268 (by decide +kernel)
theorem zseX_charAt : Cond.selects zRX zyX_charAt zyX_charAt ∈ si_tbl := si_in 269 (by decide +kernel)
abbrev zkX_rowOf : ByteArray := prog_1_method_12_code
abbrev zyX_rowOf : MethodName := ⟨zRX, "rowOf", "(I)I"⟩
abbrev zwX_rowOf : List Cond := .code zyX_rowOf zkX_rowOf 2 (some .int) :: si_tbl
theorem zcX_rowOf : Cond.code zyX_rowOf zkX_rowOf 2 (some .int) ∈ si_tbl := si_in 279 (by decide +kernel)
theorem zimX_rowOf : Cond.instanceMethod zyX_rowOf ∈ si_tbl := si_in 277 (by decide +kernel)
theorem zseX_rowOf : Cond.selects zRX zyX_rowOf zyX_rowOf ∈ si_tbl := si_in 278 (by decide +kernel)
abbrev zkX_placeOf : ByteArray := prog_1_method_13_code
abbrev zyX_placeOf : MethodName := ⟨zRX, "placeOf", "(I)I"⟩
abbrev zwX_placeOf : List Cond := .code zyX_placeOf zkX_placeOf 2 (some .int) :: si_tbl
theorem zcX_placeOf : Cond.code zyX_placeOf zkX_placeOf 2 (some .int) ∈ si_tbl := si_in 283 (by decide +kernel)
theorem zimX_placeOf : Cond.instanceMethod zyX_placeOf ∈ si_tbl := si_in 281 (by decide +kernel)
theorem zseX_placeOf : Cond.selects zRX zyX_placeOf zyX_placeOf ∈ si_tbl := si_in 282 (by decide +kernel)
abbrev zkX_ask : ByteArray := prog_1_method_14_code
abbrev zyX_ask : MethodName := ⟨zRX, "ask", "(C)Z"⟩
abbrev zwX_ask : List Cond := .code zyX_ask zkX_ask 2 (some .boolean) :: si_tbl
theorem zcX_ask : Cond.code zyX_ask zkX_ask 2 (some .boolean) ∈ si_tbl := si_in 287 (by decide +kernel)
theorem zimX_ask : Cond.instanceMethod zyX_ask ∈ si_tbl := si_in 285 (by decide +kernel)
theorem zseX_ask : Cond.selects zRX zyX_ask zyX_ask ∈ si_tbl := si_in 286 (by decide +kernel)
abbrev zkX_back : ByteArray := prog_1_method_15_code
abbrev zyX_back : MethodName := ⟨zRX, "back", "()Z"⟩
abbrev zwX_back : List Cond := .code zyX_back zkX_back 1 (some .boolean) :: si_tbl
theorem zcX_back : Cond.code zyX_back zkX_back 1 (some .boolean) ∈ si_tbl := si_in 291 (by decide +kernel)
theorem zimX_back : Cond.instanceMethod zyX_back ∈ si_tbl := si_in 289 (by decide +kernel)
theorem zseX_back : Cond.selects zRX zyX_back zyX_back ∈ si_tbl := si_in 290 (by decide +kernel)
abbrev zkX_count : ByteArray := prog_1_method_16_code
abbrev zyX_count : MethodName := ⟨zRX, "count", "()I"⟩
abbrev zwX_count : List Cond := .code zyX_count zkX_count 3 (some .int) :: si_tbl
theorem zcX_count : Cond.code zyX_count zkX_count 3 (some .int) ∈ si_tbl := si_in 299 (by decide +kernel)
theorem zimX_count : Cond.instanceMethod zyX_count ∈ si_tbl := si_in 297 (by decide +kernel)
theorem zseX_count : Cond.selects zRX zyX_count zyX_count ∈ si_tbl := si_in 298 (by decide +kernel)
abbrev zkX_firstRow : ByteArray := prog_1_method_17_code
abbrev zyX_firstRow : MethodName := ⟨zRX, "firstRow", "()I"⟩
abbrev zwX_firstRow : List Cond := .code zyX_firstRow zkX_firstRow 2 (some .int) :: si_tbl
theorem zcX_firstRow : Cond.code zyX_firstRow zkX_firstRow 2 (some .int) ∈ si_tbl := si_in 312 (by decide +kernel)
theorem zimX_firstRow : Cond.instanceMethod zyX_firstRow ∈ si_tbl := si_in 310 (by decide +kernel)
theorem zseX_firstRow : Cond.selects zRX zyX_firstRow zyX_firstRow ∈ si_tbl := si_in 311 (by decide +kernel)
abbrev zkX_locate : ByteArray := prog_1_method_18_code
abbrev zyX_locate : MethodName := ⟨zRX, "locate", "(I)I"⟩
abbrev zwX_locate : List Cond := .code zyX_locate zkX_locate 4 (some .int) :: si_tbl
theorem zcX_locate : Cond.code zyX_locate zkX_locate 4 (some .int) ∈ si_tbl := si_in 316 (by decide +kernel)
theorem zimX_locate : Cond.instanceMethod zyX_locate ∈ si_tbl := si_in 314 (by decide +kernel)
theorem zseX_locate : Cond.selects zRX zyX_locate zyX_locate ∈ si_tbl := si_in 315 (by decide +kernel)
abbrev zkX_variety : ByteArray := prog_1_method_19_code
abbrev zyX_variety : MethodName := ⟨zRX, "variety", "()I"⟩
abbrev zwX_variety : List Cond := .code zyX_variety zkX_variety 7 (some .int) :: si_tbl
theorem zcX_variety : Cond.code zyX_variety zkX_variety 7 (some .int) ∈ si_tbl := si_in 320 (by decide +kernel)
theorem zimX_variety : Cond.instanceMethod zyX_variety ∈ si_tbl := si_in 318 (by decide +kernel)
theorem zseX_variety : Cond.selects zRX zyX_variety zyX_variety ∈ si_tbl := si_in 319 (by decide +kernel)
abbrev zkX_isWord : ByteArray := prog_1_method_20_code
abbrev zyX_isWord : MethodName := ⟨zRX, "isWord", "(I)Z"⟩
abbrev zwX_isWord : List Cond := .code zyX_isWord zkX_isWord 1 (some .boolean) :: si_tbl
theorem zcX_isWord : Cond.code zyX_isWord zkX_isWord 1 (some .boolean) ∈ si_tbl := si_in 217 (by decide +kernel)
theorem zstX_isWord : Cond.static zyX_isWord ∈ si_tbl := si_in 216 (by decide +kernel)
abbrev zkX_isRate : ByteArray := prog_1_method_21_code
abbrev zyX_isRate : MethodName := ⟨zRX, "isRate", "(J)Z"⟩
abbrev zwX_isRate : List Cond := .code zyX_isRate zkX_isRate 2 (some .boolean) :: si_tbl
theorem zcX_isRate : Cond.code zyX_isRate zkX_isRate 2 (some .boolean) ∈ si_tbl := si_in 156 (by decide +kernel)
theorem zstX_isRate : Cond.static zyX_isRate ∈ si_tbl := si_in 155 (by decide +kernel)
abbrev zkX_hasLoaded : ByteArray := prog_1_method_22_code
abbrev zyX_hasLoaded : MethodName := ⟨zRX, "hasLoaded", "()Z"⟩
abbrev zwX_hasLoaded : List Cond := .code zyX_hasLoaded zkX_hasLoaded 1 (some .boolean) :: si_tbl
theorem zcX_hasLoaded : Cond.code zyX_hasLoaded zkX_hasLoaded 1 (some .boolean) ∈ si_tbl := si_in 262 (by decide +kernel)
theorem zimX_hasLoaded : Cond.instanceMethod zyX_hasLoaded ∈ si_tbl := si_in 261 (by decide +kernel)
theorem zseX_hasLoaded : Cond.selects zRX zyX_hasLoaded zyX_hasLoaded ∈ si_tbl := si_ins (by decide +kernel)
abbrev zkX_isLoadedPlace : ByteArray := prog_1_method_23_code
abbrev zyX_isLoadedPlace : MethodName := ⟨zRX, "isLoadedPlace", "(I)Z"⟩
abbrev zwX_isLoadedPlace : List Cond := .code zyX_isLoadedPlace zkX_isLoadedPlace 2 (some .boolean) :: si_tbl
theorem zcX_isLoadedPlace : Cond.code zyX_isLoadedPlace zkX_isLoadedPlace 2 (some .boolean) ∈ si_tbl := si_in 274 (by decide +kernel)
theorem zimX_isLoadedPlace : Cond.instanceMethod zyX_isLoadedPlace ∈ si_tbl := si_in 273 (by decide +kernel)
theorem zseX_isLoadedPlace : Cond.selects zRX zyX_isLoadedPlace zyX_isLoadedPlace ∈ si_tbl := si_ins (by decide +kernel)
abbrev zkX_occursAt : ByteArray := prog_1_method_24_code
abbrev zyX_occursAt : MethodName := ⟨zRX, "occursAt", "(I)Z"⟩
abbrev zwX_occursAt : List Cond := .code zyX_occursAt zkX_occursAt 2 (some .boolean) :: si_tbl
theorem zcX_occursAt : Cond.code zyX_occursAt zkX_occursAt 2 (some .boolean) ∈ si_tbl := si_in 303 (by decide +kernel)
theorem zimX_occursAt : Cond.instanceMethod zyX_occursAt ∈ si_tbl := si_in 302 (by decide +kernel)
theorem zseX_occursAt : Cond.selects zRX zyX_occursAt zyX_occursAt ∈ si_tbl := si_ins (by decide +kernel)
abbrev zkX_draw : ByteArray := prog_1_method_25_code
abbrev zyX_draw : MethodName := ⟨zRX, "draw", "(LSelfIndexImage$Line;ILSelfIndexImage$Image;)V"⟩
abbrev zwX_draw : List Cond := .code zyX_draw zkX_draw 4 none :: si_tbl
theorem zcX_draw : Cond.code zyX_draw zkX_draw 4 none ∈ si_tbl := si_in 161 (by decide +kernel)
theorem zimX_draw : Cond.instanceMethod zyX_draw ∈ si_tbl := si_in 160 (by decide +kernel)
theorem zseX_draw : Cond.selects zRX zyX_draw zyX_draw ∈ si_tbl := si_ins (by decide +kernel)
abbrev zkX_readDesk : ByteArray := prog_1_method_26_code
abbrev zyX_readDesk : MethodName := ⟨zRX, "readDesk", "()Z"⟩
abbrev zwX_readDesk : List Cond := .code zyX_readDesk zkX_readDesk 7 (some .boolean) :: si_tbl
theorem zcX_readDesk : Cond.code zyX_readDesk zkX_readDesk 7 (some .boolean) ∈ si_tbl := si_in 233 (by decide +kernel)
theorem zimX_readDesk : Cond.instanceMethod zyX_readDesk ∈ si_tbl := si_in 232 (by decide +kernel)
theorem zseX_readDesk : Cond.selects zRX zyX_readDesk zyX_readDesk ∈ si_tbl := si_ins (by decide +kernel)
abbrev zkM_init : ByteArray := prog_8_method_1_code
abbrev zyM_init : MethodName := ⟨zRM, "<init>", "()V"⟩
abbrev zwM_init : List Cond := .code zyM_init zkM_init 1 none :: si_tbl
theorem zcM_init : Cond.code zyM_init zkM_init 1 none ∈ si_tbl := si_in 331 (by decide +kernel)
theorem zimM_init : Cond.instanceMethod zyM_init ∈ si_tbl := si_in 330 (by decide +kernel)
abbrev zkM_write : ByteArray := prog_8_method_2_code
abbrev zyM_write : MethodName := ⟨zRM, "write", "(C)Z"⟩
abbrev zwM_write : List Cond := .code zyM_write zkM_write 2 (some .boolean) :: si_tbl
theorem zcM_write : Cond.code zyM_write zkM_write 2 (some .boolean) ∈ si_tbl := si_in 394 (by decide +kernel)
theorem zimM_write : Cond.instanceMethod zyM_write ∈ si_tbl := si_in 392 (by decide +kernel)
theorem zseM_write : Cond.selects zRM zyM_write zyM_write ∈ si_tbl := si_in 393 (by decide +kernel)
abbrev zkM_erase : ByteArray := prog_8_method_3_code
abbrev zyM_erase : MethodName := ⟨zRM, "erase", "()V"⟩
abbrev zwM_erase : List Cond := .code zyM_erase zkM_erase 1 none :: si_tbl
theorem zcM_erase : Cond.code zyM_erase zkM_erase 1 none ∈ si_tbl := si_in 398 (by decide +kernel)
theorem zimM_erase : Cond.instanceMethod zyM_erase ∈ si_tbl := si_in 396 (by decide +kernel)
theorem zseM_erase : Cond.selects zRM zyM_erase zyM_erase ∈ si_tbl := si_in 397 (by decide +kernel)
abbrev zkM_word : ByteArray := prog_8_method_4_code
abbrev zyM_word : MethodName := ⟨zRM, "word", "(I)J"⟩
abbrev zwM_word : List Cond := .code zyM_word zkM_word 2 (some .long) :: si_tbl
theorem zcM_word : Cond.code zyM_word zkM_word 2 (some .long) ∈ si_tbl := si_in 402 (by decide +kernel)
theorem zimM_word : Cond.instanceMethod zyM_word ∈ si_tbl := si_in 400 (by decide +kernel)
theorem zseM_word : Cond.selects zRM zyM_word zyM_word ∈ si_tbl := si_in 401 (by decide +kernel)
abbrev zkM_put : ByteArray := prog_8_method_5_code
abbrev zyM_put : MethodName := ⟨zRM, "put", "(IJ)Z"⟩
abbrev zwM_put : List Cond := .code zyM_put zkM_put 4 (some .boolean) :: si_tbl
theorem zcM_put : Cond.code zyM_put zkM_put 4 (some .boolean) ∈ si_tbl := si_in 406 (by decide +kernel)
theorem zimM_put : Cond.instanceMethod zyM_put ∈ si_tbl := si_in 404 (by decide +kernel)
theorem zseM_put : Cond.selects zRM zyM_put zyM_put ∈ si_tbl := si_in 405 (by decide +kernel)
abbrev zkM_flip : ByteArray := prog_8_method_6_code
abbrev zyM_flip : MethodName := ⟨zRM, "flip", "(II)Z"⟩
abbrev zwM_flip : List Cond := .code zyM_flip zkM_flip 3 (some .boolean) :: si_tbl
theorem zcM_flip : Cond.code zyM_flip zkM_flip 3 (some .boolean) ∈ si_tbl := si_in 410 (by decide +kernel)
theorem zimM_flip : Cond.instanceMethod zyM_flip ∈ si_tbl := si_in 408 (by decide +kernel)
theorem zseM_flip : Cond.selects zRM zyM_flip zyM_flip ∈ si_tbl := si_in 409 (by decide +kernel)
abbrev zkM_earlier : ByteArray := prog_8_method_7_code
abbrev zyM_earlier : MethodName := ⟨zRM, "earlier", "(II)Z"⟩
abbrev zwM_earlier : List Cond := .code zyM_earlier zkM_earlier 5 (some .boolean) :: si_tbl
theorem zcM_earlier : Cond.code zyM_earlier zkM_earlier 5 (some .boolean) ∈ si_tbl := si_in 426 (by decide +kernel)
theorem zimM_earlier : Cond.instanceMethod zyM_earlier ∈ si_tbl := si_in 425 (by decide +kernel)
theorem zseM_earlier : Cond.selects zRM zyM_earlier zyM_earlier ∈ si_tbl := si_ins (by decide +kernel)
abbrev zkM_sort : ByteArray := prog_8_method_8_code
abbrev zyM_sort : MethodName := ⟨zRM, "sort", "()V"⟩
abbrev zwM_sort : List Cond := .code zyM_sort zkM_sort 4 none :: si_tbl
theorem zcM_sort : Cond.code zyM_sort zkM_sort 4 none ∈ si_tbl := si_in 422 (by decide +kernel)
theorem zimM_sort : Cond.instanceMethod zyM_sort ∈ si_tbl := si_in 421 (by decide +kernel)
theorem zseM_sort : Cond.selects zRM zyM_sort zyM_sort ∈ si_tbl := si_ins (by decide +kernel)
abbrev zkM_levels : ByteArray := prog_8_method_9_code
abbrev zyM_levels : MethodName := ⟨zRM, "levels", "()V"⟩
abbrev zwM_levels : List Cond := .code zyM_levels zkM_levels 5 none :: si_tbl
theorem zcM_levels : Cond.code zyM_levels zkM_levels 5 none ∈ si_tbl := si_in 431 (by decide +kernel)
theorem zimM_levels : Cond.instanceMethod zyM_levels ∈ si_tbl := si_in 430 (by decide +kernel)
theorem zseM_levels : Cond.selects zRM zyM_levels zyM_levels ∈ si_tbl := si_ins (by decide +kernel)
abbrev zkM_picture : ByteArray := prog_8_method_10_code
abbrev zyM_picture : MethodName := ⟨zRM, "picture", "(I)V"⟩
abbrev zwM_picture : List Cond := .code zyM_picture zkM_picture 4 none :: si_tbl
theorem zcM_picture : Cond.code zyM_picture zkM_picture 4 none ∈ si_tbl := si_in 418 (by decide +kernel)
theorem zimM_picture : Cond.instanceMethod zyM_picture ∈ si_tbl := si_in 417 (by decide +kernel)
theorem zseM_picture : Cond.selects zRM zyM_picture zyM_picture ∈ si_tbl := si_ins (by decide +kernel)
abbrev zkM_build : ByteArray := prog_8_method_11_code
abbrev zyM_build : MethodName := ⟨zRM, "build", "(I)Z"⟩
abbrev zwM_build : List Cond := .code zyM_build zkM_build 3 (some .boolean) :: si_tbl
theorem zcM_build : Cond.code zyM_build zkM_build 3 (some .boolean) ∈ si_tbl := si_in 414 (by decide +kernel)
theorem zimM_build : Cond.instanceMethod zyM_build ∈ si_tbl := si_in 412 (by decide +kernel)
theorem zseM_build : Cond.selects zRM zyM_build zyM_build ∈ si_tbl := si_in 413 (by decide +kernel)
abbrev zkM_readCodes : ByteArray := prog_8_method_12_code
abbrev zyM_readCodes : MethodName := ⟨zRM, "readCodes", "()V"⟩
abbrev zwM_readCodes : List Cond := .code zyM_readCodes zkM_readCodes 5 none :: si_tbl
theorem zcM_readCodes : Cond.code zyM_readCodes zkM_readCodes 5 none ∈ si_tbl := si_in 442 (by decide +kernel)
theorem zimM_readCodes : Cond.instanceMethod zyM_readCodes ∈ si_tbl := si_in 441 (by decide +kernel)
theorem zseM_readCodes : Cond.selects zRM zyM_readCodes zyM_readCodes ∈ si_tbl := si_ins (by decide +kernel)
abbrev zkM_before : ByteArray := prog_8_method_13_code
abbrev zyM_before : MethodName := ⟨zRM, "before", "(I)I"⟩
abbrev zwM_before : List Cond := .code zyM_before zkM_before 4 (some .int) :: si_tbl
theorem zcM_before : Cond.code zyM_before zkM_before 4 (some .int) ∈ si_tbl := si_in 446 (by decide +kernel)
theorem zimM_before : Cond.instanceMethod zyM_before ∈ si_tbl := si_in 445 (by decide +kernel)
theorem zseM_before : Cond.selects zRM zyM_before zyM_before ∈ si_tbl := si_ins (by decide +kernel)
abbrev zkM_load : ByteArray := prog_8_method_14_code
abbrev zyM_load : MethodName := ⟨zRM, "load", "()Z"⟩
abbrev zwM_load : List Cond := .code zyM_load zkM_load 5 (some .boolean) :: si_tbl
theorem zcM_load : Cond.code zyM_load zkM_load 5 (some .boolean) ∈ si_tbl := si_in 435 (by decide +kernel)
theorem zimM_load : Cond.instanceMethod zyM_load ∈ si_tbl := si_in 433 (by decide +kernel)
theorem zseM_load : Cond.selects zRM zyM_load zyM_load ∈ si_tbl := si_in 434 (by decide +kernel)
abbrev zkM_length : ByteArray := prog_8_method_15_code
abbrev zyM_length : MethodName := ⟨zRM, "length", "()I"⟩
abbrev zwM_length : List Cond := .code zyM_length zkM_length 1 (some .int) :: si_tbl
theorem zcM_length : Cond.code zyM_length zkM_length 1 (some .int) ∈ si_tbl := si_in 450 (by decide +kernel)
theorem zimM_length : Cond.instanceMethod zyM_length ∈ si_tbl := si_in 448 (by decide +kernel)
theorem zseM_length : Cond.selects zRM zyM_length zyM_length ∈ si_tbl := si_in 449 (by decide +kernel)
abbrev zkM_rate : ByteArray := prog_8_method_16_code
abbrev zyM_rate : MethodName := ⟨zRM, "rate", "()I"⟩
abbrev zwM_rate : List Cond := .code zyM_rate zkM_rate 1 (some .int) :: si_tbl
theorem zcM_rate : Cond.code zyM_rate zkM_rate 1 (some .int) ∈ si_tbl := si_in 454 (by decide +kernel)
theorem zimM_rate : Cond.instanceMethod zyM_rate ∈ si_tbl := si_in 452 (by decide +kernel)
theorem zseM_rate : Cond.selects zRM zyM_rate zyM_rate ∈ si_tbl := si_in 453 (by decide +kernel)
abbrev zkM_place : ByteArray := prog_8_method_17_code
abbrev zyM_place : MethodName := ⟨zRM, "place", "(I)Z"⟩
abbrev zwM_place : List Cond := .code zyM_place zkM_place 2 (some .boolean) :: si_tbl
theorem zcM_place : Cond.code zyM_place zkM_place 2 (some .boolean) ∈ si_tbl := si_in 462 (by decide +kernel)
theorem zimM_place : Cond.instanceMethod zyM_place ∈ si_tbl := si_in 461 (by decide +kernel)
theorem zseM_place : Cond.selects zRM zyM_place zyM_place ∈ si_tbl := si_ins (by decide +kernel)
abbrev zkM_charAt : ByteArray := prog_8_method_18_code
abbrev zyM_charAt : MethodName := ⟨zRM, "charAt", "(I)I"⟩
abbrev zwM_charAt : List Cond := .code zyM_charAt zkM_charAt 2 (some .int) :: si_tbl
theorem zcM_charAt : Cond.code zyM_charAt zkM_charAt 2 (some .int) ∈ si_tbl := si_in 458 (by decide +kernel)
theorem zimM_charAt : Cond.instanceMethod zyM_charAt ∈ si_tbl := si_in 456 (by decide +kernel)
theorem zseM_charAt : Cond.selects zRM zyM_charAt zyM_charAt ∈ si_tbl := si_in 457 (by decide +kernel)
abbrev zkM_rowOf : ByteArray := prog_8_method_19_code
abbrev zyM_rowOf : MethodName := ⟨zRM, "rowOf", "(I)I"⟩
abbrev zwM_rowOf : List Cond := .code zyM_rowOf zkM_rowOf 2 (some .int) :: si_tbl
theorem zcM_rowOf : Cond.code zyM_rowOf zkM_rowOf 2 (some .int) ∈ si_tbl := si_in 466 (by decide +kernel)
theorem zimM_rowOf : Cond.instanceMethod zyM_rowOf ∈ si_tbl := si_in 464 (by decide +kernel)
theorem zseM_rowOf : Cond.selects zRM zyM_rowOf zyM_rowOf ∈ si_tbl := si_in 465 (by decide +kernel)
abbrev zkM_placeOf : ByteArray := prog_8_method_20_code
abbrev zyM_placeOf : MethodName := ⟨zRM, "placeOf", "(I)I"⟩
abbrev zwM_placeOf : List Cond := .code zyM_placeOf zkM_placeOf 2 (some .int) :: si_tbl
theorem zcM_placeOf : Cond.code zyM_placeOf zkM_placeOf 2 (some .int) ∈ si_tbl := si_in 470 (by decide +kernel)
theorem zimM_placeOf : Cond.instanceMethod zyM_placeOf ∈ si_tbl := si_in 468 (by decide +kernel)
theorem zseM_placeOf : Cond.selects zRM zyM_placeOf zyM_placeOf ∈ si_tbl := si_in 469 (by decide +kernel)
abbrev zkM_ask : ByteArray := prog_8_method_21_code
abbrev zyM_ask : MethodName := ⟨zRM, "ask", "(C)Z"⟩
abbrev zwM_ask : List Cond := .code zyM_ask zkM_ask 2 (some .boolean) :: si_tbl
theorem zcM_ask : Cond.code zyM_ask zkM_ask 2 (some .boolean) ∈ si_tbl := si_in 474 (by decide +kernel)
theorem zimM_ask : Cond.instanceMethod zyM_ask ∈ si_tbl := si_in 472 (by decide +kernel)
theorem zseM_ask : Cond.selects zRM zyM_ask zyM_ask ∈ si_tbl := si_in 473 (by decide +kernel)
abbrev zkM_back : ByteArray := prog_8_method_22_code
abbrev zyM_back : MethodName := ⟨zRM, "back", "()Z"⟩
abbrev zwM_back : List Cond := .code zyM_back zkM_back 1 (some .boolean) :: si_tbl
theorem zcM_back : Cond.code zyM_back zkM_back 1 (some .boolean) ∈ si_tbl := si_in 478 (by decide +kernel)
theorem zimM_back : Cond.instanceMethod zyM_back ∈ si_tbl := si_in 476 (by decide +kernel)
theorem zseM_back : Cond.selects zRM zyM_back zyM_back ∈ si_tbl := si_in 477 (by decide +kernel)
abbrev zkM_occurs : ByteArray := prog_8_method_23_code
abbrev zyM_occurs : MethodName := ⟨zRM, "occurs", "(I)Z"⟩
abbrev zwM_occurs : List Cond := .code zyM_occurs zkM_occurs 3 (some .boolean) :: si_tbl
theorem zcM_occurs : Cond.code zyM_occurs zkM_occurs 3 (some .boolean) ∈ si_tbl := si_in 486 (by decide +kernel)
theorem zimM_occurs : Cond.instanceMethod zyM_occurs ∈ si_tbl := si_in 485 (by decide +kernel)
theorem zseM_occurs : Cond.selects zRM zyM_occurs zyM_occurs ∈ si_tbl := si_ins (by decide +kernel)
abbrev zkM_count : ByteArray := prog_8_method_24_code
abbrev zyM_count : MethodName := ⟨zRM, "count", "()I"⟩
abbrev zwM_count : List Cond := .code zyM_count zkM_count 3 (some .int) :: si_tbl
theorem zcM_count : Cond.code zyM_count zkM_count 3 (some .int) ∈ si_tbl := si_in 482 (by decide +kernel)
theorem zimM_count : Cond.instanceMethod zyM_count ∈ si_tbl := si_in 480 (by decide +kernel)
theorem zseM_count : Cond.selects zRM zyM_count zyM_count ∈ si_tbl := si_in 481 (by decide +kernel)
abbrev zkM_firstRow : ByteArray := prog_8_method_25_code
abbrev zyM_firstRow : MethodName := ⟨zRM, "firstRow", "()I"⟩
abbrev zwM_firstRow : List Cond := .code zyM_firstRow zkM_firstRow 3 (some .int) :: si_tbl
theorem zcM_firstRow : Cond.code zyM_firstRow zkM_firstRow 3 (some .int) ∈ si_tbl := si_in 490 (by decide +kernel)
theorem zimM_firstRow : Cond.instanceMethod zyM_firstRow ∈ si_tbl := si_in 488 (by decide +kernel)
theorem zseM_firstRow : Cond.selects zRM zyM_firstRow zyM_firstRow ∈ si_tbl := si_in 489 (by decide +kernel)
abbrev zkM_locate : ByteArray := prog_8_method_26_code
abbrev zyM_locate : MethodName := ⟨zRM, "locate", "(I)I"⟩
abbrev zwM_locate : List Cond := .code zyM_locate zkM_locate 4 (some .int) :: si_tbl
theorem zcM_locate : Cond.code zyM_locate zkM_locate 4 (some .int) ∈ si_tbl := si_in 494 (by decide +kernel)
theorem zimM_locate : Cond.instanceMethod zyM_locate ∈ si_tbl := si_in 492 (by decide +kernel)
theorem zseM_locate : Cond.selects zRM zyM_locate zyM_locate ∈ si_tbl := si_in 493 (by decide +kernel)
abbrev zkM_variety : ByteArray := prog_8_method_27_code
abbrev zyM_variety : MethodName := ⟨zRM, "variety", "()I"⟩
abbrev zwM_variety : List Cond := .code zyM_variety zkM_variety 5 (some .int) :: si_tbl
theorem zcM_variety : Cond.code zyM_variety zkM_variety 5 (some .int) ∈ si_tbl := si_in 498 (by decide +kernel)
theorem zimM_variety : Cond.instanceMethod zyM_variety ∈ si_tbl := si_in 496 (by decide +kernel)
theorem zseM_variety : Cond.selects zRM zyM_variety zyM_variety ∈ si_tbl := si_in 497 (by decide +kernel)
abbrev zkB_init : ByteArray := prog_2_method_1_code
abbrev zyB_init : MethodName := ⟨zRB, "<init>", "()V"⟩
abbrev zwB_init : List Cond := .code zyB_init zkB_init 1 none :: si_tbl
theorem zcB_init : Cond.code zyB_init zkB_init 1 none ∈ si_tbl := si_in 50 (by decide +kernel)
theorem zimB_init : Cond.instanceMethod zyB_init ∈ si_tbl := si_in 49 (by decide +kernel)
abbrev zkB_takeFrom : ByteArray := prog_2_method_2_code
abbrev zyB_takeFrom : MethodName := ⟨zRB, "takeFrom", "(LSelfIndexImage$Line;LSelfIndexImage$Suffixes;)V"⟩
abbrev zwB_takeFrom : List Cond := .code zyB_takeFrom zkB_takeFrom 4 none :: si_tbl
theorem zcB_takeFrom : Cond.code zyB_takeFrom zkB_takeFrom 4 none ∈ si_tbl := si_in 181 (by decide +kernel)
theorem zimB_takeFrom : Cond.instanceMethod zyB_takeFrom ∈ si_tbl := si_in 179 (by decide +kernel)
theorem zseB_takeFrom : Cond.selects zRB zyB_takeFrom zyB_takeFrom ∈ si_tbl := si_in 180 (by decide +kernel)
abbrev zkB_drawLevels : ByteArray := prog_2_method_3_code
abbrev zyB_drawLevels : MethodName := ⟨zRB, "drawLevels", "(LSelfIndexImage$Image;)V"⟩
abbrev zwB_drawLevels : List Cond := .code zyB_drawLevels zkB_drawLevels 8 none :: si_tbl
theorem zcB_drawLevels : Cond.code zyB_drawLevels zkB_drawLevels 8 none ∈ si_tbl := si_in 190 (by decide +kernel)
theorem zimB_drawLevels : Cond.instanceMethod zyB_drawLevels ∈ si_tbl := si_in 188 (by decide +kernel)
theorem zseB_drawLevels : Cond.selects zRB zyB_drawLevels zyB_drawLevels ∈ si_tbl := si_in 189 (by decide +kernel)
abbrev zkB_readLevels : ByteArray := prog_2_method_4_code
abbrev zyB_readLevels : MethodName := ⟨zRB, "readLevels", "(LSelfIndexImage$Image;I)V"⟩
abbrev zwB_readLevels : List Cond := .code zyB_readLevels zkB_readLevels 8 none :: si_tbl
theorem zcB_readLevels : Cond.code zyB_readLevels zkB_readLevels 8 none ∈ si_tbl := si_in 240 (by decide +kernel)
theorem zimB_readLevels : Cond.instanceMethod zyB_readLevels ∈ si_tbl := si_in 238 (by decide +kernel)
theorem zseB_readLevels : Cond.selects zRB zyB_readLevels zyB_readLevels ∈ si_tbl := si_in 239 (by decide +kernel)
abbrev zkB_spell : ByteArray := prog_2_method_5_code
abbrev zyB_spell : MethodName := ⟨zRB, "spell", "(LSelfIndexImage$Line;)Z"⟩
abbrev zwB_spell : List Cond := .code zyB_spell zkB_spell 4 (some .boolean) :: si_tbl
theorem zcB_spell : Cond.code zyB_spell zkB_spell 4 (some .boolean) ∈ si_tbl := si_in 244 (by decide +kernel)
theorem zimB_spell : Cond.instanceMethod zyB_spell ∈ si_tbl := si_in 242 (by decide +kernel)
theorem zseB_spell : Cond.selects zRB zyB_spell zyB_spell ∈ si_tbl := si_in 243 (by decide +kernel)
abbrev zkB_rowBefore : ByteArray := prog_2_method_6_code
abbrev zyB_rowBefore : MethodName := ⟨zRB, "rowBefore", "(I)I"⟩
abbrev zwB_rowBefore : List Cond := .code zyB_rowBefore zkB_rowBefore 4 (some .int) :: si_tbl
theorem zcB_rowBefore : Cond.code zyB_rowBefore zkB_rowBefore 4 (some .int) ∈ si_tbl := si_in 248 (by decide +kernel)
theorem zimB_rowBefore : Cond.instanceMethod zyB_rowBefore ∈ si_tbl := si_in 247 (by decide +kernel)
theorem zseB_rowBefore : Cond.selects zRB zyB_rowBefore zyB_rowBefore ∈ si_tbl := si_ins (by decide +kernel)
abbrev zkB_startOrder : ByteArray := prog_2_method_7_code
abbrev zyB_startOrder : MethodName := ⟨zRB, "startOrder", "()V"⟩
abbrev zwB_startOrder : List Cond := .code zyB_startOrder zkB_startOrder 2 none :: si_tbl
theorem zcB_startOrder : Cond.code zyB_startOrder zkB_startOrder 2 none ∈ si_tbl := si_in 194 (by decide +kernel)
theorem zimB_startOrder : Cond.instanceMethod zyB_startOrder ∈ si_tbl := si_in 193 (by decide +kernel)
theorem zseB_startOrder : Cond.selects zRB zyB_startOrder zyB_startOrder ∈ si_tbl := si_ins (by decide +kernel)
abbrev zkB_partOrder : ByteArray := prog_2_method_8_code
abbrev zyB_partOrder : MethodName := ⟨zRB, "partOrder", "(J)V"⟩
abbrev zwB_partOrder : List Cond := .code zyB_partOrder zkB_partOrder 6 none :: si_tbl
theorem zcB_partOrder : Cond.code zyB_partOrder zkB_partOrder 6 none ∈ si_tbl := si_in 198 (by decide +kernel)
theorem zimB_partOrder : Cond.instanceMethod zyB_partOrder ∈ si_tbl := si_in 197 (by decide +kernel)
theorem zseB_partOrder : Cond.selects zRB zyB_partOrder zyB_partOrder ∈ si_tbl := si_ins (by decide +kernel)
abbrev zkI_init : ByteArray := prog_3_method_1_code
abbrev zyI_init : MethodName := ⟨zRI, "<init>", "()V"⟩
abbrev zwI_init : List Cond := .code zyI_init zkI_init 1 none :: si_tbl
theorem zcI_init : Cond.code zyI_init zkI_init 1 none ∈ si_tbl := si_in 37 (by decide +kernel)
theorem zimI_init : Cond.instanceMethod zyI_init ∈ si_tbl := si_in 36 (by decide +kernel)
abbrev zkI_isSameAs : ByteArray := prog_3_method_2_code
abbrev zyI_isSameAs : MethodName := ⟨zRI, "isSameAs", "(LSelfIndexImage$Image;)Z"⟩
abbrev zwI_isSameAs : List Cond := .code zyI_isSameAs zkI_isSameAs 3 (some .boolean) :: si_tbl
theorem zcI_isSameAs : Cond.code zyI_isSameAs zkI_isSameAs 3 (some .boolean) ∈ si_tbl := si_in 254 (by decide +kernel)
theorem zimI_isSameAs : Cond.instanceMethod zyI_isSameAs ∈ si_tbl := si_in 252 (by decide +kernel)
theorem zseI_isSameAs : Cond.selects zRI zyI_isSameAs zyI_isSameAs ∈ si_tbl := si_in 253 (by decide +kernel)
abbrev zkI_draw : ByteArray := prog_3_method_3_code
abbrev zyI_draw : MethodName := ⟨zRI, "draw", "(LSelfIndexImage$Befores;LSelfIndexImage$Suffixes;I)V"⟩
abbrev zwI_draw : List Cond := .code zyI_draw zkI_draw 5 none :: si_tbl
theorem zcI_draw : Cond.code zyI_draw zkI_draw 5 none ∈ si_tbl := si_in 186 (by decide +kernel)
theorem zimI_draw : Cond.instanceMethod zyI_draw ∈ si_tbl := si_in 184 (by decide +kernel)
theorem zseI_draw : Cond.selects zRI zyI_draw zyI_draw ∈ si_tbl := si_in 185 (by decide +kernel)
abbrev zkI_drawMarkedRows : ByteArray := prog_3_method_4_code
abbrev zyI_drawMarkedRows : MethodName := ⟨zRI, "drawMarkedRows", "(LSelfIndexImage$Suffixes;I)V"⟩
abbrev zwI_drawMarkedRows : List Cond := .code zyI_drawMarkedRows zkI_drawMarkedRows 6 none :: si_tbl
theorem zcI_drawMarkedRows : Cond.code zyI_drawMarkedRows zkI_drawMarkedRows 6 none ∈ si_tbl := si_in 202 (by decide +kernel)
theorem zimI_drawMarkedRows : Cond.instanceMethod zyI_drawMarkedRows ∈ si_tbl := si_in 201 (by decide +kernel)
theorem zseI_drawMarkedRows : Cond.selects zRI zyI_drawMarkedRows zyI_drawMarkedRows ∈ si_tbl := si_ins (by decide +kernel)
abbrev zkI_drawRowsOfPlaces : ByteArray := prog_3_method_5_code
abbrev zyI_drawRowsOfPlaces : MethodName := ⟨zRI, "drawRowsOfPlaces", "(LSelfIndexImage$Suffixes;I)V"⟩
abbrev zwI_drawRowsOfPlaces : List Cond := .code zyI_drawRowsOfPlaces zkI_drawRowsOfPlaces 5 none :: si_tbl
theorem zcI_drawRowsOfPlaces : Cond.code zyI_drawRowsOfPlaces zkI_drawRowsOfPlaces 5 none ∈ si_tbl := si_in 210 (by decide +kernel)
theorem zimI_drawRowsOfPlaces : Cond.instanceMethod zyI_drawRowsOfPlaces ∈ si_tbl := si_in 209 (by decide +kernel)
theorem zseI_drawRowsOfPlaces : Cond.selects zRI zyI_drawRowsOfPlaces zyI_drawRowsOfPlaces ∈ si_tbl := si_ins (by decide +kernel)
abbrev zkI_drawNumber : ByteArray := prog_3_method_6_code
abbrev zyI_drawNumber : MethodName := ⟨zRI, "drawNumber", "(IIJ)V"⟩
abbrev zwI_drawNumber : List Cond := .code zyI_drawNumber zkI_drawNumber 6 none :: si_tbl
theorem zcI_drawNumber : Cond.code zyI_drawNumber zkI_drawNumber 6 none ∈ si_tbl := si_in 206 (by decide +kernel)
theorem zimI_drawNumber : Cond.instanceMethod zyI_drawNumber ∈ si_tbl := si_in 205 (by decide +kernel)
theorem zseI_drawNumber : Cond.selects zRI zyI_drawNumber zyI_drawNumber ∈ si_tbl := si_ins (by decide +kernel)
abbrev zkL_init : ByteArray := prog_4_method_1_code
abbrev zyL_init : MethodName := ⟨zRL, "<init>", "(I)V"⟩
abbrev zwL_init : List Cond := .code zyL_init zkL_init 2 none :: si_tbl
theorem zcL_init : Cond.code zyL_init zkL_init 2 none ∈ si_tbl := si_in 21 (by decide +kernel)
theorem zimL_init : Cond.instanceMethod zyL_init ∈ si_tbl := si_in 20 (by decide +kernel)
abbrev zkL_add : ByteArray := prog_4_method_2_code
abbrev zyL_add : MethodName := ⟨zRL, "add", "(I)Z"⟩
abbrev zwL_add : List Cond := .code zyL_add zkL_add 2 (some .boolean) :: si_tbl
theorem zcL_add : Cond.code zyL_add zkL_add 2 (some .boolean) ∈ si_tbl := si_in 141 (by decide +kernel)
theorem zimL_add : Cond.instanceMethod zyL_add ∈ si_tbl := si_in 139 (by decide +kernel)
theorem zseL_add : Cond.selects zRL zyL_add zyL_add ∈ si_tbl := si_in 140 (by decide +kernel)
abbrev zkL_dropLast : ByteArray := prog_4_method_3_code
abbrev zyL_dropLast : MethodName := ⟨zRL, "dropLast", "()Z"⟩
abbrev zwL_dropLast : List Cond := .code zyL_dropLast zkL_dropLast 1 (some .boolean) :: si_tbl
theorem zcL_dropLast : Cond.code zyL_dropLast zkL_dropLast 1 (some .boolean) ∈ si_tbl := si_in 295 (by decide +kernel)
theorem zimL_dropLast : Cond.instanceMethod zyL_dropLast ∈ si_tbl := si_in 293 (by decide +kernel)
theorem zseL_dropLast : Cond.selects zRL zyL_dropLast zyL_dropLast ∈ si_tbl := si_in 294 (by decide +kernel)
abbrev zkL_clear : ByteArray := prog_4_method_4_code
abbrev zyL_clear : MethodName := ⟨zRL, "clear", "()V"⟩
abbrev zwL_clear : List Cond := .code zyL_clear zkL_clear 1 none :: si_tbl
theorem zcL_clear : Cond.code zyL_clear zkL_clear 1 none ∈ si_tbl := si_in 149 (by decide +kernel)
theorem zimL_clear : Cond.instanceMethod zyL_clear ∈ si_tbl := si_in 147 (by decide +kernel)
theorem zseL_clear : Cond.selects zRL zyL_clear zyL_clear ∈ si_tbl := si_in 148 (by decide +kernel)
abbrev zkL_codeAt : ByteArray := prog_4_method_5_code
abbrev zyL_codeAt : MethodName := ⟨zRL, "codeAt", "(I)I"⟩
abbrev zwL_codeAt : List Cond := .code zyL_codeAt zkL_codeAt 2 (some .int) :: si_tbl
theorem zcL_codeAt : Cond.code zyL_codeAt zkL_codeAt 2 (some .int) ∈ si_tbl := si_in 177 (by decide +kernel)
theorem zimL_codeAt : Cond.instanceMethod zyL_codeAt ∈ si_tbl := si_in 175 (by decide +kernel)
theorem zseL_codeAt : Cond.selects zRL zyL_codeAt zyL_codeAt ∈ si_tbl := si_in 176 (by decide +kernel)
abbrev zkL_hasAt : ByteArray := prog_4_method_6_code
abbrev zyL_hasAt : MethodName := ⟨zRL, "hasAt", "(LSelfIndexImage$Line;I)Z"⟩
abbrev zwL_hasAt : List Cond := .code zyL_hasAt zkL_hasAt 4 (some .boolean) :: si_tbl
theorem zcL_hasAt : Cond.code zyL_hasAt zkL_hasAt 4 (some .boolean) ∈ si_tbl := si_in 307 (by decide +kernel)
theorem zimL_hasAt : Cond.instanceMethod zyL_hasAt ∈ si_tbl := si_in 305 (by decide +kernel)
theorem zseL_hasAt : Cond.selects zRL zyL_hasAt zyL_hasAt ∈ si_tbl := si_in 306 (by decide +kernel)
abbrev zkR_init : ByteArray := prog_5_method_1_code
abbrev zyR_init : MethodName := ⟨zRR, "<init>", "()V"⟩
abbrev zwR_init : List Cond := .code zyR_init zkR_init 1 none :: si_tbl
theorem zcR_init : Cond.code zyR_init zkR_init 1 none ∈ si_tbl := si_in 72 (by decide +kernel)
theorem zimR_init : Cond.instanceMethod zyR_init ∈ si_tbl := si_in 71 (by decide +kernel)
abbrev zkS_init : ByteArray := prog_6_method_1_code
abbrev zyS_init : MethodName := ⟨zRS, "<init>", "()V"⟩
abbrev zwS_init : List Cond := .code zyS_init zkS_init 1 none :: si_tbl
theorem zcS_init : Cond.code zyS_init zkS_init 1 none ∈ si_tbl := si_in 80 (by decide +kernel)
theorem zimS_init : Cond.instanceMethod zyS_init ∈ si_tbl := si_in 79 (by decide +kernel)
abbrev zkS_sort : ByteArray := prog_6_method_2_code
abbrev zyS_sort : MethodName := ⟨zRS, "sort", "(LSelfIndexImage$Line;)V"⟩
abbrev zwS_sort : List Cond := .code zyS_sort zkS_sort 3 none :: si_tbl
theorem zcS_sort : Cond.code zyS_sort zkS_sort 3 none ∈ si_tbl := si_in 165 (by decide +kernel)
theorem zimS_sort : Cond.instanceMethod zyS_sort ∈ si_tbl := si_in 163 (by decide +kernel)
theorem zseS_sort : Cond.selects zRS zyS_sort zyS_sort ∈ si_tbl := si_in 164 (by decide +kernel)
abbrev zkS_insert : ByteArray := prog_6_method_3_code
abbrev zyS_insert : MethodName := ⟨zRS, "insert", "(LSelfIndexImage$Line;I)V"⟩
abbrev zwS_insert : List Cond := .code zyS_insert zkS_insert 5 none :: si_tbl
theorem zcS_insert : Cond.code zyS_insert zkS_insert 5 none ∈ si_tbl := si_in 169 (by decide +kernel)
theorem zimS_insert : Cond.instanceMethod zyS_insert ∈ si_tbl := si_in 168 (by decide +kernel)
theorem zseS_insert : Cond.selects zRS zyS_insert zyS_insert ∈ si_tbl := si_ins (by decide +kernel)
abbrev zkS_isSmaller : ByteArray := prog_6_method_4_code
abbrev zyS_isSmaller : MethodName := ⟨zRS, "isSmaller", "(LSelfIndexImage$Line;II)Z"⟩
abbrev zwS_isSmaller : List Cond := .code zyS_isSmaller zkS_isSmaller 6 (some .boolean) :: si_tbl
theorem zcS_isSmaller : Cond.code zyS_isSmaller zkS_isSmaller 6 (some .boolean) ∈ si_tbl := si_in 173 (by decide +kernel)
theorem zimS_isSmaller : Cond.instanceMethod zyS_isSmaller ∈ si_tbl := si_in 172 (by decide +kernel)
theorem zseS_isSmaller : Cond.selects zRS zyS_isSmaller zyS_isSmaller ∈ si_tbl := si_ins (by decide +kernel)
abbrev zkJ_bitCount : ByteArray := prog_9_method_50_code
abbrev zyJ_bitCount : MethodName := ⟨zRJ, "bitCount", "(J)I"⟩
abbrev zwJ_bitCount : List Cond := .code zyJ_bitCount zkJ_bitCount 2 (some .int) :: si_tbl
theorem zcJ_bitCount : Cond.code zyJ_bitCount zkJ_bitCount 2 (some .int) ∈ si_tbl := si_in 323 (by decide +kernel)
theorem zstJ_bitCount : Cond.static zyJ_bitCount ∈ si_tbl := si_in 322 (by decide +kernel)
theorem zlW_9 : Cond.methodLink zRW 9 zyX_init ∈ si_tbl := si_in 11 (by decide +kernel)
theorem zlX_3 : Cond.methodLink zRX 3 Lib.objectInit ∈ si_tbl := si_in 14 (by decide +kernel)
theorem zlX_11 : Cond.methodLink zRX 11 zyL_init ∈ si_tbl := si_in 19 (by decide +kernel)
theorem zlL_3 : Cond.methodLink zRL 3 Lib.objectInit ∈ si_tbl := si_in 22 (by decide +kernel)
theorem zlX_23 : Cond.methodLink zRX 23 zyI_init ∈ si_tbl := si_in 35 (by decide +kernel)
theorem zlI_3 : Cond.methodLink zRI 3 Lib.objectInit ∈ si_tbl := si_in 38 (by decide +kernel)
theorem zlX_33 : Cond.methodLink zRX 33 zyB_init ∈ si_tbl := si_in 48 (by decide +kernel)
theorem zlB_3 : Cond.methodLink zRB 3 Lib.objectInit ∈ si_tbl := si_in 51 (by decide +kernel)
theorem zlX_40 : Cond.methodLink zRX 40 zyR_init ∈ si_tbl := si_in 70 (by decide +kernel)
theorem zlR_3 : Cond.methodLink zRR 3 Lib.objectInit ∈ si_tbl := si_in 73 (by decide +kernel)
theorem zlR_11 : Cond.methodLink zRR 11 zyL_init ∈ si_tbl := si_in 75 (by decide +kernel)
theorem zlR_22 : Cond.methodLink zRR 22 zyS_init ∈ si_tbl := si_in 78 (by decide +kernel)
theorem zlS_3 : Cond.methodLink zRS 3 Lib.objectInit ∈ si_tbl := si_in 81 (by decide +kernel)
theorem zlW_13 : Cond.methodLink zRW 13 zyX_write ∈ si_tbl := si_in 134 (by decide +kernel)
theorem zlX_48 : Cond.methodLink zRX 48 zyL_add ∈ si_tbl := si_in 138 (by decide +kernel)
theorem zlW_18 : Cond.methodLink zRW 18 zyX_erase ∈ si_tbl := si_in 142 (by decide +kernel)
theorem zlX_52 : Cond.methodLink zRX 52 zyL_clear ∈ si_tbl := si_in 146 (by decide +kernel)
theorem zlW_22 : Cond.methodLink zRW 22 zyX_build ∈ si_tbl := si_in 150 (by decide +kernel)
theorem zlX_55 : Cond.methodLink zRX 55 zyX_isRate ∈ si_tbl := si_in 154 (by decide +kernel)
theorem zlX_59 : Cond.methodLink zRX 59 zyX_draw ∈ si_tbl := si_in 158 (by decide +kernel)
theorem zlX_129 : Cond.methodLink zRX 129 zyS_sort ∈ si_tbl := si_in 162 (by decide +kernel)
theorem zlS_27 : Cond.methodLink zRS 27 zyS_insert ∈ si_tbl := si_in 166 (by decide +kernel)
theorem zlS_31 : Cond.methodLink zRS 31 zyS_isSmaller ∈ si_tbl := si_in 170 (by decide +kernel)
theorem zlS_35 : Cond.methodLink zRS 35 zyL_codeAt ∈ si_tbl := si_in 174 (by decide +kernel)
theorem zlX_133 : Cond.methodLink zRX 133 zyB_takeFrom ∈ si_tbl := si_in 178 (by decide +kernel)
theorem zlB_34 : Cond.methodLink zRB 34 zyL_codeAt ∈ si_tbl := si_in 182 (by decide +kernel)
theorem zlX_137 : Cond.methodLink zRX 137 zyI_draw ∈ si_tbl := si_in 183 (by decide +kernel)
theorem zlI_21 : Cond.methodLink zRI 21 zyB_drawLevels ∈ si_tbl := si_in 187 (by decide +kernel)
theorem zlB_40 : Cond.methodLink zRB 40 zyB_startOrder ∈ si_tbl := si_in 191 (by decide +kernel)
theorem zlB_49 : Cond.methodLink zRB 49 zyB_partOrder ∈ si_tbl := si_in 195 (by decide +kernel)
theorem zlI_27 : Cond.methodLink zRI 27 zyI_drawMarkedRows ∈ si_tbl := si_in 199 (by decide +kernel)
theorem zlI_38 : Cond.methodLink zRI 38 zyI_drawNumber ∈ si_tbl := si_in 203 (by decide +kernel)
theorem zlI_31 : Cond.methodLink zRI 31 zyI_drawRowsOfPlaces ∈ si_tbl := si_in 207 (by decide +kernel)
theorem zlW_27 : Cond.methodLink zRW 27 zyX_word ∈ si_tbl := si_in 211 (by decide +kernel)
theorem zlX_63 : Cond.methodLink zRX 63 zyX_isWord ∈ si_tbl := si_in 215 (by decide +kernel)
theorem zlW_34 : Cond.methodLink zRW 34 zyX_put ∈ si_tbl := si_in 218 (by decide +kernel)
theorem zlW_39 : Cond.methodLink zRW 39 zyX_flip ∈ si_tbl := si_in 222 (by decide +kernel)
theorem zlW_44 : Cond.methodLink zRW 44 zyX_load ∈ si_tbl := si_in 226 (by decide +kernel)
theorem zlX_70 : Cond.methodLink zRX 70 zyX_readDesk ∈ si_tbl := si_in 230 (by decide +kernel)
theorem zlX_146 : Cond.methodLink zRX 146 zyB_readLevels ∈ si_tbl := si_in 237 (by decide +kernel)
theorem zlX_150 : Cond.methodLink zRX 150 zyB_spell ∈ si_tbl := si_in 241 (by decide +kernel)
theorem zlB_53 : Cond.methodLink zRB 53 zyB_rowBefore ∈ si_tbl := si_in 245 (by decide +kernel)
theorem zlB_56 : Cond.methodLink zRB 56 zyL_clear ∈ si_tbl := si_in 249 (by decide +kernel)
theorem zlB_59 : Cond.methodLink zRB 59 zyL_add ∈ si_tbl := si_in 250 (by decide +kernel)
theorem zlX_81 : Cond.methodLink zRX 81 zyI_isSameAs ∈ si_tbl := si_in 251 (by decide +kernel)
theorem zlW_49 : Cond.methodLink zRW 49 zyX_length ∈ si_tbl := si_in 255 (by decide +kernel)
theorem zlX_85 : Cond.methodLink zRX 85 zyX_hasLoaded ∈ si_tbl := si_in 259 (by decide +kernel)
theorem zlW_54 : Cond.methodLink zRW 54 zyX_rate ∈ si_tbl := si_in 263 (by decide +kernel)
theorem zlW_58 : Cond.methodLink zRW 58 zyX_charAt ∈ si_tbl := si_in 267 (by decide +kernel)
theorem zlX_91 : Cond.methodLink zRX 91 zyX_isLoadedPlace ∈ si_tbl := si_in 271 (by decide +kernel)
theorem zlX_94 : Cond.methodLink zRX 94 zyL_codeAt ∈ si_tbl := si_in 275 (by decide +kernel)
theorem zlW_63 : Cond.methodLink zRW 63 zyX_rowOf ∈ si_tbl := si_in 276 (by decide +kernel)
theorem zlW_67 : Cond.methodLink zRW 67 zyX_placeOf ∈ si_tbl := si_in 280 (by decide +kernel)
theorem zlW_71 : Cond.methodLink zRW 71 zyX_ask ∈ si_tbl := si_in 284 (by decide +kernel)
theorem zlW_75 : Cond.methodLink zRW 75 zyX_back ∈ si_tbl := si_in 288 (by decide +kernel)
theorem zlX_111 : Cond.methodLink zRX 111 zyL_dropLast ∈ si_tbl := si_in 292 (by decide +kernel)
theorem zlW_79 : Cond.methodLink zRW 79 zyX_count ∈ si_tbl := si_in 296 (by decide +kernel)
theorem zlX_114 : Cond.methodLink zRX 114 zyX_occursAt ∈ si_tbl := si_in 300 (by decide +kernel)
theorem zlX_125 : Cond.methodLink zRX 125 zyL_hasAt ∈ si_tbl := si_in 304 (by decide +kernel)
theorem zlL_19 : Cond.methodLink zRL 19 zyL_codeAt ∈ si_tbl := si_in 308 (by decide +kernel)
theorem zlW_83 : Cond.methodLink zRW 83 zyX_firstRow ∈ si_tbl := si_in 309 (by decide +kernel)
theorem zlW_87 : Cond.methodLink zRW 87 zyX_locate ∈ si_tbl := si_in 313 (by decide +kernel)
theorem zlW_91 : Cond.methodLink zRW 91 zyX_variety ∈ si_tbl := si_in 317 (by decide +kernel)
theorem zlX_117 : Cond.methodLink zRX 117 zyJ_bitCount ∈ si_tbl := si_in 321 (by decide +kernel)
theorem zlW_12 : Cond.methodLink zRW 12 zyM_init ∈ si_tbl := si_in 329 (by decide +kernel)
theorem zlM_1 : Cond.methodLink zRM 1 Lib.objectInit ∈ si_tbl := si_in 332 (by decide +kernel)
theorem zlW_17 : Cond.methodLink zRW 17 zyM_write ∈ si_tbl := si_in 391 (by decide +kernel)
theorem zlW_21 : Cond.methodLink zRW 21 zyM_erase ∈ si_tbl := si_in 395 (by decide +kernel)
theorem zlW_31 : Cond.methodLink zRW 31 zyM_word ∈ si_tbl := si_in 399 (by decide +kernel)
theorem zlW_38 : Cond.methodLink zRW 38 zyM_put ∈ si_tbl := si_in 403 (by decide +kernel)
theorem zlW_43 : Cond.methodLink zRW 43 zyM_flip ∈ si_tbl := si_in 407 (by decide +kernel)
theorem zlW_26 : Cond.methodLink zRW 26 zyM_build ∈ si_tbl := si_in 411 (by decide +kernel)
theorem zlM_69 : Cond.methodLink zRM 69 zyM_picture ∈ si_tbl := si_in 415 (by decide +kernel)
theorem zlM_61 : Cond.methodLink zRM 61 zyM_sort ∈ si_tbl := si_in 419 (by decide +kernel)
theorem zlM_57 : Cond.methodLink zRM 57 zyM_earlier ∈ si_tbl := si_in 423 (by decide +kernel)
theorem zlM_66 : Cond.methodLink zRM 66 zyM_levels ∈ si_tbl := si_in 428 (by decide +kernel)
theorem zlW_48 : Cond.methodLink zRW 48 zyM_load ∈ si_tbl := si_in 432 (by decide +kernel)
theorem zlM_79 : Cond.methodLink zRM 79 zyM_readCodes ∈ si_tbl := si_in 439 (by decide +kernel)
theorem zlM_82 : Cond.methodLink zRM 82 zyM_before ∈ si_tbl := si_in 443 (by decide +kernel)
theorem zlW_53 : Cond.methodLink zRW 53 zyM_length ∈ si_tbl := si_in 447 (by decide +kernel)
theorem zlW_57 : Cond.methodLink zRW 57 zyM_rate ∈ si_tbl := si_in 451 (by decide +kernel)
theorem zlW_62 : Cond.methodLink zRW 62 zyM_charAt ∈ si_tbl := si_in 455 (by decide +kernel)
theorem zlM_96 : Cond.methodLink zRM 96 zyM_place ∈ si_tbl := si_in 459 (by decide +kernel)
theorem zlW_66 : Cond.methodLink zRW 66 zyM_rowOf ∈ si_tbl := si_in 463 (by decide +kernel)
theorem zlW_70 : Cond.methodLink zRW 70 zyM_placeOf ∈ si_tbl := si_in 467 (by decide +kernel)
theorem zlW_74 : Cond.methodLink zRW 74 zyM_ask ∈ si_tbl := si_in 471 (by decide +kernel)
theorem zlW_78 : Cond.methodLink zRW 78 zyM_back ∈ si_tbl := si_in 475 (by decide +kernel)
theorem zlW_82 : Cond.methodLink zRW 82 zyM_count ∈ si_tbl := si_in 479 (by decide +kernel)
theorem zlM_103 : Cond.methodLink zRM 103 zyM_occurs ∈ si_tbl := si_in 483 (by decide +kernel)
theorem zlW_86 : Cond.methodLink zRW 86 zyM_firstRow ∈ si_tbl := si_in 487 (by decide +kernel)
theorem zlW_90 : Cond.methodLink zRW 90 zyM_locate ∈ si_tbl := si_in 491 (by decide +kernel)
theorem zlW_94 : Cond.methodLink zRW 94 zyM_variety ∈ si_tbl := si_in 495 (by decide +kernel)
theorem zlL_9 : Cond.fieldLink zRL 9 zRL "codes" "[I" ∈ si_tbl := si_in 23 (by decide +kernel)
theorem zlL_15 : Cond.fieldLink zRL 15 zRL "size" "I" ∈ si_tbl := si_in 24 (by decide +kernel)
theorem zlS_22 : Cond.fieldLinkNest zRS 22 zRL "size" "I" "SelfIndexImage" ∈ si_nst := si_inN 25 (by decide +kernel)
theorem zlX_88 : Cond.fieldLinkNest zRX 88 zRL "size" "I" "SelfIndexImage" ∈ si_nst := si_inN 26 (by decide +kernel)
theorem zlI_9 : Cond.fieldLink zRI 9 zRI "words" "[J" ∈ si_tbl := si_in 39 (by decide +kernel)
theorem zlB_43 : Cond.fieldLinkNest zRB 43 zRI "words" "[J" "SelfIndexImage" ∈ si_nst := si_inN 40 (by decide +kernel)
theorem zlX_66 : Cond.fieldLinkNest zRX 66 zRI "words" "[J" "SelfIndexImage" ∈ si_nst := si_inN 41 (by decide +kernel)
theorem zlB_9 : Cond.fieldLink zRB 9 zRB "codes" "[I" ∈ si_tbl := si_in 52 (by decide +kernel)
theorem zlB_15 : Cond.fieldLink zRB 15 zRB "order" "[I" ∈ si_tbl := si_in 53 (by decide +kernel)
theorem zlB_18 : Cond.fieldLink zRB 18 zRB "ones" "[I" ∈ si_tbl := si_in 54 (by decide +kernel)
theorem zlB_21 : Cond.fieldLink zRB 21 zRB "following" "[I" ∈ si_tbl := si_in 55 (by decide +kernel)
theorem zlB_24 : Cond.fieldLink zRB 24 zRB "last" "I" ∈ si_tbl := si_in 56 (by decide +kernel)
theorem zlS_9 : Cond.fieldLink zRS 9 zRS "rows" "[I" ∈ si_tbl := si_in 82 (by decide +kernel)
theorem zlI_42 : Cond.fieldLinkNest zRI 42 zRS "rows" "[I" "SelfIndexImage" ∈ si_nst := si_inN 83 (by decide +kernel)
theorem zlX_102 : Cond.fieldLinkNest zRX 102 zRS "rows" "[I" "SelfIndexImage" ∈ si_nst := si_inN 84 (by decide +kernel)
theorem zlS_15 : Cond.fieldLink zRS 15 zRS "places" "[I" ∈ si_tbl := si_in 85 (by decide +kernel)
theorem zlB_31 : Cond.fieldLinkNest zRB 31 zRS "places" "[I" "SelfIndexImage" ∈ si_nst := si_inN 86 (by decide +kernel)
theorem zlI_34 : Cond.fieldLinkNest zRI 34 zRS "places" "[I" "SelfIndexImage" ∈ si_nst := si_inN 87 (by decide +kernel)
theorem zlX_108 : Cond.fieldLinkNest zRX 108 zRS "places" "[I" "SelfIndexImage" ∈ si_nst := si_inN 88 (by decide +kernel)
theorem zlS_18 : Cond.fieldLink zRS 18 zRS "last" "I" ∈ si_tbl := si_in 89 (by decide +kernel)
theorem zlB_28 : Cond.fieldLinkNest zRB 28 zRS "last" "I" "SelfIndexImage" ∈ si_nst := si_inN 90 (by decide +kernel)
theorem zlI_15 : Cond.fieldLinkNest zRI 15 zRS "last" "I" "SelfIndexImage" ∈ si_nst := si_inN 91 (by decide +kernel)
theorem zlR_14 : Cond.fieldLink zRR 14 zRR "text" "LSelfIndexImage$Line;" ∈ si_tbl := si_in 99 (by decide +kernel)
theorem zlX_74 : Cond.fieldLinkNest zRX 74 zRR "text" "LSelfIndexImage$Line;" "SelfIndexImage" ∈ si_nst := si_inN 100 (by decide +kernel)
theorem zlR_23 : Cond.fieldLink zRR 23 zRR "suffixes" "LSelfIndexImage$Suffixes;" ∈ si_tbl := si_in 101 (by decide +kernel)
theorem zlX_98 : Cond.fieldLinkNest zRX 98 zRR "suffixes" "LSelfIndexImage$Suffixes;" "SelfIndexImage" ∈ si_nst := si_inN 102 (by decide +kernel)
theorem zlR_27 : Cond.fieldLink zRR 27 zRR "rate" "I" ∈ si_tbl := si_in 103 (by decide +kernel)
theorem zlX_77 : Cond.fieldLinkNest zRX 77 zRR "rate" "I" "SelfIndexImage" ∈ si_nst := si_inN 104 (by decide +kernel)
theorem zlX_14 : Cond.fieldLink zRX 14 zRX "written" "LSelfIndexImage$Line;" ∈ si_tbl := si_in 112 (by decide +kernel)
theorem zlX_18 : Cond.fieldLink zRX 18 zRX "pattern" "LSelfIndexImage$Line;" ∈ si_tbl := si_in 113 (by decide +kernel)
theorem zlX_24 : Cond.fieldLink zRX 24 zRX "desk" "LSelfIndexImage$Image;" ∈ si_tbl := si_in 114 (by decide +kernel)
theorem zlX_28 : Cond.fieldLink zRX 28 zRX "redrawn" "LSelfIndexImage$Image;" ∈ si_tbl := si_in 115 (by decide +kernel)
theorem zlX_34 : Cond.fieldLink zRX 34 zRX "befores" "LSelfIndexImage$Befores;" ∈ si_tbl := si_in 116 (by decide +kernel)
theorem zlX_41 : Cond.fieldLink zRX 41 zRX "loaded" "LSelfIndexImage$Reading;" ∈ si_tbl := si_in 117 (by decide +kernel)
theorem zlX_45 : Cond.fieldLink zRX 45 zRX "trial" "LSelfIndexImage$Reading;" ∈ si_tbl := si_in 118 (by decide +kernel)
theorem zlM_50 : Cond.fieldLink zRM 50 zRM "size" "I" ∈ si_tbl := si_in 333 (by decide +kernel)
theorem zlM_7 : Cond.fieldLink zRM 7 zRM "written" "[I" ∈ si_tbl := si_in 334 (by decide +kernel)
theorem zlM_13 : Cond.fieldLink zRM 13 zRM "desk" "[J" ∈ si_tbl := si_in 335 (by decide +kernel)
theorem zlM_86 : Cond.fieldLink zRM 86 zRM "there" "Z" ∈ si_tbl := si_in 336 (by decide +kernel)
theorem zlM_90 : Cond.fieldLink zRM 90 zRM "n" "I" ∈ si_tbl := si_in 337 (by decide +kernel)
theorem zlM_17 : Cond.fieldLink zRM 17 zRM "text" "[I" ∈ si_tbl := si_in 338 (by decide +kernel)
theorem zlM_93 : Cond.fieldLink zRM 93 zRM "every" "I" ∈ si_tbl := si_in 339 (by decide +kernel)
theorem zlM_20 : Cond.fieldLink zRM 20 zRM "places" "[I" ∈ si_tbl := si_in 340 (by decide +kernel)
theorem zlM_23 : Cond.fieldLink zRM 23 zRM "rows" "[I" ∈ si_tbl := si_in 341 (by decide +kernel)
theorem zlM_100 : Cond.fieldLink zRM 100 zRM "asked" "I" ∈ si_tbl := si_in 342 (by decide +kernel)
theorem zlM_26 : Cond.fieldLink zRM 26 zRM "pattern" "[I" ∈ si_tbl := si_in 343 (by decide +kernel)
theorem zlM_54 : Cond.fieldLink zRM 54 zRM "m" "I" ∈ si_tbl := si_in 344 (by decide +kernel)
theorem zlM_29 : Cond.fieldLink zRM 29 zRM "work" "[I" ∈ si_tbl := si_in 345 (by decide +kernel)
theorem zlM_32 : Cond.fieldLink zRM 32 zRM "order" "[I" ∈ si_tbl := si_in 346 (by decide +kernel)
theorem zlM_35 : Cond.fieldLink zRM 35 zRM "back" "[I" ∈ si_tbl := si_in 347 (by decide +kernel)
theorem zlM_38 : Cond.fieldLink zRM 38 zRM "image" "[J" ∈ si_tbl := si_in 348 (by decide +kernel)
theorem zlM_41 : Cond.fieldLink zRM 41 zRM "now" "[I" ∈ si_tbl := si_in 349 (by decide +kernel)
theorem zlM_44 : Cond.fieldLink zRM 44 zRM "then" "[I" ∈ si_tbl := si_in 350 (by decide +kernel)
theorem zlM_47 : Cond.fieldLink zRM 47 zRM "code" "[I" ∈ si_tbl := si_in 351 (by decide +kernel)
theorem zlW_7 : Cond.classLink zRW 7 zRX ∈ si_tbl := si_in 9 (by decide +kernel)
theorem zlX_9 : Cond.classLink zRX 9 zRL ∈ si_tbl := si_in 17 (by decide +kernel)
theorem zlX_21 : Cond.classLink zRX 21 zRI ∈ si_tbl := si_in 33 (by decide +kernel)
theorem zlX_31 : Cond.classLink zRX 31 zRB ∈ si_tbl := si_in 46 (by decide +kernel)
theorem zlX_38 : Cond.classLink zRX 38 zRR ∈ si_tbl := si_in 68 (by decide +kernel)
theorem zlR_9 : Cond.classLink zRR 9 zRL ∈ si_tbl := si_in 74 (by decide +kernel)
theorem zlR_20 : Cond.classLink zRR 20 zRS ∈ si_tbl := si_in 76 (by decide +kernel)
theorem zlW_10 : Cond.classLink zRW 10 zRM ∈ si_tbl := si_in 327 (by decide +kernel)
theorem zlX_123 : Cond.constantLong zRX 123 (16) ∈ si_tbl := si_in 157 (by decide +kernel)
theorem zlX_140 : Cond.constantLong zRX 140 (255) ∈ si_tbl := si_in 234 (by decide +kernel)
theorem zlX_142 : Cond.constantLong zRX 142 (256) ∈ si_tbl := si_in 235 (by decide +kernel)
theorem zlX_144 : Cond.constantLong zRX 144 (60) ∈ si_tbl := si_in 236 (by decide +kernel)
theorem zlJ_314 : Cond.constantLong zRJ 314 (6148914691236517205) ∈ si_tbl := si_in 324 (by decide +kernel)
theorem zlJ_316 : Cond.constantLong zRJ 316 (3689348814741910323) ∈ si_tbl := si_in 325 (by decide +kernel)
theorem zlJ_318 : Cond.constantLong zRJ 318 (1085102592571150095) ∈ si_tbl := si_in 326 (by decide +kernel)
theorem zlM_64 : Cond.constantLong zRM 64 (256) ∈ si_tbl := si_in 427 (by decide +kernel)
theorem zlM_73 : Cond.constantLong zRM 73 (16) ∈ si_tbl := si_in 436 (by decide +kernel)
theorem zlM_75 : Cond.constantLong zRM 75 (255) ∈ si_tbl := si_in 437 (by decide +kernel)
theorem zlM_77 : Cond.constantLong zRM 77 (60) ∈ si_tbl := si_in 438 (by decide +kernel)
theorem zlW_32 : Cond.constantLong zRW 32 (4294967295) ∈ si_tbl := si_in 499 (by decide +kernel)
theorem zibX : Cond.instantiable zRX 7 ∈ si_tbl := si_in 10 (by decide +kernel)
theorem zibL : Cond.instantiable zRL 2 ∈ si_tbl := si_in 18 (by decide +kernel)
theorem zibI : Cond.instantiable zRI 1 ∈ si_tbl := si_in 34 (by decide +kernel)
theorem zibB : Cond.instantiable zRB 5 ∈ si_tbl := si_in 47 (by decide +kernel)
theorem zibR : Cond.instantiable zRR 3 ∈ si_tbl := si_in 69 (by decide +kernel)
theorem zibS : Cond.instantiable zRS 3 ∈ si_tbl := si_in 77 (by decide +kernel)
theorem zibM : Cond.instantiable zRM 19 ∈ si_tbl := si_in 328 (by decide +kernel)
theorem zimO : Cond.instanceMethod Lib.objectInit ∈ si_tbl := si_in 15 (by decide +kernel)
theorem zcO : Cond.code Lib.objectInit ⟨#[0xb1]⟩ 1 none ∈ si_tbl := si_in 16 (by decide +kernel)
theorem zac_int : Cond.arrayClass .int ∈ si_tbl := si_in 32 (by decide +kernel)
theorem zac_long : Cond.arrayClass .long ∈ si_tbl := si_in 45 (by decide +kernel)
theorem si_lwg : ∀ w ∈ si_tbl, w ∈ si_tbl ∧ ((w.onTables && w.keeps) = true ∨ ∃ ty, w = .arrayClass ty) := fun w hw => ⟨hw, good_of_word (List.mem_filter.mp hw).2⟩
theorem si_gW {y : MethodName} {b : ByteArray} {k : Nat} {r : Option FieldType} (h : Cond.code y b k r ∈ si_tbl) : GoodIn si_tbl (.code y b k r :: si_tbl) := fun w hw => (List.mem_cons.mp hw).elim (fun e => by subst e; exact si_lwg _ h) (si_lwg w)
theorem si_gV {own C : String} {i : Nat} {y : MethodName} {b : ByteArray} {k : Nat} {r : Option FieldType} (h : Cond.code y b k r ∈ si_tbl) (h1 : Cond.methodLink own i y ∈ si_tbl) (h2 : Cond.instanceMethod y ∈ si_tbl) (h3 : Cond.selects C y y ∈ si_tbl) (h4 : Cond.initialized C ∈ si_tbl) : GoodIn si_tbl (wsV own i C y (.code y b k r :: si_tbl)) := by
  intro w hw
  unfold wsV at hw
  rcases List.mem_append.mp hw with hw | hw
  · simp only [List.mem_cons, List.not_mem_nil, or_false] at hw
    rcases hw with rfl | rfl | rfl | rfl
    · exact si_lwg _ h1
    · exact si_lwg _ h2
    · exact si_lwg _ h3
    · exact si_lwg _ h4
  · exact si_gW h w hw
end
section
/-! Pasted from kit/laws/BITS.to-paste: the family wb_ -/
theorem wb_tb (n : Nat) : (lN n).toBitVec = BitVec.ofNat 64 n := rfl
theorem wb_inj {a b : Int64} (h : a.toBitVec = b.toBitVec) : a = b := Int64.toBitVec_inj.mp h
theorem wb_tn {n : Nat} (h : n < 2 ^ 64) : (lN n).toBitVec.toNat = n := by rw [wb_tb, BitVec.toNat_ofNat, Nat.mod_eq_of_lt h]
theorem wb_of (x : Int64) : ∃ n, n < 2 ^ 64 ∧ x = lN n := ⟨x.toBitVec.toNat, x.toBitVec.isLt, wb_inj (by rw [wb_tb]; simp)⟩
theorem wb_of32 (x : Int32) : ∃ n, n < 2 ^ 32 ∧ x = nI n := ⟨x.toBitVec.toNat, x.toBitVec.isLt, Int32.toBitVec_inj.mp (by show _ = BitVec.ofNat 32 _; simp)⟩
theorem wb_c : ∀ k, k < 64 → ((nI k).toInt64 &&& 63) = lN k := by decide +kernel
theorem wb_cu : ∀ k, k < 64 → ((nI k).toInt64.toUInt64 &&& Int64.toUInt64 63) = UInt64.ofNat k := by decide +kernel
theorem wb_sm : ∀ k, k < 64 → (BitVec.ofNat 64 k).smod 64 = BitVec.ofNat 64 k := by decide +kernel
theorem wb_pw {a b : Nat} (h : a ≤ b) : 2 ^ b = 2 ^ a * 2 ^ (b - a) := by rw [← Nat.pow_add]; congr 1; omega
theorem wb_lt2 {a b : Nat} (h : a < b) : 2 ^ a < 2 ^ b := Nat.pow_lt_pow_right (by decide) h
theorem wb_mod (n : Nat) : lN n = lN (n % 2 ^ 64) := wb_inj (by rw [wb_tb, wb_tb]; apply BitVec.eq_of_toNat_eq; rw [BitVec.toNat_ofNat, BitVec.toNat_ofNat, Nat.mod_mod])
theorem wb_shr {n k : Nat} (hn : n < 2 ^ 64) (hk : k < 64) : ((lN n).toUInt64 >>> ((nI k).toInt64.toUInt64 &&& Int64.toUInt64 63)).toInt64 = lN (n / 2 ^ k) := by
  rw [wb_cu k hk]
  apply wb_inj
  apply BitVec.eq_of_toNat_eq
  show ((lN n).toUInt64 >>> UInt64.ofNat k).toNat = (BitVec.ofNat 64 _).toNat
  have h1 : (UInt64.ofNat k).toNat = k := by
    show (BitVec.ofNat 64 k).toNat = k
    rw [BitVec.toNat_ofNat, Nat.mod_eq_of_lt (by omega)]
  have h2 : (lN n).toUInt64.toNat = n := wb_tn hn
  rw [UInt64.toNat_shiftRight, h1, h2, Nat.mod_eq_of_lt hk, Nat.shiftRight_eq_div_pow, BitVec.toNat_ofNat, Nat.mod_eq_of_lt (Nat.lt_of_le_of_lt (Nat.div_le_self _ _) hn)]
theorem wb_shl (n : Nat) {k : Nat} (hk : k < 64) : lN n <<< ((nI k).toInt64 &&& 63) = lN (n * 2 ^ k) := by
  rw [wb_c k hk]
  apply wb_inj
  rw [Int64.toBitVec_shiftLeft, wb_tb, wb_tb, wb_tb, wb_sm k hk]
  apply BitVec.eq_of_toNat_eq
  rw [BitVec.shiftLeft_eq', BitVec.toNat_shiftLeft, BitVec.toNat_ofNat, BitVec.toNat_ofNat, BitVec.toNat_ofNat, Nat.mod_eq_of_lt (show k < 2 ^ 64 by omega), Nat.shiftLeft_eq, Nat.mul_mod, Nat.mod_mod, ← Nat.mul_mod]
theorem wb_and {a b : Nat} (ha : a < 2 ^ 64) (hb : b < 2 ^ 64) : lN a &&& lN b = lN (a &&& b) := by
  apply wb_inj
  rw [Int64.toBitVec_and, wb_tb, wb_tb, wb_tb]
  apply BitVec.eq_of_toNat_eq
  rw [BitVec.toNat_and, BitVec.toNat_ofNat, BitVec.toNat_ofNat, BitVec.toNat_ofNat, Nat.mod_eq_of_lt ha, Nat.mod_eq_of_lt hb, Nat.mod_eq_of_lt (Nat.and_lt_two_pow _ hb)]
theorem wb_or {a b : Nat} (ha : a < 2 ^ 64) (hb : b < 2 ^ 64) : lN a ||| lN b = lN (a ||| b) := by
  apply wb_inj
  rw [Int64.toBitVec_or, wb_tb, wb_tb, wb_tb]
  apply BitVec.eq_of_toNat_eq
  rw [BitVec.toNat_or, BitVec.toNat_ofNat, BitVec.toNat_ofNat, BitVec.toNat_ofNat, Nat.mod_eq_of_lt ha, Nat.mod_eq_of_lt hb, Nat.mod_eq_of_lt (Nat.or_lt_two_pow ha hb)]
theorem wb_mask {n k : Nat} (hn : n < 2 ^ 64) (hk : k < 64) : lN n &&& lN (2 ^ k - 1) = lN (n % 2 ^ k) := by
  rw [wb_and hn (by have := wb_lt2 hk; omega), Nat.and_two_pow_sub_one_eq_mod]
theorem wb_a1 {n : Nat} (hn : n < 2 ^ 64) : lN n &&& 1 = lN (n % 2) := wb_mask (k := 1) hn (by decide)
theorem wb_bit {n k : Nat} (hn : n < 2 ^ 64) (hk : k < 64) : ((lN n).toUInt64 >>> ((nI k).toInt64.toUInt64 &&& Int64.toUInt64 63)).toInt64 &&& 1 = lN (n / 2 ^ k % 2) := by
  rw [wb_shr hn hk, wb_a1 (Nat.lt_of_le_of_lt (Nat.div_le_self _ _) hn)]
end
section
/-! Pure rows: counting, ranks of suffixes, the step from a row to the row of the place before it. -/
/-- how many i < n have P -/
def si_cn : Nat → (Nat → Bool) → Nat
  | 0, _ => 0
  | n + 1, P => si_cn n P + (if P n = true then 1 else 0)
theorem si_cn_s (n : Nat) (P : Nat → Bool) : si_cn (n + 1) P = si_cn n P + (if P n = true then 1 else 0) := rfl
theorem si_cn_t {n : Nat} {P : Nat → Bool} (h : P n = true) : si_cn (n + 1) P = si_cn n P + 1 := by rw [si_cn_s, if_pos h]
theorem si_cn_f {n : Nat} {P : Nat → Bool} (h : P n = false) : si_cn (n + 1) P = si_cn n P := by
  rw [si_cn_s, if_neg (by rw [h]; decide), Nat.add_zero]
theorem si_cn_le (n : Nat) (P : Nat → Bool) : si_cn n P ≤ n := by
  induction n with
  | zero => exact Nat.le_refl 0
  | succ n ih => rw [si_cn_s]; split <;> omega
theorem si_cn_congr {n : Nat} {P Q : Nat → Bool} (h : ∀ i, i < n → P i = Q i) : si_cn n P = si_cn n Q := by
  induction n with
  | zero => rfl
  | succ n ih => rw [si_cn_s, si_cn_s, ih (fun i hi => h i (by omega)), h n (by omega)]
theorem si_cn_mono {n : Nat} {P Q : Nat → Bool} (h : ∀ i, i < n → P i = true → Q i = true) : si_cn n P ≤ si_cn n Q := by
  induction n with
  | zero => exact Nat.le_refl 0
  | succ n ih =>
    have h1 := ih (fun i hi => h i (by omega))
    have h2 := h n (by omega)
    rw [si_cn_s, si_cn_s]
    by_cases hp : P n = true
    · rw [if_pos hp, if_pos (h2 hp)]; omega
    · rw [if_neg hp]; split <;> omega
theorem si_cn_lt {n j : Nat} {P Q : Nat → Bool} (h : ∀ i, i < n → P i = true → Q i = true) (hj : j < n) (h1 : P j = false) (h2 : Q j = true) : si_cn n P < si_cn n Q := by
  induction n with
  | zero => omega
  | succ n ih =>
    by_cases e : j = n
    · subst e
      have := si_cn_mono (n := j) (P := P) (Q := Q) (fun i hi => h i (by omega))
      rw [si_cn_f h1, si_cn_t h2]; omega
    · have := ih (fun i hi => h i (by omega)) (by omega)
      have h3 := h n (by omega)
      rw [si_cn_s, si_cn_s]
      by_cases hp : P n = true
      · rw [if_pos hp, if_pos (h3 hp)]; omega
      · rw [if_neg hp]; split <;> omega
theorem si_cn_up {a b : Nat} (P : Nat → Bool) (h : a ≤ b) : si_cn a P ≤ si_cn b P := by
  induction b with
  | zero => have : a = 0 := by omega
            subst this; exact Nat.le_refl _
  | succ b ih =>
    by_cases e : a = b + 1
    · subst e; exact Nat.le_refl _
    · have := ih (by omega)
      rw [si_cn_s]; split <;> omega
theorem si_cn_ups {a b : Nat} {P : Nat → Bool} (h : a < b) (hP : P a = true) : si_cn a P < si_cn b P := by
  have := si_cn_up P (show a + 1 ≤ b from h)
  rw [si_cn_t hP] at this
  omega
theorem si_cn_all (n : Nat) : si_cn n (fun _ => true) = n := by
  induction n with
  | zero => rfl
  | succ n ih => rw [si_cn_t rfl, ih]
theorem si_cn_0 {n : Nat} {P : Nat → Bool} (h : ∀ i, i < n → P i = false) : si_cn n P = 0 := by
  induction n with
  | zero => rfl
  | succ n ih => rw [si_cn_f (h n (by omega)), ih (fun i hi => h i (by omega))]
theorem si_cn_1 {n : Nat} {P : Nat → Bool} (h : ∀ i j, i < n → j < n → P i = true → P j = true → i = j) : si_cn n P ≤ 1 := by
  induction n with
  | zero => exact Nat.zero_le _
  | succ n ih =>
    by_cases hp : P n = true
    · rw [si_cn_t hp, si_cn_0 (n := n)]
      · omega
      · intro i hi
        cases hq : P i with
        | false => rfl
        | true => have := h i n (by omega) (by omega) hq hp
                  omega
    · rw [si_cn_f (by simpa using hp)]
      exact ih (fun i j hi hj => h i j (by omega) (by omega))
theorem si_cn_not (n : Nat) (P : Nat → Bool) : si_cn n P + si_cn n (fun i => !P i) = n := by
  induction n with
  | zero => rfl
  | succ n ih =>
    cases hp : P n with
    | true => rw [si_cn_t hp, si_cn_f (P := fun i => !P i) (by simp [hp])]; omega
    | false => rw [si_cn_f hp, si_cn_t (P := fun i => !P i) (by simp [hp])]; omega
/-- a sum -/
def si_sm : Nat → (Nat → Nat) → Nat
  | 0, _ => 0
  | n + 1, f => si_sm n f + f n
theorem si_sm_s (n : Nat) (f : Nat → Nat) : si_sm (n + 1) f = si_sm n f + f n := rfl
theorem si_sm_congr {n : Nat} {f g : Nat → Nat} (h : ∀ i, i < n → f i = g i) : si_sm n f = si_sm n g := by
  induction n with
  | zero => rfl
  | succ n ih => rw [si_sm_s, si_sm_s, ih (fun i hi => h i (by omega)), h n (by omega)]
theorem si_sm_add (n : Nat) (f g : Nat → Nat) : si_sm n (fun i => f i + g i) = si_sm n f + si_sm n g := by
  induction n with
  | zero => rfl
  | succ n ih => rw [si_sm_s, si_sm_s, si_sm_s, ih]; omega
theorem si_sm_z (n : Nat) : si_sm n (fun _ => 0) = 0 := by
  induction n with
  | zero => rfl
  | succ n ih => rw [si_sm_s, ih]
theorem si_sm_swap (n k : Nat) (f : Nat → Nat → Nat) : si_sm n (fun i => si_sm k (fun j => f i j)) = si_sm k (fun j => si_sm n (fun i => f i j)) := by
  induction n with
  | zero => exact (si_sm_z k).symm
  | succ n ih =>
    rw [si_sm_s, ih, ← si_sm_add]
    rfl
theorem si_sm_1 {n a w : Nat} (h : a < n) : si_sm n (fun j => if a = j then w else 0) = w := by
  induction n with
  | zero => omega
  | succ n ih =>
    rw [si_sm_s]
    by_cases e : a = n
    · subst e
      rw [if_pos rfl, si_sm_congr (g := fun _ => 0) (fun i hi => if_neg (by omega)), si_sm_z]; omega
    · rw [if_neg e, ih (by omega), Nat.add_zero]
theorem si_sm_w (n w : Nat) (Q : Nat → Bool) : si_sm n (fun i => if Q i = true then w else 0) = w * si_cn n Q := by
  induction n with
  | zero => rfl
  | succ n ih =>
    rw [si_sm_s, si_cn_s, ih]
    split
    · rw [Nat.mul_add, Nat.mul_one]
    · rw [Nat.add_zero, Nat.add_zero]
theorem si_cn_sm (n : Nat) (P : Nat → Bool) : si_cn n P = si_sm n (fun i => if P i = true then 1 else 0) := by
  rw [si_sm_w, Nat.one_mul]
theorem si_sm_le {n : Nat} {f : Nat → Nat} (h : ∀ j, j < n → f j ≤ 1) : si_sm n f ≤ n := by
  induction n with
  | zero => exact Nat.le_refl 0
  | succ n ih =>
    have h1 := ih (fun i hi => h i (by omega))
    have h2 := h n (by omega)
    rw [si_sm_s]; omega
theorem si_sm_full {n : Nat} {f : Nat → Nat} (h : ∀ j, j < n → f j ≤ 1) (he : si_sm n f = n) : ∀ j, j < n → f j = 1 := by
  induction n with
  | zero => intro j hj; omega
  | succ n ih =>
    have h0 := si_sm_le (n := n) (fun i hi => h i (by omega))
    have h2 := h n (by omega)
    rw [si_sm_s] at he
    intro j hj
    by_cases e : j = n
    · subst e; omega
    · exact ih (fun i hi => h i (by omega)) (by omega) j (by omega)
/-- f sends the numbers below n to such, and no two to one -/
def si_bij (n : Nat) (f : Nat → Nat) : Prop := (∀ i, i < n → f i < n) ∧ ∀ i j, i < n → j < n → f i = f j → i = j
theorem si_hit {n : Nat} {f : Nat → Nat} (h : si_bij n f) : ∀ j, j < n → si_cn n (fun i => f i == j) = 1 := by
  refine si_sm_full (f := fun j => si_cn n (fun i => f i == j)) (fun j _ => si_cn_1 (fun a b ha hb h1 h2 => h.2 a b ha hb (by simp at h1 h2; omega))) ?_
  rw [si_sm_congr (g := fun j => si_sm n (fun i => if f i = j then 1 else 0)) (fun j _ => by
    rw [si_cn_sm]
    exact si_sm_congr (fun i _ => by by_cases e : f i = j <;> simp [e])), ← si_sm_swap]
  rw [si_sm_congr (g := fun _ => 1) (fun i hi => si_sm_1 (h.1 i hi))]
  have := si_cn_sm n (fun _ => true)
  rw [si_cn_all] at this
  simpa using this.symm
theorem si_onto {n : Nat} {f : Nat → Nat} (h : si_bij n f) {j : Nat} (hj : j < n) : ∃ i, i < n ∧ f i = j := by
  have h1 := si_hit h j hj
  apply Classical.byContradiction
  intro hn
  rw [si_cn_0 (fun i hi => by
    cases e : (f i == j) with
    | false => rfl
    | true => exact absurd ⟨i, hi, by simpa using e⟩ hn)] at h1
  omega
theorem si_cn_bij {n : Nat} {f : Nat → Nat} (h : si_bij n f) (P : Nat → Bool) : si_cn n (fun i => P (f i)) = si_cn n P := by
  rw [si_cn_sm]
  rw [si_sm_congr (g := fun i => si_sm n (fun j => if f i = j then (if P j = true then 1 else 0) else 0)) (fun i hi => by
    have h1 := si_sm_1 (n := n) (a := f i) (w := if P (f i) = true then 1 else 0) (h.1 i hi)
    rw [← h1]
    exact si_sm_congr (fun j _ => by by_cases e : f i = j <;> simp [e]))]
  rw [si_sm_swap, si_cn_sm n P]
  refine si_sm_congr (fun j hj => ?_)
  have h2 := si_sm_w n (if P j = true then 1 else 0) (fun i => f i == j)
  rw [si_hit h j hj, Nat.mul_one] at h2
  refine Eq.trans (si_sm_congr (fun i _ => ?_)) h2
  by_cases e : f i = j
  · exact (if_pos e).trans (if_pos (beq_iff_eq.mpr e)).symm
  · exact (if_neg e).trans (if_neg (fun q => e (beq_iff_eq.mp q))).symm
/-- the greatest i < n that has P (0 if none has) -/
def si_fd : Nat → (Nat → Bool) → Nat
  | 0, _ => 0
  | n + 1, P => if P n = true then n else si_fd n P
theorem si_fd_ok {n : Nat} {P : Nat → Bool} {i : Nat} (hi : i < n) (h : P i = true) : si_fd n P < n ∧ P (si_fd n P) = true := by
  induction n with
  | zero => omega
  | succ n ih =>
    show (if P n = true then n else si_fd n P) < n + 1 ∧ P (if P n = true then n else si_fd n P) = true
    by_cases hp : P n = true
    · rw [if_pos hp]; exact ⟨by omega, hp⟩
    · rw [if_neg hp]
      have hne : i ≠ n := fun e => hp (e ▸ h)
      have := ih (by omega)
      exact ⟨by omega, this.2⟩
/-- the inverse of f -/
def si_iv (n : Nat) (f : Nat → Nat) (j : Nat) : Nat := si_fd n (fun i => f i == j)
theorem si_iv_ok {n : Nat} {f : Nat → Nat} (h : si_bij n f) {j : Nat} (hj : j < n) : si_iv n f j < n ∧ f (si_iv n f j) = j := by
  obtain ⟨i, hi, e⟩ := si_onto h hj
  have := si_fd_ok (P := fun i => f i == j) hi (by simp [e])
  exact ⟨this.1, beq_iff_eq.mp this.2⟩
theorem si_iv_f {n : Nat} {f : Nat → Nat} (h : si_bij n f) {i : Nat} (hi : i < n) : si_iv n f (f i) = i := by
  have := si_iv_ok h (h.1 i hi)
  exact h.2 _ _ this.1 hi this.2
/-- the order of texts: the shorter is the smaller where the longer goes on -/
def si_sl : List Nat → List Nat → Bool
  | [], [] => false
  | [], _ :: _ => true
  | _ :: _, [] => false
  | a :: as, b :: bs => decide (a < b) || (a == b && si_sl as bs)
theorem si_sl_rf (a : List Nat) : si_sl a a = false := by
  induction a with
  | nil => rfl
  | cons x xs ih => simp [si_sl, ih]
theorem si_sl_nil (a : List Nat) : si_sl a [] = false := by cases a <;> rfl
theorem si_sl_tr {a b c : List Nat} (h1 : si_sl a b = true) (h2 : si_sl b c = true) : si_sl a c = true := by
  induction a generalizing b c with
  | nil =>
    cases b with
    | nil => simp [si_sl] at h1
    | cons y ys => cases c with
      | nil => simp [si_sl] at h2
      | cons z zs => rfl
  | cons x xs ih =>
    cases b with
    | nil => simp [si_sl] at h1
    | cons y ys => cases c with
      | nil => simp [si_sl] at h2
      | cons z zs =>
        simp only [si_sl, Bool.or_eq_true, Bool.and_eq_true, decide_eq_true_eq, beq_iff_eq] at h1 h2 ⊢
        rcases h1 with h1 | ⟨h1, h1'⟩
        · rcases h2 with h2 | ⟨h2, h2'⟩
          · left; omega
          · left; omega
        · rcases h2 with h2 | ⟨h2, h2'⟩
          · left; omega
          · right; exact ⟨by omega, ih h1' h2'⟩
theorem si_sl_tot {a b : List Nat} (h : a ≠ b) : si_sl a b = true ∨ si_sl b a = true := by
  induction a generalizing b with
  | nil => cases b with
    | nil => exact absurd rfl h
    | cons y ys => exact Or.inl rfl
  | cons x xs ih => cases b with
    | nil => exact Or.inr rfl
    | cons y ys =>
      simp only [si_sl, Bool.or_eq_true, Bool.and_eq_true, decide_eq_true_eq, beq_iff_eq]
      rcases Nat.lt_trichotomy x y with e | e | e
      · exact Or.inl (Or.inl e)
      · subst e
        have hne : xs ≠ ys := fun e => h (by rw [e])
        rcases ih hne with q | q
        · exact Or.inl (Or.inr ⟨rfl, q⟩)
        · exact Or.inr (Or.inr ⟨rfl, q⟩)
      · exact Or.inr (Or.inl e)
theorem si_sl_as {a b : List Nat} (h : si_sl a b = true) : si_sl b a = false := by
  cases e : si_sl b a with
  | false => rfl
  | true => have := si_sl_tr h e
            rw [si_sl_rf] at this; cases this
/-- the code at place p (0, the END, behind the last) -/
def si_g (t : List Nat) (p : Nat) : Nat := t.getD p 0
theorem si_g_in {t : List Nat} {p : Nat} (h : p < t.length) : si_g t p = t[p] := by simp [si_g, h]
theorem si_g_out {t : List Nat} {p : Nat} (h : t.length ≤ p) : si_g t p = 0 := by simp [si_g, h]
theorem si_drop {t : List Nat} {p : Nat} (h : p < t.length) : t.drop p = si_g t p :: t.drop (p + 1) := by
  rw [List.drop_eq_getElem_cons h, si_g_in h]
theorem si_dropn {t : List Nat} {p : Nat} (h : t.length ≤ p) : t.drop p = [] := List.drop_eq_nil_of_le h
/-- suffix q is smaller than suffix p -/
def si_sf (t : List Nat) (q p : Nat) : Bool := si_sl (t.drop q) (t.drop p)
theorem si_sf_s {t : List Nat} {q p : Nat} (hq : q < t.length) (hp : p < t.length) : si_sf t q p = (decide (si_g t q < si_g t p) || (si_g t q == si_g t p && si_sf t (q + 1) (p + 1))) := by
  unfold si_sf
  rw [si_drop hq, si_drop hp]
  rfl
theorem si_sf_e {t : List Nat} {p : Nat} (hp : p < t.length) : si_sf t t.length p = true := by
  unfold si_sf
  rw [si_dropn (Nat.le_refl _), si_drop hp]
  rfl
theorem si_sf_n {t : List Nat} {q : Nat} : si_sf t q t.length = false := by
  unfold si_sf
  rw [si_dropn (Nat.le_refl _)]
  exact si_sl_nil _
theorem si_sf_tot {t : List Nat} {q p : Nat} (hq : q ≤ t.length) (hp : p ≤ t.length) (h : q ≠ p) : si_sf t q p = true ∨ si_sf t p q = true :=
  si_sl_tot (fun e => h (by
    have := congrArg List.length e
    rw [List.length_drop, List.length_drop] at this
    omega))
/-- the row of place p -/
def si_rk (t : List Nat) (p : Nat) : Nat := si_cn (t.length + 1) (fun q => si_sf t q p)
theorem si_rk_lt {t : List Nat} {q p : Nat} (hq : q ≤ t.length) (h : si_sf t q p = true) : si_rk t q < si_rk t p :=
  si_cn_lt (j := q) (fun i _ hi => si_sl_tr hi h) (by omega) (si_sl_rf _) h
theorem si_rk_iff {t : List Nat} {q p : Nat} (hq : q ≤ t.length) (hp : p ≤ t.length) : si_rk t q < si_rk t p ↔ si_sf t q p = true := by
  constructor
  · intro h
    by_cases e : q = p
    · subst e; omega
    · rcases si_sf_tot hq hp e with h1 | h1
      · exact h1
      · have := si_rk_lt hp h1; omega
  · exact si_rk_lt hq
theorem si_rk_inj {t : List Nat} {q p : Nat} (hq : q ≤ t.length) (hp : p ≤ t.length) (h : si_rk t q = si_rk t p) : q = p := by
  apply Classical.byContradiction
  intro e
  rcases si_sf_tot hq hp e with h1 | h1
  · have := si_rk_lt hq h1; omega
  · have := si_rk_lt hp h1; omega
theorem si_rk_le {t : List Nat} {p : Nat} (hp : p ≤ t.length) : si_rk t p < t.length + 1 := by
  have h := si_cn_lt (n := t.length + 1) (j := p) (P := fun q => si_sf t q p) (Q := fun _ => true) (fun _ _ _ => rfl) (by omega) (si_sl_rf _) rfl
  rw [si_cn_all] at h
  exact h
theorem si_rk_n (t : List Nat) : si_rk t t.length = 0 := si_cn_0 (fun _ _ => si_sf_n)
theorem si_rk_bij (t : List Nat) : si_bij (t.length + 1) (si_rk t) :=
  ⟨fun _ hi => si_rk_le (by omega), fun _ _ hi hj h => si_rk_inj (by omega) (by omega) h⟩
/-- the place of row r -/
def si_pl (t : List Nat) (r : Nat) : Nat := si_iv (t.length + 1) (si_rk t) r
theorem si_pl_ok {t : List Nat} {r : Nat} (h : r ≤ t.length) : si_pl t r ≤ t.length ∧ si_rk t (si_pl t r) = r := by
  have := si_iv_ok (si_rk_bij t) (show r < t.length + 1 by omega)
  exact ⟨Nat.le_of_lt_succ this.1, this.2⟩
theorem si_pl_rk {t : List Nat} {p : Nat} (h : p ≤ t.length) : si_pl t (si_rk t p) = p := si_iv_f (si_rk_bij t) (by omega)
/-- the code that stands before place p (0: the END) -/
def si_bf (t : List Nat) (p : Nat) : Nat := if p = 0 then 0 else si_g t (p - 1)
/-- the BEFORE of row r -/
def si_B (t : List Nat) (r : Nat) : Nat := si_bf t (si_pl t r)
theorem si_B_rk {t : List Nat} {p : Nat} (h : p ≤ t.length) : si_B t (si_rk t p) = si_bf t p := by
  unfold si_B; rw [si_pl_rk h]
/-- the order of rows by their codes -/
def si_lo (c : Nat → Nat) (i r : Nat) : Bool := decide (c i < c r) || (c i == c r && decide (i < r))
def si_lf (c : Nat → Nat) (n : Nat) (r : Nat) : Nat := si_cn n (fun i => si_lo c i r)
theorem si_lo_rf (c : Nat → Nat) (i : Nat) : si_lo c i i = false := by simp [si_lo]
theorem si_lo_tr {c : Nat → Nat} {i j k : Nat} (h1 : si_lo c i j = true) (h2 : si_lo c j k = true) : si_lo c i k = true := by
  simp only [si_lo, Bool.or_eq_true, Bool.and_eq_true, decide_eq_true_eq, beq_iff_eq] at h1 h2 ⊢
  omega
theorem si_lo_tot {c : Nat → Nat} {i j : Nat} (h : i ≠ j) : si_lo c i j = true ∨ si_lo c j i = true := by
  simp only [si_lo, Bool.or_eq_true, Bool.and_eq_true, decide_eq_true_eq, beq_iff_eq]
  omega
theorem si_lf_lt {c : Nat → Nat} {n i j : Nat} (hi : i < n) (h : si_lo c i j = true) : si_lf c n i < si_lf c n j :=
  si_cn_lt (j := i) (fun _ _ hk => si_lo_tr hk h) hi (si_lo_rf c i) h
theorem si_lf_bij (c : Nat → Nat) (n : Nat) : si_bij n (si_lf c n) := by
  refine ⟨fun i hi => ?_, fun i j hi hj h => ?_⟩
  · have h := si_cn_lt (n := n) (j := i) (P := fun q => si_lo c q i) (Q := fun _ => true) (fun _ _ _ => rfl) hi (si_lo_rf c i) rfl
    rw [si_cn_all] at h
    exact h
  · apply Classical.byContradiction
    intro e
    rcases si_lo_tot (c := c) e with h1 | h1
    · have := si_lf_lt hi h1; omega
    · have := si_lf_lt hj h1; omega
/-- a text that may be written: at most 60 characters, each from 32 to 126 -/
def si_ok (t : List Nat) : Prop := t.length ≤ 60 ∧ ∀ c ∈ t, 32 ≤ c ∧ c ≤ 126
theorem si_ok_at {t : List Nat} (h : si_ok t) {p : Nat} (hp : p < t.length) : 32 ≤ si_g t p ∧ si_g t p ≤ 126 := by
  rw [si_g_in hp]
  exact h.2 _ (List.getElem_mem hp)
theorem si_bf_le {t : List Nat} (h : si_ok t) (p : Nat) : si_bf t p ≤ 126 := by
  unfold si_bf
  by_cases e : p = 0
  · rw [if_pos e]; omega
  · rw [if_neg e]
    by_cases hp : p - 1 < t.length
    · exact (si_ok_at h hp).2
    · rw [si_g_out (by omega)]; omega
theorem si_B_le {t : List Nat} (h : si_ok t) (r : Nat) : si_B t r ≤ 126 := si_bf_le h _
/-- the step of the rows: from the row of p to the row of the place before it -/
theorem si_lf_rk {t : List Nat} (h : si_ok t) {p : Nat} (h1 : 1 ≤ p) (h2 : p ≤ t.length) : si_lf (si_B t) (t.length + 1) (si_rk t p) = si_rk t (p - 1) := by
  unfold si_lf
  rw [← si_cn_bij (si_rk_bij t)]
  have hg : si_bij (t.length + 1) (fun q => if q = 0 then t.length else q - 1) := by
    refine ⟨fun i hi => ?_, fun i j hi hj e => ?_⟩
    · show (if i = 0 then t.length else i - 1) < t.length + 1
      split <;> omega
    · have e : (if i = 0 then t.length else i - 1) = (if j = 0 then t.length else j - 1) := e
      split at e <;> split at e <;> omega
  show _ = si_cn (t.length + 1) (fun q => si_sf t q (p - 1))
  rw [← si_cn_bij hg (fun q => si_sf t q (p - 1))]
  refine si_cn_congr (fun q hq => ?_)
  unfold si_lo
  rw [si_B_rk (show q ≤ t.length by omega), si_B_rk h2]
  have hp := si_ok_at h (show p - 1 < t.length by omega)
  have hbp : si_bf t p = si_g t (p - 1) := by unfold si_bf; rw [if_neg (by omega)]
  rw [hbp]
  by_cases e : q = 0
  · subst e
    rw [if_pos rfl, si_sf_e (by omega)]
    have : si_bf t 0 = 0 := rfl
    rw [this]
    have : (0 : Nat) < si_g t (p - 1) := by omega
    simp [this]
  · rw [if_neg e]
    have hbq : si_bf t q = si_g t (q - 1) := by unfold si_bf; rw [if_neg e]
    rw [hbq, si_sf_s (by omega) (by omega)]
    have e1 : q - 1 + 1 = q := by omega
    have e2 : p - 1 + 1 = p := by omega
    rw [e1, e2]
    have h3 := si_rk_iff (t := t) (q := q) (p := p) (by omega) h2
    have h4 : decide (si_rk t q < si_rk t p) = si_sf t q p := by
      cases hs : si_sf t q p with
      | true => simp [h3.mpr hs]
      | false => simp; have : ¬ si_rk t q < si_rk t p := fun q1 => by rw [h3.mp q1] at hs; cases hs
                 omega
    rw [h4]
theorem si_lf_0 {t : List Nat} (h : si_ok t) : si_lf (si_B t) (t.length + 1) (si_rk t 0) = 0 := by
  unfold si_lf
  rw [← si_cn_bij (si_rk_bij t)]
  refine si_cn_0 (fun q hq => ?_)
  unfold si_lo
  rw [si_B_rk (show q ≤ t.length by omega), si_B_rk (Nat.zero_le _)]
  have : si_bf t 0 = 0 := rfl
  rw [this]
  by_cases e : q = 0
  · subst e; simp
  · have hbq : si_bf t q = si_g t (q - 1) := by unfold si_bf; rw [if_neg e]
    have := si_ok_at h (show q - 1 < t.length by omega)
    rw [hbq]
    have h0 : ¬ si_g t (q - 1) = 0 := by omega
    simp [h0]
end
section
/-! Pure rows: the levels of an image, reading them again, the image. -/
theorem si_bij_comp {n : Nat} {f g : Nat → Nat} (hf : si_bij n f) (hg : si_bij n g) : si_bij n (fun i => g (f i)) :=
  ⟨fun i hi => hg.1 _ (hf.1 i hi), fun i j hi hj h => hf.2 i j hi hj (hg.2 _ _ (hf.1 i hi) (hf.1 j hj) h)⟩
/-- where place i goes: the zeros first, then the ones, each in their order -/
def si_ps (n : Nat) (b : Nat → Bool) (i : Nat) : Nat := if b i = true then si_cn n (fun k => !b k) + si_cn i b else si_cn i (fun k => !b k)
theorem si_ps_t {n : Nat} {b : Nat → Bool} {i : Nat} (h : b i = true) : si_ps n b i = si_cn n (fun k => !b k) + si_cn i b := if_pos h
theorem si_ps_f {n : Nat} {b : Nat → Bool} {i : Nat} (h : b i = false) : si_ps n b i = si_cn i (fun k => !b k) := if_neg (by rw [h]; decide)
theorem si_ps_bij (n : Nat) (b : Nat → Bool) : si_bij n (si_ps n b) := by
  have hn := si_cn_not n b
  have key : ∀ i j, i < n → j < n → i < j → si_ps n b i ≠ si_ps n b j := by
    intro i j hi hj hij
    cases ei : b i <;> cases ej : b j
    · have := si_cn_ups (P := fun k => !b k) hij (by simp [ei])
      rw [si_ps_f ei, si_ps_f ej]; omega
    · have := si_cn_ups (P := fun k => !b k) hi (by simp [ei])
      rw [si_ps_f ei, si_ps_t ej]; omega
    · have := si_cn_ups (P := fun k => !b k) hj (by simp [ej])
      rw [si_ps_t ei, si_ps_f ej]; omega
    · have := si_cn_ups hij ei
      rw [si_ps_t ei, si_ps_t ej]; omega
  refine ⟨fun i hi => ?_, fun i j hi hj h => ?_⟩
  · cases ei : b i
    · have := si_cn_ups (P := fun k => !b k) hi (by simp [ei])
      rw [si_ps_f ei]; omega
    · have := si_cn_ups hi ei
      rw [si_ps_t ei]; omega
  · rcases Nat.lt_trichotomy i j with e | e | e
    · exact absurd h (key i j hi hj e)
    · exact e
    · exact absurd h.symm (key j i hj hi e)
theorem si_ps_congr {n : Nat} {b b' : Nat → Bool} (h : ∀ i, i < n → b i = b' i) {i : Nat} (hi : i < n) : si_ps n b i = si_ps n b' i := by
  unfold si_ps
  rw [h i hi, si_cn_congr (n := n) (P := fun k => !b k) (Q := fun k => !b' k) (fun k hk => by rw [h k hk]), si_cn_congr (n := i) (P := fun k => !b k) (Q := fun k => !b' k) (fun k hk => by rw [h k (by omega)]), si_cn_congr (n := i) (P := b) (Q := b') (fun k hk => h k (by omega))]
/-- bit j of a code of seven bits, the highest first -/
def si_bt (j c : Nat) : Bool := c / 2 ^ (6 - j) % 2 == 1
/-- the place of row x at level j -/
def si_lp (c : Nat → Nat) (n : Nat) : Nat → Nat → Nat
  | 0 => fun x => x
  | j + 1 => fun x => si_ps n (fun i => si_bt j (c (si_iv n (si_lp c n j) i))) (si_lp c n j x)
/-- the bit at place i of level j -/
def si_lb (c : Nat → Nat) (n j i : Nat) : Bool := si_bt j (c (si_iv n (si_lp c n j) i))
theorem si_lp_s (c : Nat → Nat) (n j x : Nat) : si_lp c n (j + 1) x = si_ps n (si_lb c n j) (si_lp c n j x) := rfl
theorem si_lp_bij (c : Nat → Nat) (n j : Nat) : si_bij n (si_lp c n j) := by
  induction j with
  | zero => exact ⟨fun _ h => h, fun _ _ _ _ h => h⟩
  | succ j ih => exact si_bij_comp (f := si_lp c n j) (g := si_ps n (si_lb c n j)) ih (si_ps_bij n (si_lb c n j))
theorem si_lb_at {c : Nat → Nat} {n j x : Nat} (hx : x < n) : si_lb c n j (si_lp c n j x) = si_bt j (c x) := by
  unfold si_lb
  rw [si_iv_f (si_lp_bij c n j) hx]
/-- the word with the bits b below n -/
def si_wd : Nat → (Nat → Bool) → Int64
  | 0, _ => 0
  | n + 1, b => if b n = true then si_wd n b ||| ((1 : Int64) <<< ((nI n).toInt64 &&& 63)) else si_wd n b
theorem si_wd_t {n : Nat} {b : Nat → Bool} (h : b n = true) : si_wd (n + 1) b = si_wd n b ||| ((1 : Int64) <<< ((nI n).toInt64 &&& 63)) := if_pos h
theorem si_wd_f {n : Nat} {b : Nat → Bool} (h : b n = false) : si_wd (n + 1) b = si_wd n b := if_neg (by rw [h]; decide)
theorem si_wd_congr {n : Nat} {b b' : Nat → Bool} (h : ∀ i, i < n → b i = b' i) : si_wd n b = si_wd n b' := by
  induction n with
  | zero => rfl
  | succ n ih =>
    have ih := ih (fun i hi => h i (by omega))
    have hn := h n (by omega)
    cases e : b n with
    | true => rw [si_wd_t e, si_wd_t (hn ▸ e), ih]
    | false => rw [si_wd_f e, si_wd_f (hn ▸ e), ih]
/-- bit i of a word -/
def si_bi (w : Int64) (i : Nat) : Bool := w.toBitVec.getLsbD i
theorem si_sh1 : ∀ k, k < 64 → ((1 : Int64) <<< ((nI k).toInt64 &&& 63)).toBitVec = BitVec.twoPow 64 k := by decide +kernel
theorem si_or1 (w : Int64) {k : Nat} (hk : k < 64) (i : Nat) : si_bi (w ||| ((1 : Int64) <<< ((nI k).toInt64 &&& 63))) i = (si_bi w i || decide (k = i)) := by
  unfold si_bi
  rw [Int64.toBitVec_or, BitVec.getLsbD_or, si_sh1 k hk, BitVec.getLsbD_twoPow]
  simp [hk]
theorem si_bi_0 (i : Nat) : si_bi 0 i = false := by
  unfold si_bi
  show (0#64).getLsbD i = false
  simp
theorem si_wd_bi {n : Nat} (hn : n ≤ 64) (b : Nat → Bool) (i : Nat) : si_bi (si_wd n b) i = (decide (i < n) && b i) := by
  induction n with
  | zero => exact (si_bi_0 i).trans (by simp)
  | succ n ih =>
    have ih := ih (by omega)
    cases e : b n with
    | true =>
      rw [si_wd_t e, si_or1 _ (by omega), ih]
      by_cases q : n = i
      · subst q; simp [e]
      · have : decide (i < n + 1) = decide (i < n) := decide_eq_decide.mpr (by omega)
        rw [this]; simp [q]
    | false =>
      rw [si_wd_f e, ih]
      by_cases q : n = i
      · subst q; simp [e]
      · have : decide (i < n + 1) = decide (i < n) := decide_eq_decide.mpr (by omega)
        rw [this]
theorem si_bi_ext {w v : Int64} (h : ∀ i, i < 64 → si_bi w i = si_bi v i) : w = v :=
  wb_inj (BitVec.eq_of_getLsbD_eq (fun i hi => h i hi))
theorem si_and1 (x : BitVec 64) : (x &&& 1#64) = if x.getLsbD 0 = true then 1#64 else 0#64 := by
  apply BitVec.eq_of_getLsbD_eq
  intro i hi
  rw [BitVec.getLsbD_and]
  cases i with
  | zero =>
    cases h : x.getLsbD 0
    · rw [if_neg (by decide), Bool.false_and]; decide
    · rw [if_pos rfl, Bool.true_and]
  | succ i =>
    have h1 : (1#64).getLsbD (i + 1) = false := by simp
    rw [h1, Bool.and_false]
    cases h : x.getLsbD 0
    · rw [if_neg (by decide)]; simp
    · rw [if_pos rfl, h1]
theorem si_ite1 (b : Bool) : (if b = true then (1 : Int64) else 0).toBitVec = if b = true then 1#64 else 0#64 := by cases b <;> rfl
/-- the bit as the class reads it -/
theorem si_ush (w : Int64) {i : Nat} (hi : i < 64) : ((w.toUInt64 >>> ((nI i).toInt64.toUInt64 &&& Int64.toUInt64 63)).toInt64 &&& 1) = if si_bi w i = true then 1 else 0 := by
  rw [wb_cu i hi]
  apply wb_inj
  have e : (w.toUInt64 >>> UInt64.ofNat i).toInt64.toBitVec = w.toBitVec >>> i := by
    apply BitVec.eq_of_toNat_eq
    show (w.toUInt64 >>> UInt64.ofNat i).toNat = _
    have h1 : (UInt64.ofNat i).toNat = i := by
      show (BitVec.ofNat 64 i).toNat = i
      rw [BitVec.toNat_ofNat, Nat.mod_eq_of_lt (by omega)]
    rw [UInt64.toNat_shiftRight, h1, Nat.mod_eq_of_lt hi, BitVec.toNat_ushiftRight]
    rfl
  rw [Int64.toBitVec_and, e, si_ite1]
  show (w.toBitVec >>> i) &&& 1#64 = _
  rw [si_and1, BitVec.getLsbD_ushiftRight, Nat.add_zero]
  rfl
/-- the bit as the reference reads it -/
theorem si_ssh (w : Int64) {i : Nat} (hi : i < 64) : ((w >>> ((nI i).toInt64 &&& 63)) &&& 1) = if si_bi w i = true then 1 else 0 := by
  rw [wb_c i hi]
  apply wb_inj
  rw [Int64.toBitVec_and, Int64.toBitVec_shiftRight, wb_tb, wb_sm i hi, si_ite1]
  show (w.toBitVec.sshiftRight' (BitVec.ofNat 64 i)) &&& 1#64 = _
  have h1 : (BitVec.ofNat 64 i).toNat = i := by rw [BitVec.toNat_ofNat, Nat.mod_eq_of_lt (by omega)]
  rw [si_and1, BitVec.sshiftRight', h1, BitVec.getLsbD_sshiftRight]
  simp [hi, si_bi]
/-- places and codes, read from the words' bits, level by level -/
def si_rp (b : Nat → Nat → Bool) (n : Nat) : Nat → Nat → Nat
  | 0 => fun x => x
  | j + 1 => fun x => si_ps n (b j) (si_rp b n j x)
def si_rc (b : Nat → Nat → Bool) (n : Nat) : Nat → Nat → Nat
  | 0 => fun _ => 0
  | j + 1 => fun x => 2 * si_rc b n j x + (if b j (si_rp b n j x) = true then 1 else 0)
theorem si_rp_s (b : Nat → Nat → Bool) (n j x : Nat) : si_rp b n (j + 1) x = si_ps n (b j) (si_rp b n j x) := rfl
theorem si_rc_s (b : Nat → Nat → Bool) (n j x : Nat) : si_rc b n (j + 1) x = 2 * si_rc b n j x + (if b j (si_rp b n j x) = true then 1 else 0) := rfl
theorem si_rp_bij (b : Nat → Nat → Bool) (n j : Nat) : si_bij n (si_rp b n j) := by
  induction j with
  | zero => exact ⟨fun _ h => h, fun _ _ _ _ h => h⟩
  | succ j ih => exact si_bij_comp (f := si_rp b n j) (g := si_ps n (b j)) ih (si_ps_bij n (b j))
theorem si_rc_lt (b : Nat → Nat → Bool) (n j x : Nat) : si_rc b n j x < 2 ^ j := by
  induction j with
  | zero => exact Nat.zero_lt_one
  | succ j ih => rw [si_rc_s, Nat.pow_succ]; split <;> omega
theorem si_rp_lp {b : Nat → Nat → Bool} {c : Nat → Nat} {n : Nat} {J : Nat} (h : ∀ j, j < J → ∀ i, i < n → b j i = si_lb c n j i) : ∀ j, j ≤ J → ∀ x, x < n → si_rp b n j x = si_lp c n j x := by
  intro j
  induction j with
  | zero => intro _ x _; rfl
  | succ j ih =>
    intro hj x hx
    rw [si_rp_s, si_lp_s, ih (by omega) x hx]
    exact si_ps_congr (h j (by omega)) ((si_lp_bij c n j).1 x hx)
theorem si_rc_c {b : Nat → Nat → Bool} {c : Nat → Nat} {n : Nat} (h : ∀ j, j < 7 → ∀ i, i < n → b j i = si_lb c n j i) {x : Nat} (hx : x < n) (hc : c x < 128) : ∀ j, j ≤ 7 → si_rc b n j x = c x / 2 ^ (7 - j) := by
  intro j
  induction j with
  | zero => intro _; rw [Nat.div_eq_of_lt (by omega)]; rfl
  | succ j ih =>
    intro hj
    rw [si_rc_s, ih (by omega), si_rp_lp h j (by omega) x hx, h j (by omega) _ ((si_lp_bij c n j).1 x hx), si_lb_at hx]
    unfold si_bt
    have e : 7 - j = (6 - j) + 1 := by omega
    have e2 : 7 - (j + 1) = 6 - j := by omega
    rw [e, e2, Nat.pow_succ, ← Nat.div_div_eq_div_mul]
    generalize c x / 2 ^ (6 - j) = a
    by_cases q : a % 2 = 1
    · rw [if_pos (by simp [q])]; omega
    · rw [if_neg (by simp; omega)]; omega
/-- a number drawn into the words from fw on -/
def si_dn (im : Nat → Int64) (fw i v : Nat) : Nat → Int64 := vp_updL im (fw + i / 10) (im (fw + i / 10) ||| (lN v <<< ((nI (6 * (i % 10))).toInt64 &&& 63)))
/-- the marks, the places of the marked rows: over the first r rows -/
def si_mr (t : List Nat) (s : Nat) : Nat → (Nat → Int64) × Nat
  | 0 => (fun _ => 0, 0)
  | r + 1 => if si_pl t r % s = 0 then (si_dn (vp_updL (si_mr t s r).1 8 ((si_mr t s r).1 8 ||| ((1 : Int64) <<< ((nI r).toInt64 &&& 63)))) 9 (si_mr t s r).2 (si_pl t r / s), (si_mr t s r).2 + 1) else si_mr t s r
theorem si_mr_t {t : List Nat} {s r : Nat} (h : si_pl t r % s = 0) : si_mr t s (r + 1) = (si_dn (vp_updL (si_mr t s r).1 8 ((si_mr t s r).1 8 ||| ((1 : Int64) <<< ((nI r).toInt64 &&& 63)))) 9 (si_mr t s r).2 (si_pl t r / s), (si_mr t s r).2 + 1) := if_pos h
theorem si_mr_f {t : List Nat} {s r : Nat} (h : ¬ si_pl t r % s = 0) : si_mr t s (r + 1) = si_mr t s r := if_neg h
theorem si_mr_le (t : List Nat) (s r : Nat) : (si_mr t s r).2 ≤ r := by
  induction r with
  | zero => exact Nat.le_refl 0
  | succ r ih =>
    by_cases h : si_pl t r % s = 0
    · rw [si_mr_t h]; show (si_mr t s r).2 + 1 ≤ r + 1; omega
    · rw [si_mr_f h]; omega
/-- the rows of the places: over the first q of them -/
def si_rw (t : List Nat) (s : Nat) : Nat → (Nat → Int64)
  | 0 => (si_mr t s (t.length + 1)).1
  | q + 1 => si_dn (si_rw t s q) 16 q (si_rk t (q * s))
/-- the image of the text t at the rate s -/
def si_im (t : List Nat) (s : Nat) : Nat → Int64 := fun k => if k = 0 then lN (t.length + 256 * s) else if k < 8 then si_wd (t.length + 1) (si_lb (si_B t) (t.length + 1) (k - 1)) else si_rw t s (t.length / s + 1) k
def si_is (d : Nat → Int64) (t : List Nat) (s : Nat) : Prop := si_ok t ∧ 1 ≤ s ∧ s ≤ 16 ∧ ∀ k, k < 23 → d k = si_im t s k
/-- the bits of the levels in the words d -/
def si_db (d : Nat → Int64) (j i : Nat) : Bool := si_bi (d (j + 1)) i
theorem si_is_bits {d : Nat → Int64} {t : List Nat} {s : Nat} (h : si_is d t s) : ∀ j, j < 7 → ∀ i, i < t.length + 1 → si_db d j i = si_lb (si_B t) (t.length + 1) j i := by
  intro j hj i hi
  unfold si_db
  rw [h.2.2.2 (j + 1) (by omega)]
  unfold si_im
  rw [if_neg (by omega), if_pos (by omega), si_wd_bi (by have := h.1.1; omega), Nat.add_sub_cancel]
  simp [hi]
/-- the codes read from an image are the BEFOREs -/
theorem si_is_codes {d : Nat → Int64} {t : List Nat} {s : Nat} (h : si_is d t s) {x : Nat} (hx : x < t.length + 1) : si_rc (si_db d) (t.length + 1) 7 x = si_B t x := by
  have h1 := si_rc_c (si_is_bits h) hx (show si_B t x < 128 by have := si_B_le h.1 x; omega) 7 (Nat.le_refl 7)
  rw [h1]
  simp
theorem si_is_head {d : Nat → Int64} {t : List Nat} {s : Nat} (h : si_is d t s) : d 0 = lN (t.length + 256 * s) := by
  rw [h.2.2.2 0 (by omega)]; rfl
/-- one image, one text and rate: the text is told by its codes -/
theorem si_spell {t u : List Nat} (ht : si_ok t) (hu : si_ok u) (hn : t.length = u.length) (h : ∀ x, x < t.length + 1 → si_B t x = si_B u x) : t = u := by
  have hlf : ∀ r, r < t.length + 1 → si_lf (si_B t) (t.length + 1) r = si_lf (si_B u) (u.length + 1) r := fun r hr => by
    rw [← hn]
    exact si_cn_congr (fun i hi => by unfold si_lo; rw [h i hi, h r hr])
  have hrk : ∀ k, k ≤ t.length → si_rk t (t.length - k) = si_rk u (u.length - k) := by
    intro k
    induction k with
    | zero => intro _; rw [Nat.sub_zero, Nat.sub_zero, si_rk_n, si_rk_n]
    | succ k ih =>
      intro hk
      have e := ih (by omega)
      have h1 := si_lf_rk ht (p := t.length - k) (by omega) (by omega)
      have h2 := si_lf_rk hu (p := u.length - k) (by omega) (by omega)
      rw [hlf _ (si_rk_le (by omega)), e, h2] at h1
      rw [show t.length - (k + 1) = t.length - k - 1 by omega, show u.length - (k + 1) = u.length - k - 1 by omega]
      exact h1.symm
  apply List.ext_getElem hn
  intro p h1 h2
  have e1 := si_B_rk (t := t) (p := p + 1) (by omega)
  have e2 := si_B_rk (t := u) (p := p + 1) (by omega)
  have e3 := hrk (t.length - (p + 1)) (by omega)
  rw [show t.length - (t.length - (p + 1)) = p + 1 by omega, show u.length - (t.length - (p + 1)) = p + 1 by omega] at e3
  rw [h _ (si_rk_le (by omega)), e3, e2] at e1
  unfold si_bf at e1
  rw [if_neg (by omega), if_neg (by omega), Nat.add_sub_cancel] at e1
  rw [si_g_in h2, si_g_in h1] at e1
  exact e1.symm
end
section
/-! Pure rows: rows among the later suffixes; what the questions answer; the number of bits of a word. -/
theorem si_cn_from {n lo : Nat} (F : Nat → Bool) (h : lo < n) : si_cn n (fun i => decide (lo ≤ i) && F i) = si_cn n (fun i => decide (lo + 1 ≤ i) && F i) + (if F lo = true then 1 else 0) := by
  induction n with
  | zero => omega
  | succ n ih =>
    rw [si_cn_s, si_cn_s]
    by_cases e : lo = n
    · subst e
      have h1 : si_cn lo (fun i => decide (lo ≤ i) && F i) = 0 := si_cn_0 (fun i hi => by simp; omega)
      have h2 : si_cn lo (fun i => decide (lo + 1 ≤ i) && F i) = 0 := si_cn_0 (fun i hi => by simp; omega)
      rw [h1, h2]
      have h3 : decide (lo ≤ lo) = true := by simp
      have h4 : decide (lo + 1 ≤ lo) = false := by simp
      rw [h3, h4, Bool.true_and, Bool.false_and, if_neg (by decide : ¬ false = true)]
    · rw [ih (by omega)]
      have h1 : decide (lo ≤ n) = true := by simp; omega
      have h2 : decide (lo + 1 ≤ n) = true := by simp; omega
      rw [h1, h2]
      omega
/-- the row of p among the suffixes from lo on -/
def si_rr (t : List Nat) (lo p : Nat) : Nat := si_cn (t.length + 1) (fun q => decide (lo ≤ q) && si_sf t q p)
theorem si_rr_0 (t : List Nat) (p : Nat) : si_rr t 0 p = si_rk t p := si_cn_congr (fun q _ => by simp)
theorem si_rr_lt {t : List Nat} {lo q p : Nat} (h1 : lo ≤ q) (hq : q ≤ t.length) (h : si_sf t q p = true) : si_rr t lo q < si_rr t lo p := by
  refine si_cn_lt (j := q) (fun i _ hi => ?_) (by omega) ?_ ?_
  · rw [Bool.and_eq_true] at hi ⊢
    exact ⟨hi.1, si_sl_tr hi.2 h⟩
  · have : si_sf t q q = false := si_sl_rf _
    rw [this, Bool.and_false]
  · rw [h]; simp [h1]
theorem si_rr_iff {t : List Nat} {lo q p : Nat} (h1 : lo ≤ q) (h2 : lo ≤ p) (hq : q ≤ t.length) (hp : p ≤ t.length) : si_rr t lo q < si_rr t lo p ↔ si_sf t q p = true := by
  constructor
  · intro h
    by_cases e : q = p
    · subst e; omega
    · rcases si_sf_tot hq hp e with h3 | h3
      · exact h3
      · have := si_rr_lt h2 hp h3; omega
  · exact si_rr_lt h1 hq
theorem si_rr_le (t : List Nat) (lo p : Nat) (hp : p ≤ t.length) : si_rr t lo p ≤ t.length := by
  have h : si_rr t lo p ≤ si_rk t p := si_cn_mono (fun i _ hi => by rw [Bool.and_eq_true] at hi; exact hi.2)
  have := si_rk_le hp
  omega
theorem si_rr_self {t : List Nat} {p : Nat} (hp : p ≤ t.length) : si_rr t p p = si_rr t (p + 1) p := by
  unfold si_rr
  rw [si_cn_from (fun q => si_sf t q p) (by omega)]
  have : si_sf t p p = false := si_sl_rf _
  simp [this]
theorem si_rr_in {t : List Nat} {p q : Nat} (hp : p < q) (hq : q ≤ t.length) : si_rr t p q = si_rr t (p + 1) q + (if si_rr t (p + 1) p ≤ si_rr t (p + 1) q then 1 else 0) := by
  have h0 : si_rr t p q = si_rr t (p + 1) q + (if si_sf t p q = true then 1 else 0) := si_cn_from (fun i => si_sf t i q) (by omega)
  rw [h0]
  by_cases e : si_sf t p q = true
  · have : si_rr t (p + 1) p ≤ si_rr t (p + 1) q := si_cn_mono (fun i _ hi => by
      rw [Bool.and_eq_true] at hi ⊢
      exact ⟨hi.1, si_sl_tr hi.2 e⟩)
    rw [if_pos e, if_pos this]
  · have h1 : si_sf t q p = true := by
      rcases si_sf_tot (t := t) (q := q) (p := p) hq (by omega) (by omega) with h | h
      · exact h
      · exact absurd h e
    have h2 : si_rr t (p + 1) q < si_rr t (p + 1) p := si_rr_lt (by omega) hq h1
    rw [if_neg e, if_neg (by omega)]
/-- one and only one place for every row -/
theorem si_pl_of {t : List Nat} {f : Nat → Int32} (h : ∀ p, p < t.length + 1 → f (si_rk t p) = nI p) : ∀ r, r < t.length + 1 → f r = nI (si_pl t r) := by
  intro r hr
  have h1 := si_pl_ok (t := t) (r := r) (by omega)
  have h2 := h (si_pl t r) (by omega)
  rw [h1.2] at h2
  exact h2
/-- the pattern stands in the text at p -/
def si_oc (t a : List Nat) (p : Nat) : Bool := decide (p + a.length ≤ t.length) && (List.range a.length).all (fun i => si_g t (p + i) == si_g a i)
theorem si_oc_iff {t a : List Nat} {p : Nat} : si_oc t a p = true ↔ p + a.length ≤ t.length ∧ ∀ i, i < a.length → si_g t (p + i) = si_g a i := by
  unfold si_oc
  simp [List.all_eq_true]
/-- a code of the pattern is no END: so it is enough to look at the codes -/
theorem si_oc_iff2 {t a : List Nat} {p : Nat} (ha : ∀ c ∈ a, 32 ≤ c ∧ c ≤ 126) (hp : p ≤ t.length) : si_oc t a p = true ↔ ∀ i, i < a.length → si_g t (p + i) = si_g a i := by
  rw [si_oc_iff]
  constructor
  · exact fun h => h.2
  · intro h
    refine ⟨?_, h⟩
    cases hl : a.length with
    | zero => omega
    | succ k =>
      have h1 := h k (by omega)
      have h2 : si_g a k = a[k] := si_g_in (by omega)
      have h3 := ha _ (List.getElem_mem (show k < a.length by omega))
      rw [h2] at h1
      apply Classical.byContradiction
      intro hn
      rw [si_g_out (by omega)] at h1
      omega
/-- the answer of firstRow where a text is loaded -/
def si_fr (t a : List Nat) (v : Int32) : Prop := (v = -1 ∧ ∀ p, p ≤ t.length → si_oc t a p = false) ∨ ∃ r, r ≤ t.length ∧ v = nI r ∧ si_oc t a (si_pl t r) = true ∧ ∀ q, q < r → si_oc t a (si_pl t q) = false
/-- the answer of locate where a text is loaded, and k is no negative number -/
def si_lc (t a : List Nat) (k : Nat) (v : Int32) : Prop := (v = -1 ∧ si_cn (t.length + 1) (si_oc t a) ≤ k) ∨ ∃ p, p ≤ t.length ∧ v = nI p ∧ si_oc t a p = true ∧ si_cn p (si_oc t a) = k
theorem si_fr_one {t a : List Nat} {v w : Int32} (h1 : si_fr t a v) (h2 : si_fr t a w) : v = w := by
  have key : ∀ {r}, r ≤ t.length → si_oc t a (si_pl t r) = true → ¬ ∀ p, p ≤ t.length → si_oc t a p = false := by
    intro r hr h hn
    rw [hn _ (si_pl_ok hr).1] at h
    cases h
  rcases h1 with ⟨e1, n1⟩ | ⟨r1, l1, e1, o1, m1⟩ <;> rcases h2 with ⟨e2, n2⟩ | ⟨r2, l2, e2, o2, m2⟩
  · rw [e1, e2]
  · exact absurd n1 (key l2 o2)
  · exact absurd n2 (key l1 o1)
  · rcases Nat.lt_trichotomy r1 r2 with q | q | q
    · rw [m2 r1 q] at o1; cases o1
    · rw [e1, e2, q]
    · rw [m1 r2 q] at o2; cases o2
theorem si_lc_one {t a : List Nat} {k : Nat} {v w : Int32} (h1 : si_lc t a k v) (h2 : si_lc t a k w) : v = w := by
  have key : ∀ {p}, p ≤ t.length → si_oc t a p = true → si_cn p (si_oc t a) = k → ¬ si_cn (t.length + 1) (si_oc t a) ≤ k := by
    intro p hp ho hc hn
    have := si_cn_ups (b := t.length + 1) (show p < t.length + 1 by omega) ho
    omega
  rcases h1 with ⟨e1, n1⟩ | ⟨p1, l1, e1, o1, m1⟩ <;> rcases h2 with ⟨e2, n2⟩ | ⟨p2, l2, e2, o2, m2⟩
  · rw [e1, e2]
  · exact absurd n1 (key l2 o2 m2)
  · exact absurd n2 (key l1 o1 m1)
  · rcases Nat.lt_trichotomy p1 p2 with q | q | q
    · have := si_cn_ups q o1; omega
    · rw [e1, e2, q]
    · have := si_cn_ups q o2; omega
/-- the character c stands before a place where the pattern stands -/
def si_fo (t a : List Nat) (c : Nat) : Bool := (List.range t.length).any (fun p => si_g t p == c && si_oc t a (p + 1))
def si_va (t a : List Nat) : Nat := si_cn 127 (fun c => decide (32 ≤ c) && si_fo t a c)
-- bits of a word, byte by byte
def si_tb (x i : Nat) : Bool := x.testBit i
theorem si_cn_app (k n : Nat) (P : Nat → Bool) : si_cn (k + n) P = si_cn k P + si_cn n (fun i => P (k + i)) := by
  induction n with
  | zero => rfl
  | succ n ih => rw [show k + (n + 1) = (k + n) + 1 by omega, si_cn_s, si_cn_s, ih]; omega
theorem si_ldB {u v w z : Nat} (hv : v < 256) (hz : z < 256) : (256 * u + v) &&& (256 * w + z) = 256 * (u &&& w) + (v &&& z) := by
  have e : (256 : Nat) = 2 ^ 8 := by decide
  have hvz : v &&& z < 2 ^ 8 := Nat.and_lt_two_pow _ (by omega)
  apply Nat.eq_of_testBit_eq
  intro i
  rw [Nat.testBit_and, e, Nat.testBit_two_pow_mul_add _ (by omega), Nat.testBit_two_pow_mul_add _ (by omega), Nat.testBit_two_pow_mul_add _ hvz]
  by_cases h : i < 8
  · rw [if_pos h, if_pos h, if_pos h, Nat.testBit_and]
  · rw [if_neg h, if_neg h, if_neg h, Nat.testBit_and]
def si_m (b : Nat) : Nat → Nat
  | 0 => 0
  | k + 1 => 256 * si_m b k + b
/-- the steps of the count of bits, on k bytes -/
def si_s1 (k x : Nat) : Nat := x - (x / 2 &&& si_m 85 k)
def si_s2 (k x : Nat) : Nat := (si_s1 k x &&& si_m 51 k) + (si_s1 k x / 4 &&& si_m 51 k)
def si_s3 (k x : Nat) : Nat := (si_s2 k x + si_s2 k x / 16) &&& si_m 15 k
def si_p1 (b : Nat) : Nat := b - (b / 2 &&& 85)
def si_p2 (b : Nat) : Nat := (si_p1 b &&& 51) + (si_p1 b / 4 &&& 51)
def si_p3 (b : Nat) : Nat := (si_p2 b + si_p2 b / 16) % 16
theorem si_d1 : ∀ b, b < 256 → (b / 2 &&& 85) ≤ b ∧ ((128 + b / 2) &&& 85) = (b / 2 &&& 85) ∧ si_p1 b < 256 := by decide +kernel
theorem si_d2 : ∀ q, q < 256 → (q / 4 &&& 51) < 52 ∧ (q &&& 51) < 52 ∧ ((64 + q / 4) &&& 51) = (q / 4 &&& 51) ∧ ((128 + q / 4) &&& 51) = (q / 4 &&& 51) ∧ ((192 + q / 4) &&& 51) = (q / 4 &&& 51) := by decide +kernel
theorem si_d3 : ∀ q, q < 256 → (q &&& 15) = q % 16 := by decide +kernel
theorem si_d4 : ∀ b, b < 256 → si_cn 8 (si_tb b) = si_p3 b ∧ si_p3 b ≤ 8 := by decide +kernel
theorem si_s1_s {k y b : Nat} (hb : b < 256) : si_s1 (k + 1) (256 * y + b) = 256 * si_s1 k y + si_p1 b := by
  obtain ⟨h1, h2, h3⟩ := si_d1 b hb
  have e : (256 * y + b) / 2 = 256 * (y / 2) + (128 * (y % 2) + b / 2) := by omega
  have e2 : ((256 * y + b) / 2 &&& si_m 85 (k + 1)) = 256 * (y / 2 &&& si_m 85 k) + (b / 2 &&& 85) := by
    rw [e]
    show (256 * (y / 2) + (128 * (y % 2) + b / 2)) &&& (256 * si_m 85 k + 85) = _
    rw [si_ldB (by omega) (by omega)]
    congr 1
    rcases Nat.mod_two_eq_zero_or_one y with q | q
    · rw [q]; simp
    · rw [q]; exact h2
  unfold si_s1
  rw [e2]
  have h4 : (y / 2 &&& si_m 85 k) ≤ y := Nat.le_trans Nat.and_le_left (Nat.div_le_self _ _)
  unfold si_p1
  omega
theorem si_s2_s {k y b : Nat} (hb : b < 256) : si_s2 (k + 1) (256 * y + b) = 256 * si_s2 k y + si_p2 b := by
  obtain ⟨-, -, h3⟩ := si_d1 b hb
  obtain ⟨d1, d2, d3, d4, d5⟩ := si_d2 (si_p1 b) h3
  unfold si_s2
  rw [si_s1_s hb]
  have e : (256 * si_s1 k y + si_p1 b) / 4 = 256 * (si_s1 k y / 4) + (64 * (si_s1 k y % 4) + si_p1 b / 4) := by omega
  have e2 : ((256 * si_s1 k y + si_p1 b) / 4 &&& si_m 51 (k + 1)) = 256 * (si_s1 k y / 4 &&& si_m 51 k) + (si_p1 b / 4 &&& 51) := by
    rw [e]
    show (256 * (si_s1 k y / 4) + (64 * (si_s1 k y % 4) + si_p1 b / 4)) &&& (256 * si_m 51 k + 51) = _
    rw [si_ldB (by omega) (by omega)]
    congr 1
    rcases (show si_s1 k y % 4 = 0 ∨ si_s1 k y % 4 = 1 ∨ si_s1 k y % 4 = 2 ∨ si_s1 k y % 4 = 3 by omega) with q | q | q | q
    · rw [q]; simp
    · rw [q]; exact d3
    · rw [q]; exact d4
    · rw [q]; exact d5
  have e3 : ((256 * si_s1 k y + si_p1 b) &&& si_m 51 (k + 1)) = 256 * (si_s1 k y &&& si_m 51 k) + (si_p1 b &&& 51) := by
    show (256 * si_s1 k y + si_p1 b) &&& (256 * si_m 51 k + 51) = _
    exact si_ldB h3 (by omega)
  rw [e2, e3]
  unfold si_p2
  omega
theorem si_low51 (k a : Nat) : (a &&& si_m 51 k) % 16 ≤ 3 := by
  cases k with
  | zero => simp [si_m]
  | succ k =>
    have h1 : a = 256 * (a / 256) + a % 256 := by omega
    have h2 : (a &&& si_m 51 (k + 1)) = 256 * (a / 256 &&& si_m 51 k) + (a % 256 &&& 51) := by
      show (a &&& (256 * si_m 51 k + 51)) = _
      rw (occs := .pos [1]) [h1]
      exact si_ldB (by omega) (by omega)
    have h3 : ∀ q, q < 256 → (q &&& 51) % 16 ≤ 3 := by decide +kernel
    have h4 := h3 (a % 256) (by omega)
    rw [h2]
    omega
theorem si_s3_s {k y b : Nat} (hb : b < 256) : si_s3 (k + 1) (256 * y + b) = 256 * si_s3 k y + si_p3 b := by
  have h1 : si_s2 k y % 16 ≤ 6 := by
    have a1 := si_low51 k (si_s1 k y)
    have a2 := si_low51 k (si_s1 k y / 4)
    unfold si_s2
    omega
  obtain ⟨-, -, h3⟩ := si_d1 b hb
  obtain ⟨d1, d2, -, -, -⟩ := si_d2 (si_p1 b) h3
  have h2 : si_p2 b < 104 := by unfold si_p2; omega
  unfold si_s3
  rw [si_s2_s hb]
  have e : 256 * si_s2 k y + si_p2 b + (256 * si_s2 k y + si_p2 b) / 16 = 256 * (si_s2 k y + si_s2 k y / 16) + (si_p2 b + si_p2 b / 16 + 16 * (si_s2 k y % 16)) := by omega
  rw [e]
  show (256 * (si_s2 k y + si_s2 k y / 16) + (si_p2 b + si_p2 b / 16 + 16 * (si_s2 k y % 16))) &&& (256 * si_m 15 k + 15) = _
  rw [si_ldB (by omega) (by omega), si_d3 _ (by omega)]
  unfold si_p3
  omega
theorem si_bytes_cn {k y b : Nat} (hb : b < 256) : si_cn (8 + k) (si_tb (256 * y + b)) = si_p3 b + si_cn k (si_tb y) := by
  have e : (256 : Nat) = 2 ^ 8 := by decide
  rw [si_cn_app]
  congr 1
  · rw [← (si_d4 b hb).1]
    refine si_cn_congr (fun i hi => ?_)
    unfold si_tb
    rw [e, Nat.testBit_two_pow_mul_add _ (by omega), if_pos hi]
  · refine si_cn_congr (fun i hi => ?_)
    unfold si_tb
    rw [e, Nat.testBit_two_pow_mul_add _ (by omega), if_neg (by omega), Nat.add_sub_cancel_left]
/-- the count of bits of eight bytes, as the machine's library does it -/
theorem si_pop {x s4 s5 s6 : Nat} (hx : x < 2 ^ 64) (h4 : s4 = si_s3 8 x + si_s3 8 x / 256) (h5 : s5 = s4 + s4 / 65536) (h6 : s6 = s5 + s5 / 4294967296) : s6 % 128 = si_cn 64 (si_tb x) := by
  obtain ⟨y7, b0, e0, k0, l0⟩ : ∃ y b, x = 256 * y + b ∧ b < 256 ∧ y < 2 ^ 56 := ⟨x / 256, x % 256, by omega, by omega, by omega⟩
  obtain ⟨y6, b1, e1, k1, l1⟩ : ∃ y b, y7 = 256 * y + b ∧ b < 256 ∧ y < 2 ^ 48 := ⟨y7 / 256, y7 % 256, by omega, by omega, by omega⟩
  obtain ⟨y5, b2, e2, k2, l2⟩ : ∃ y b, y6 = 256 * y + b ∧ b < 256 ∧ y < 2 ^ 40 := ⟨y6 / 256, y6 % 256, by omega, by omega, by omega⟩
  obtain ⟨y4, b3, e3, k3, l3⟩ : ∃ y b, y5 = 256 * y + b ∧ b < 256 ∧ y < 2 ^ 32 := ⟨y5 / 256, y5 % 256, by omega, by omega, by omega⟩
  obtain ⟨y3, b4, e4, k4, l4⟩ : ∃ y b, y4 = 256 * y + b ∧ b < 256 ∧ y < 2 ^ 24 := ⟨y4 / 256, y4 % 256, by omega, by omega, by omega⟩
  obtain ⟨y2, b5, e5, k5, l5⟩ : ∃ y b, y3 = 256 * y + b ∧ b < 256 ∧ y < 2 ^ 16 := ⟨y3 / 256, y3 % 256, by omega, by omega, by omega⟩
  obtain ⟨b7, b6, e6, k6, k7⟩ : ∃ y b, y2 = 256 * y + b ∧ b < 256 ∧ y < 256 := ⟨y2 / 256, y2 % 256, by omega, by omega, by omega⟩
  have z : ∀ b, b < 256 → si_s3 1 b = si_p3 b := fun b hb => by
    have := si_s3_s (k := 0) (y := 0) hb
    rw [show 256 * 0 + b = b by omega] at this
    have e9 : si_s3 1 b = 256 * si_s3 0 0 + si_p3 b := this
    have : si_s3 0 0 = 0 := rfl
    omega
  have zc : ∀ b, b < 256 → si_cn 8 (si_tb b) = si_p3 b := fun b hb => (si_d4 b hb).1
  have hs : si_s3 8 x = 256 * (256 * (256 * (256 * (256 * (256 * (256 * si_p3 b7 + si_p3 b6) + si_p3 b5) + si_p3 b4) + si_p3 b3) + si_p3 b2) + si_p3 b1) + si_p3 b0 := by
    rw [e0, si_s3_s k0, e1, si_s3_s k1, e2, si_s3_s k2, e3, si_s3_s k3, e4, si_s3_s k4, e5, si_s3_s k5, e6, si_s3_s k6, z b7 k7]
  have hc : si_cn 64 (si_tb x) = si_p3 b0 + (si_p3 b1 + (si_p3 b2 + (si_p3 b3 + (si_p3 b4 + (si_p3 b5 + (si_p3 b6 + si_p3 b7)))))) := by
    rw [e0, show (64 : Nat) = 8 + 56 by rfl, si_bytes_cn k0, e1, show (56 : Nat) = 8 + 48 by rfl, si_bytes_cn k1, e2, show (48 : Nat) = 8 + 40 by rfl, si_bytes_cn k2, e3, show (40 : Nat) = 8 + 32 by rfl, si_bytes_cn k3, e4, show (32 : Nat) = 8 + 24 by rfl, si_bytes_cn k4, e5, show (24 : Nat) = 8 + 16 by rfl, si_bytes_cn k5, e6, show (16 : Nat) = 8 + 8 by rfl, si_bytes_cn k6, zc b7 k7]
  have p0 := (si_d4 b0 k0).2
  have p1 := (si_d4 b1 k1).2
  have p2 := (si_d4 b2 k2).2
  have p3 := (si_d4 b3 k3).2
  have p4 := (si_d4 b4 k4).2
  have p5 := (si_d4 b5 k5).2
  have p6 := (si_d4 b6 k6).2
  have p7 := (si_d4 b7 k7).2
  rw [hc]
  rw [hs] at h4
  clear hs hc z zc e0 e1 e2 e3 e4 e5 e6
  generalize si_p3 b0 = q0 at *
  generalize si_p3 b1 = q1 at *
  generalize si_p3 b2 = q2 at *
  generalize si_p3 b3 = q3 at *
  generalize si_p3 b4 = q4 at *
  generalize si_p3 b5 = q5 at *
  generalize si_p3 b6 = q6 at *
  generalize si_p3 b7 = q7 at *
  have f4 : s4 = 256 * (256 * (256 * (256 * (256 * (256 * (256 * q7 + (q6 + q7)) + (q5 + q6)) + (q4 + q5)) + (q3 + q4)) + (q2 + q3)) + (q1 + q2)) + (q0 + q1) := by omega
  have f5 : s5 % 65536 = (s4 + s4 / 65536) % 65536 := by rw [h5]
  have g5 : s5 = 256 * (256 * (256 * (256 * (256 * (256 * (256 * q7 + (q6 + q7)) + (q5 + q6 + q7)) + (q4 + q5 + q6 + q7)) + (q3 + q4 + q5 + q6)) + (q2 + q3 + q4 + q5)) + (q1 + q2 + q3 + q4)) + (q0 + q1 + q2 + q3) := by omega
  have g6 : s5 / 4294967296 = 256 * (256 * (256 * q7 + (q6 + q7)) + (q5 + q6 + q7)) + (q4 + q5 + q6 + q7) := by omega
  omega
/-- a line holds the text t -/
def si_ln (t : List Nat) (f : Nat → Int32) : Prop := ∀ i, i < t.length → f i = nI (si_g t i)
/-- rows and places of the suffixes of t -/
def si_su (t : List Nat) (fr fp : Nat → Int32) : Prop := (∀ p, p < t.length + 1 → fr p = nI (si_rk t p)) ∧ ∀ r, r < t.length + 1 → fp r = nI (si_pl t r)
/-- codeAt: what stands at p -/
def si_ca (f : Nat → Int32) (sz : Nat) (p v : Int32) : Prop := (∃ k, k < sz ∧ p = nI k ∧ v = f k) ∨ ((p < 0 ∨ nI sz ≤ p) ∧ v = 0)
theorem si_ca_n {t : List Nat} {f : Nat → Int32} (h : si_ln t f) (hn : t.length < 2 ^ 31) {k : Nat} (hk : k < 2 ^ 31) : si_ca f t.length (nI k) (nI (si_g t k)) := by
  by_cases q : k < t.length
  · exact Or.inl ⟨k, q, rfl, (h k q).symm⟩
  · refine Or.inr ⟨Or.inr (nI_le (by omega) hk), ?_⟩
    rw [si_g_out (by omega)]
    rfl
end
section
/-! Small rows for the walks. -/
theorem si_bn (b : Bool) : b.toNat < 2 ^ 31 := by cases b <;> decide
theorem si_nb (b : Bool) : narrow .boolean (.int (nI b.toNat)) = .int (nI b.toNat) := by cases b <;> rfl
theorem si_b0 {b : Bool} (h : b.toNat = 0) : b = false := by cases b <;> first | rfl | exact absurd h (by decide)
theorem si_b1 {b : Bool} (h : b.toNat ≠ 0) : b = true := by cases b <;> first | rfl | exact absurd rfl h
theorem si_bt1 {b : Bool} (h : b = true) : b.toNat = 1 := by rw [h]; rfl
theorem si_bt0 {b : Bool} (h : b = false) : b.toNat = 0 := by rw [h]; rfl
theorem si_nt {b : Bool} (h : ¬ b = true) : b = false := by cases b <;> first | rfl | exact absurd rfl h
/-- a number that goes down to -1: k are left -/
def si_dw (p : Int32) (k : Nat) : Prop := (p = -1 ∧ k = 0) ∨ ∃ j, k = j + 1 ∧ p = nI j
theorem si_dw_s (j : Nat) : si_dw (nI j + Int32.ofInt (-1)) j := by
  cases j with
  | zero => exact Or.inl ⟨by decide, rfl⟩
  | succ j => exact Or.inr ⟨j, rfl, pk_m1 j⟩
theorem si_dw_m (j : Nat) : si_dw (nI j - nI 1) j := by
  cases j with
  | zero => exact Or.inl ⟨by decide, rfl⟩
  | succ j => exact Or.inr ⟨j, rfl, nI_pred j⟩
theorem si_dw_i (n : Nat) : si_dw (nI n) (n + 1) := Or.inr ⟨n, rfl, rfl⟩
theorem si_dw_0 {p : Int32} {k : Nat} (hk : k < 2 ^ 31) (h : si_dw p k) (hp : p < 0) : k = 0 := by
  rcases h with ⟨-, h⟩ | ⟨j, h1, h2⟩
  · exact h
  · subst h2
    exact absurd hp (nI_pos (by omega))
theorem si_dw_1 {p : Int32} {k : Nat} (h : si_dw p k) (hp : ¬ p < 0) : ∃ j, k = j + 1 ∧ p = nI j := by
  rcases h with ⟨h, -⟩ | h
  · subst h
    exact absurd (by decide) hp
  · exact h
theorem si_bz (b : Bool) : lg_cmp (if b = true then 1 else 0) 0 = 0 ↔ b = false := by
  rw [si_lc0]
  cases b
  · simp
  · simp
theorem si_ca_b {t : List Nat} {f : Nat → Int32} (h : si_ln t f) {p : Nat} (hp : p ≤ t.length) (hn : t.length < 2 ^ 31) : si_ca f t.length (nI p - nI 1) (nI (si_bf t p)) := by
  cases p with
  | zero =>
    refine Or.inr ⟨Or.inl (by decide), ?_⟩
    rfl
  | succ k =>
    have e : nI (k + 1) - nI 1 = nI k := nI_pred k
    refine Or.inl ⟨k, by omega, e, ?_⟩
    rw [h k (by omega)]
    rfl
theorem si_or0 (w : Int64) : w ||| 0 = w := by
  apply wb_inj
  rw [Int64.toBitVec_or]
  show w.toBitVec ||| 0#64 = _
  simp
theorem si_wd_s (b : Nat → Bool) {n : Nat} (hn : n < 64) : si_wd n b ||| (lN (b n).toNat <<< ((nI n).toInt64 &&& 63)) = si_wd (n + 1) b := by
  cases h : b n with
  | true => rw [si_wd_t h]; rfl
  | false =>
    rw [si_wd_f h]
    show si_wd n b ||| (lN 0 <<< ((nI n).toInt64 &&& 63)) = _
    rw [wb_shl 0 hn, Nat.zero_mul]
    exact si_or0 _
theorem si_sl5 : ∀ n, n < 32 → ((nI n &&& 31).toBitVec.smod 32).toNat = n := by decide +kernel
theorem si_btn (j c : Nat) : (si_bt j c).toNat = c / 2 ^ (6 - j) % 2 := by
  unfold si_bt
  rcases Nat.mod_two_eq_zero_or_one (c / 2 ^ (6 - j)) with h | h <;> rw [h] <;> rfl
end
