section
-- ===== PART A: goes FIRST, ahead of the names: the tables' words, and 'selects' of the private methods out of them =====
/-- a private method of a class that the tables say can be made, by its rows of tables_1 -/
def lw_okq (q : MethodName × Nat) : Prop := (q.1.cls ≠ "java/lang/invoke/MethodHandle" ∧ q.1.cls ≠ "java/lang/invoke/VarHandle") ∧ Cond.instantiable q.1.cls q.2 ∈ tables_1 ∧ Cond.privateMethod q.1 ∈ tables_1 ∧ Cond.instanceMethod q.1 ∈ tables_1
theorem lw_p0 : lw_okq (⟨"SelfIndexImage", "draw", "(LSelfIndexImage$Line;ILSelfIndexImage$Image;)V"⟩, 7) := ⟨⟨by decide +kernel, by decide +kernel⟩, List.mem_of_getElem? (i := 10) (by decide +kernel), List.mem_of_getElem? (i := 159) (by decide +kernel), List.mem_of_getElem? (i := 160) (by decide +kernel)⟩
theorem lw_p1 : lw_okq (⟨"SelfIndexImage$Suffixes", "insert", "(LSelfIndexImage$Line;I)V"⟩, 3) := ⟨⟨by decide +kernel, by decide +kernel⟩, List.mem_of_getElem? (i := 77) (by decide +kernel), List.mem_of_getElem? (i := 167) (by decide +kernel), List.mem_of_getElem? (i := 168) (by decide +kernel)⟩
theorem lw_p2 : lw_okq (⟨"SelfIndexImage$Suffixes", "isSmaller", "(LSelfIndexImage$Line;II)Z"⟩, 3) := ⟨⟨by decide +kernel, by decide +kernel⟩, List.mem_of_getElem? (i := 77) (by decide +kernel), List.mem_of_getElem? (i := 171) (by decide +kernel), List.mem_of_getElem? (i := 172) (by decide +kernel)⟩
theorem lw_p3 : lw_okq (⟨"SelfIndexImage$Befores", "startOrder", "()V"⟩, 5) := ⟨⟨by decide +kernel, by decide +kernel⟩, List.mem_of_getElem? (i := 47) (by decide +kernel), List.mem_of_getElem? (i := 192) (by decide +kernel), List.mem_of_getElem? (i := 193) (by decide +kernel)⟩
theorem lw_p4 : lw_okq (⟨"SelfIndexImage$Befores", "partOrder", "(J)V"⟩, 5) := ⟨⟨by decide +kernel, by decide +kernel⟩, List.mem_of_getElem? (i := 47) (by decide +kernel), List.mem_of_getElem? (i := 196) (by decide +kernel), List.mem_of_getElem? (i := 197) (by decide +kernel)⟩
theorem lw_p5 : lw_okq (⟨"SelfIndexImage$Image", "drawMarkedRows", "(LSelfIndexImage$Suffixes;I)V"⟩, 1) := ⟨⟨by decide +kernel, by decide +kernel⟩, List.mem_of_getElem? (i := 34) (by decide +kernel), List.mem_of_getElem? (i := 200) (by decide +kernel), List.mem_of_getElem? (i := 201) (by decide +kernel)⟩
theorem lw_p6 : lw_okq (⟨"SelfIndexImage$Image", "drawNumber", "(IIJ)V"⟩, 1) := ⟨⟨by decide +kernel, by decide +kernel⟩, List.mem_of_getElem? (i := 34) (by decide +kernel), List.mem_of_getElem? (i := 204) (by decide +kernel), List.mem_of_getElem? (i := 205) (by decide +kernel)⟩
theorem lw_p7 : lw_okq (⟨"SelfIndexImage$Image", "drawRowsOfPlaces", "(LSelfIndexImage$Suffixes;I)V"⟩, 1) := ⟨⟨by decide +kernel, by decide +kernel⟩, List.mem_of_getElem? (i := 34) (by decide +kernel), List.mem_of_getElem? (i := 208) (by decide +kernel), List.mem_of_getElem? (i := 209) (by decide +kernel)⟩
theorem lw_p8 : lw_okq (⟨"SelfIndexImage", "readDesk", "()Z"⟩, 7) := ⟨⟨by decide +kernel, by decide +kernel⟩, List.mem_of_getElem? (i := 10) (by decide +kernel), List.mem_of_getElem? (i := 231) (by decide +kernel), List.mem_of_getElem? (i := 232) (by decide +kernel)⟩
theorem lw_p9 : lw_okq (⟨"SelfIndexImage$Befores", "rowBefore", "(I)I"⟩, 5) := ⟨⟨by decide +kernel, by decide +kernel⟩, List.mem_of_getElem? (i := 47) (by decide +kernel), List.mem_of_getElem? (i := 246) (by decide +kernel), List.mem_of_getElem? (i := 247) (by decide +kernel)⟩
theorem lw_p10 : lw_okq (⟨"SelfIndexImage", "hasLoaded", "()Z"⟩, 7) := ⟨⟨by decide +kernel, by decide +kernel⟩, List.mem_of_getElem? (i := 10) (by decide +kernel), List.mem_of_getElem? (i := 260) (by decide +kernel), List.mem_of_getElem? (i := 261) (by decide +kernel)⟩
theorem lw_p11 : lw_okq (⟨"SelfIndexImage", "isLoadedPlace", "(I)Z"⟩, 7) := ⟨⟨by decide +kernel, by decide +kernel⟩, List.mem_of_getElem? (i := 10) (by decide +kernel), List.mem_of_getElem? (i := 272) (by decide +kernel), List.mem_of_getElem? (i := 273) (by decide +kernel)⟩
theorem lw_p12 : lw_okq (⟨"SelfIndexImage", "occursAt", "(I)Z"⟩, 7) := ⟨⟨by decide +kernel, by decide +kernel⟩, List.mem_of_getElem? (i := 10) (by decide +kernel), List.mem_of_getElem? (i := 301) (by decide +kernel), List.mem_of_getElem? (i := 302) (by decide +kernel)⟩
theorem lw_p13 : lw_okq (⟨"SelfIndexImageModel", "picture", "(I)V"⟩, 19) := ⟨⟨by decide +kernel, by decide +kernel⟩, List.mem_of_getElem? (i := 328) (by decide +kernel), List.mem_of_getElem? (i := 416) (by decide +kernel), List.mem_of_getElem? (i := 417) (by decide +kernel)⟩
theorem lw_p14 : lw_okq (⟨"SelfIndexImageModel", "sort", "()V"⟩, 19) := ⟨⟨by decide +kernel, by decide +kernel⟩, List.mem_of_getElem? (i := 328) (by decide +kernel), List.mem_of_getElem? (i := 420) (by decide +kernel), List.mem_of_getElem? (i := 421) (by decide +kernel)⟩
theorem lw_p15 : lw_okq (⟨"SelfIndexImageModel", "earlier", "(II)Z"⟩, 19) := ⟨⟨by decide +kernel, by decide +kernel⟩, List.mem_of_getElem? (i := 328) (by decide +kernel), List.mem_of_getElem? (i := 424) (by decide +kernel), List.mem_of_getElem? (i := 425) (by decide +kernel)⟩
def lw_privs_1 : List (MethodName × Nat) := [(⟨"SelfIndexImage", "draw", "(LSelfIndexImage$Line;ILSelfIndexImage$Image;)V"⟩, 7), (⟨"SelfIndexImage$Suffixes", "insert", "(LSelfIndexImage$Line;I)V"⟩, 3), (⟨"SelfIndexImage$Suffixes", "isSmaller", "(LSelfIndexImage$Line;II)Z"⟩, 3), (⟨"SelfIndexImage$Befores", "startOrder", "()V"⟩, 5), (⟨"SelfIndexImage$Befores", "partOrder", "(J)V"⟩, 5), (⟨"SelfIndexImage$Image", "drawMarkedRows", "(LSelfIndexImage$Suffixes;I)V"⟩, 1), (⟨"SelfIndexImage$Image", "drawNumber", "(IIJ)V"⟩, 1), (⟨"SelfIndexImage$Image", "drawRowsOfPlaces", "(LSelfIndexImage$Suffixes;I)V"⟩, 1), (⟨"SelfIndexImage", "readDesk", "()Z"⟩, 7), (⟨"SelfIndexImage$Befores", "rowBefore", "(I)I"⟩, 5), (⟨"SelfIndexImage", "hasLoaded", "()Z"⟩, 7), (⟨"SelfIndexImage", "isLoadedPlace", "(I)Z"⟩, 7), (⟨"SelfIndexImage", "occursAt", "(I)Z"⟩, 7), (⟨"SelfIndexImageModel", "picture", "(I)V"⟩, 19), (⟨"SelfIndexImageModel", "sort", "()V"⟩, 19), (⟨"SelfIndexImageModel", "earlier", "(II)Z"⟩, 19)]
theorem lw_r1 : ∀ q ∈ lw_privs_1, lw_okq q := List.forall_mem_cons.mpr ⟨lw_p0, List.forall_mem_cons.mpr ⟨lw_p1, List.forall_mem_cons.mpr ⟨lw_p2, List.forall_mem_cons.mpr ⟨lw_p3, List.forall_mem_cons.mpr ⟨lw_p4, List.forall_mem_cons.mpr ⟨lw_p5, List.forall_mem_cons.mpr ⟨lw_p6, List.forall_mem_cons.mpr ⟨lw_p7, List.forall_mem_cons.mpr ⟨lw_p8, List.forall_mem_cons.mpr ⟨lw_p9, List.forall_mem_cons.mpr ⟨lw_p10, List.forall_mem_cons.mpr ⟨lw_p11, List.forall_mem_cons.mpr ⟨lw_p12, List.forall_mem_cons.mpr ⟨lw_p13, List.forall_mem_cons.mpr ⟨lw_p14, List.forall_mem_cons.mpr ⟨lw_p15, fun _ h => absurd h List.not_mem_nil⟩⟩⟩⟩⟩⟩⟩⟩⟩⟩⟩⟩⟩⟩⟩⟩
theorem lw_p16 : lw_okq (⟨"SelfIndexImageModel", "levels", "()V"⟩, 19) := ⟨⟨by decide +kernel, by decide +kernel⟩, List.mem_of_getElem? (i := 328) (by decide +kernel), List.mem_of_getElem? (i := 429) (by decide +kernel), List.mem_of_getElem? (i := 430) (by decide +kernel)⟩
theorem lw_p17 : lw_okq (⟨"SelfIndexImageModel", "readCodes", "()V"⟩, 19) := ⟨⟨by decide +kernel, by decide +kernel⟩, List.mem_of_getElem? (i := 328) (by decide +kernel), List.mem_of_getElem? (i := 440) (by decide +kernel), List.mem_of_getElem? (i := 441) (by decide +kernel)⟩
theorem lw_p18 : lw_okq (⟨"SelfIndexImageModel", "before", "(I)I"⟩, 19) := ⟨⟨by decide +kernel, by decide +kernel⟩, List.mem_of_getElem? (i := 328) (by decide +kernel), List.mem_of_getElem? (i := 444) (by decide +kernel), List.mem_of_getElem? (i := 445) (by decide +kernel)⟩
theorem lw_p19 : lw_okq (⟨"SelfIndexImageModel", "place", "(I)Z"⟩, 19) := ⟨⟨by decide +kernel, by decide +kernel⟩, List.mem_of_getElem? (i := 328) (by decide +kernel), List.mem_of_getElem? (i := 460) (by decide +kernel), List.mem_of_getElem? (i := 461) (by decide +kernel)⟩
theorem lw_p20 : lw_okq (⟨"SelfIndexImageModel", "occurs", "(I)Z"⟩, 19) := ⟨⟨by decide +kernel, by decide +kernel⟩, List.mem_of_getElem? (i := 328) (by decide +kernel), List.mem_of_getElem? (i := 484) (by decide +kernel), List.mem_of_getElem? (i := 485) (by decide +kernel)⟩
def lw_privs_2 : List (MethodName × Nat) := [(⟨"SelfIndexImageModel", "levels", "()V"⟩, 19), (⟨"SelfIndexImageModel", "readCodes", "()V"⟩, 19), (⟨"SelfIndexImageModel", "before", "(I)I"⟩, 19), (⟨"SelfIndexImageModel", "place", "(I)Z"⟩, 19), (⟨"SelfIndexImageModel", "occurs", "(I)Z"⟩, 19)]
theorem lw_r2 : ∀ q ∈ lw_privs_2, lw_okq q := List.forall_mem_cons.mpr ⟨lw_p16, List.forall_mem_cons.mpr ⟨lw_p17, List.forall_mem_cons.mpr ⟨lw_p18, List.forall_mem_cons.mpr ⟨lw_p19, List.forall_mem_cons.mpr ⟨lw_p20, fun _ h => absurd h List.not_mem_nil⟩⟩⟩⟩⟩
def lw_privs : List (MethodName × Nat) := lw_privs_1 ++ (lw_privs_2)
def lw_tbl : List Cond := k2_sels lw_privs ++ tables_1
theorem lw_privs_ok : ∀ q ∈ lw_privs, lw_okq q := by
  show ∀ q ∈ lw_privs_1 ++ (lw_privs_2), lw_okq q
  exact List.forall_mem_append.mpr ⟨lw_r1, lw_r2⟩
end
section
/-! Rows of the machine, said with naturals; contracts in one form. Written by wip/draft/gen_rows.py -/
section SIW
variable {p : Program} {l : Launch} {e : Env} {R : Room} {s : State} {m : MethodId} {args : Array Value} {below : List Frame} {meth : Method} {c : Code} {H : Heap} {locs : List Loc} {cells slots : Nat} {Q : State → Prop}
variable {cc : ByteArray} {pc : Nat} {ls : Array Slot} {rest : List Value} {D : va_G} {cl : List vw_C} {A : Nat → Prop} {a : Nat} {tys : List (ClassId × FieldType)} {ws : va_W} {H0 : Heap}
theorem si_iadd (hexec : p.tables.exec = Jvm.exec) (hb : c.code = cc) {x y v : Int32} (hdg : decode cc pc = .ok (.iadd, 1)) (hv : x + y = v) (k : W p l e R s m args below meth c H locs cells slots Q (F0 m (pc + 1) ls (.int v :: rest))) : W p l e R s m args below meth c H locs cells slots Q (F0 m pc ls (.int y :: .int x :: rest)) := by subst hv; exact lv_iadd hexec hb hdg k
theorem si_isub (hexec : p.tables.exec = Jvm.exec) (hb : c.code = cc) {x y v : Int32} (hdg : decode cc pc = .ok (.isub, 1)) (hv : x - y = v) (k : W p l e R s m args below meth c H locs cells slots Q (F0 m (pc + 1) ls (.int v :: rest))) : W p l e R s m args below meth c H locs cells slots Q (F0 m pc ls (.int y :: .int x :: rest)) := by subst hv; exact lv_isub hexec hb hdg k
theorem si_imul (hexec : p.tables.exec = Jvm.exec) (hb : c.code = cc) {x y v : Int32} (hdg : decode cc pc = .ok (.imul, 1)) (hv : x * y = v) (k : W p l e R s m args below meth c H locs cells slots Q (F0 m (pc + 1) ls (.int v :: rest))) : W p l e R s m args below meth c H locs cells slots Q (F0 m pc ls (.int y :: .int x :: rest)) := by subst hv; exact lv_imul hexec hb hdg k
theorem si_iand (hexec : p.tables.exec = Jvm.exec) (hb : c.code = cc) {x y v : Int32} (hdg : decode cc pc = .ok (.iand, 1)) (hv : x &&& y = v) (k : W p l e R s m args below meth c H locs cells slots Q (F0 m (pc + 1) ls (.int v :: rest))) : W p l e R s m args below meth c H locs cells slots Q (F0 m pc ls (.int y :: .int x :: rest)) := by subst hv; exact lv_iand hexec hb hdg k
theorem si_ishr (hexec : p.tables.exec = Jvm.exec) (hb : c.code = cc) {x y v : Int32} (hdg : decode cc pc = .ok (.ishr, 1)) (hv : x >>> (y &&& 31) = v) (k : W p l e R s m args below meth c H locs cells slots Q (F0 m (pc + 1) ls (.int v :: rest))) : W p l e R s m args below meth c H locs cells slots Q (F0 m pc ls (.int y :: .int x :: rest)) := by subst hv; exact lv_ishr hexec hb hdg k
theorem si_idiv (hexec : p.tables.exec = Jvm.exec) (hb : c.code = cc) {x y v : Int32} (hdg : decode cc pc = .ok (.idiv, 1)) (hne : ¬ y = 0) (hv : x / y = v) (k : W p l e R s m args below meth c H locs cells slots Q (F0 m (pc + 1) ls (.int v :: rest))) : W p l e R s m args below meth c H locs cells slots Q (F0 m pc ls (.int y :: .int x :: rest)) := by subst hv; exact lv_idiv hexec hb hdg hne k
theorem si_irem (hexec : p.tables.exec = Jvm.exec) (hb : c.code = cc) {x y v : Int32} (hdg : decode cc pc = .ok (.irem, 1)) (hne : ¬ y = 0) (hv : x - x / y * y = v) (k : W p l e R s m args below meth c H locs cells slots Q (F0 m (pc + 1) ls (.int v :: rest))) : W p l e R s m args below meth c H locs cells slots Q (F0 m pc ls (.int y :: .int x :: rest)) := by subst hv; exact lv_irem hexec hb hdg hne k
theorem si_ldiv (hexec : p.tables.exec = Jvm.exec) (hb : c.code = cc) {x y v : Int64} (hdg : decode cc pc = .ok (.ldiv, 1)) (hne : ¬ y = 0) (hv : x / y = v) (k : W p l e R s m args below meth c H locs cells slots Q (F0 m (pc + 1) ls (.long v :: rest))) : W p l e R s m args below meth c H locs cells slots Q (F0 m pc ls (.long y :: .long x :: rest)) := by subst hv; exact lv_ldiv hexec hb hdg hne k
theorem si_ladd (hexec : p.tables.exec = Jvm.exec) (hb : c.code = cc) {x y v : Int64} (hdg : decode cc pc = .ok (.ladd, 1)) (hv : x + y = v) (k : W p l e R s m args below meth c H locs cells slots Q (F0 m (pc + 1) ls (.long v :: rest))) : W p l e R s m args below meth c H locs cells slots Q (F0 m pc ls (.long y :: .long x :: rest)) := by subst hv; exact lv_ladd hexec hb hdg k
theorem si_lsub (hexec : p.tables.exec = Jvm.exec) (hb : c.code = cc) {x y v : Int64} (hdg : decode cc pc = .ok (.lsub, 1)) (hv : x - y = v) (k : W p l e R s m args below meth c H locs cells slots Q (F0 m (pc + 1) ls (.long v :: rest))) : W p l e R s m args below meth c H locs cells slots Q (F0 m pc ls (.long y :: .long x :: rest)) := by subst hv; exact lv_lsub hexec hb hdg k
theorem si_land (hexec : p.tables.exec = Jvm.exec) (hb : c.code = cc) {x y v : Int64} (hdg : decode cc pc = .ok (.land, 1)) (hv : x &&& y = v) (k : W p l e R s m args below meth c H locs cells slots Q (F0 m (pc + 1) ls (.long v :: rest))) : W p l e R s m args below meth c H locs cells slots Q (F0 m pc ls (.long y :: .long x :: rest)) := by subst hv; exact lv_land hexec hb hdg k
theorem si_lor (hexec : p.tables.exec = Jvm.exec) (hb : c.code = cc) {x y v : Int64} (hdg : decode cc pc = .ok (.lor, 1)) (hv : x ||| y = v) (k : W p l e R s m args below meth c H locs cells slots Q (F0 m (pc + 1) ls (.long v :: rest))) : W p l e R s m args below meth c H locs cells slots Q (F0 m pc ls (.long y :: .long x :: rest)) := by subst hv; exact lv_lor hexec hb hdg k
theorem si_lxor (hexec : p.tables.exec = Jvm.exec) (hb : c.code = cc) {x y v : Int64} (hdg : decode cc pc = .ok (.lxor, 1)) (hv : x ^^^ y = v) (k : W p l e R s m args below meth c H locs cells slots Q (F0 m (pc + 1) ls (.long v :: rest))) : W p l e R s m args below meth c H locs cells slots Q (F0 m pc ls (.long y :: .long x :: rest)) := by subst hv; exact lv_lxor hexec hb hdg k
theorem si_lmul (hexec : p.tables.exec = Jvm.exec) (hb : c.code = cc) {x y v : Int64} (hdg : decode cc pc = .ok (.lmul, 1)) (hv : x * y = v) (k : W p l e R s m args below meth c H locs cells slots Q (F0 m (pc + 1) ls (.long v :: rest))) : W p l e R s m args below meth c H locs cells slots Q (F0 m pc ls (.long y :: .long x :: rest)) := by subst hv; exact lv_lmul hexec hb hdg k
theorem si_icmp_lt (hexec : p.tables.exec = Jvm.exec) (hb : c.code = cc) {a b : Nat} {off : Int} {tgt : Nat} (hdg : decode cc pc = .ok (.if_icmp .lt off, 3)) (ht : (pc : Int) + off = (tgt : Int)) (ha : a < 2 ^ 31) (hb2 : b < 2 ^ 31) (kt : a < b → W p l e R s m args below meth c H locs cells slots Q (F0 m tgt ls rest)) (kf : b ≤ a → W p l e R s m args below meth c H locs cells slots Q (F0 m (pc + 3) ls rest)) : W p l e R s m args below meth c H locs cells slots Q (F0 m pc ls (.int (nI b) :: .int (nI a) :: rest)) := lv_icmp_lt hexec hb hdg ht (fun h => kt ((nI_ltI ha hb2).mp h)) (fun h => kf (Nat.le_of_not_lt (fun q => h ((nI_ltI ha hb2).mpr q))))
theorem si_icmp_ge (hexec : p.tables.exec = Jvm.exec) (hb : c.code = cc) {a b : Nat} {off : Int} {tgt : Nat} (hdg : decode cc pc = .ok (.if_icmp .ge off, 3)) (ht : (pc : Int) + off = (tgt : Int)) (ha : a < 2 ^ 31) (hb2 : b < 2 ^ 31) (kt : b ≤ a → W p l e R s m args below meth c H locs cells slots Q (F0 m tgt ls rest)) (kf : a < b → W p l e R s m args below meth c H locs cells slots Q (F0 m (pc + 3) ls rest)) : W p l e R s m args below meth c H locs cells slots Q (F0 m pc ls (.int (nI b) :: .int (nI a) :: rest)) := lv_icmp_ge hexec hb hdg ht (fun h => kt ((nI_leI hb2 ha).mp h)) (fun h => kf (Nat.lt_of_not_le (fun q => h ((nI_leI hb2 ha).mpr q))))
theorem si_icmp_gt (hexec : p.tables.exec = Jvm.exec) (hb : c.code = cc) {a b : Nat} {off : Int} {tgt : Nat} (hdg : decode cc pc = .ok (.if_icmp .gt off, 3)) (ht : (pc : Int) + off = (tgt : Int)) (ha : a < 2 ^ 31) (hb2 : b < 2 ^ 31) (kt : b < a → W p l e R s m args below meth c H locs cells slots Q (F0 m tgt ls rest)) (kf : a ≤ b → W p l e R s m args below meth c H locs cells slots Q (F0 m (pc + 3) ls rest)) : W p l e R s m args below meth c H locs cells slots Q (F0 m pc ls (.int (nI b) :: .int (nI a) :: rest)) := lv_icmp_gt hexec hb hdg ht (fun h => kt ((nI_ltI hb2 ha).mp h)) (fun h => kf (Nat.le_of_not_lt (fun q => h ((nI_ltI hb2 ha).mpr q))))
theorem si_icmp_le (hexec : p.tables.exec = Jvm.exec) (hb : c.code = cc) {a b : Nat} {off : Int} {tgt : Nat} (hdg : decode cc pc = .ok (.if_icmp .le off, 3)) (ht : (pc : Int) + off = (tgt : Int)) (ha : a < 2 ^ 31) (hb2 : b < 2 ^ 31) (kt : a ≤ b → W p l e R s m args below meth c H locs cells slots Q (F0 m tgt ls rest)) (kf : b < a → W p l e R s m args below meth c H locs cells slots Q (F0 m (pc + 3) ls rest)) : W p l e R s m args below meth c H locs cells slots Q (F0 m pc ls (.int (nI b) :: .int (nI a) :: rest)) := lv_icmp_le hexec hb hdg ht (fun h => kt ((nI_leI ha hb2).mp h)) (fun h => kf (Nat.lt_of_not_le (fun q => h ((nI_leI ha hb2).mpr q))))
theorem si_icmp_eq (hexec : p.tables.exec = Jvm.exec) (hb : c.code = cc) {a b : Nat} {off : Int} {tgt : Nat} (hdg : decode cc pc = .ok (.if_icmp .eq off, 3)) (ht : (pc : Int) + off = (tgt : Int)) (ha : a < 2 ^ 31) (hb2 : b < 2 ^ 31) (kt : a = b → W p l e R s m args below meth c H locs cells slots Q (F0 m tgt ls rest)) (kf : a ≠ b → W p l e R s m args below meth c H locs cells slots Q (F0 m (pc + 3) ls rest)) : W p l e R s m args below meth c H locs cells slots Q (F0 m pc ls (.int (nI b) :: .int (nI a) :: rest)) := lv_icmp_eq hexec hb hdg ht (fun h => kt ((nI_eq ha hb2).mp h)) (fun h => kf (fun q => h ((nI_eq ha hb2).mpr q)))
theorem si_icmp_ne (hexec : p.tables.exec = Jvm.exec) (hb : c.code = cc) {a b : Nat} {off : Int} {tgt : Nat} (hdg : decode cc pc = .ok (.if_icmp .ne off, 3)) (ht : (pc : Int) + off = (tgt : Int)) (ha : a < 2 ^ 31) (hb2 : b < 2 ^ 31) (kt : a ≠ b → W p l e R s m args below meth c H locs cells slots Q (F0 m tgt ls rest)) (kf : a = b → W p l e R s m args below meth c H locs cells slots Q (F0 m (pc + 3) ls rest)) : W p l e R s m args below meth c H locs cells slots Q (F0 m pc ls (.int (nI b) :: .int (nI a) :: rest)) := lv_icmp_ne hexec hb hdg ht (fun h => kt (fun q => h ((nI_eq ha hb2).mpr q))) (fun h => kf ((nI_eq ha hb2).mp h))
theorem si_if_eq (hexec : p.tables.exec = Jvm.exec) (hb : c.code = cc) {a : Nat} {off : Int} {tgt : Nat} (hdg : decode cc pc = .ok (.ifCond .eq off, 3)) (ht : (pc : Int) + off = (tgt : Int)) (ha : a < 2 ^ 31) (kt : a = 0 → W p l e R s m args below meth c H locs cells slots Q (F0 m tgt ls rest)) (kf : a ≠ 0 → W p l e R s m args below meth c H locs cells slots Q (F0 m (pc + 3) ls rest)) : W p l e R s m args below meth c H locs cells slots Q (F0 m pc ls (.int (nI a) :: rest)) := lv_if_eq hexec hb hdg ht (fun h => kt ((nI_eq ha (by decide) : nI a = nI 0 ↔ a = 0).mp (h.trans nI_0.symm))) (fun h => kf (fun q => h (((nI_eq ha (by decide) : nI a = nI 0 ↔ a = 0).mpr q).trans nI_0)))
theorem si_if_ne (hexec : p.tables.exec = Jvm.exec) (hb : c.code = cc) {a : Nat} {off : Int} {tgt : Nat} (hdg : decode cc pc = .ok (.ifCond .ne off, 3)) (ht : (pc : Int) + off = (tgt : Int)) (ha : a < 2 ^ 31) (kt : a ≠ 0 → W p l e R s m args below meth c H locs cells slots Q (F0 m tgt ls rest)) (kf : a = 0 → W p l e R s m args below meth c H locs cells slots Q (F0 m (pc + 3) ls rest)) : W p l e R s m args below meth c H locs cells slots Q (F0 m pc ls (.int (nI a) :: rest)) := lv_if_ne hexec hb hdg ht (fun h => kt (fun q => h (((nI_eq ha (by decide) : nI a = nI 0 ↔ a = 0).mpr q).trans nI_0))) (fun h => kf ((nI_eq ha (by decide) : nI a = nI 0 ↔ a = 0).mp (h.trans nI_0.symm)))
theorem si_if_gt (hexec : p.tables.exec = Jvm.exec) (hb : c.code = cc) {a : Nat} {off : Int} {tgt : Nat} (hdg : decode cc pc = .ok (.ifCond .gt off, 3)) (ht : (pc : Int) + off = (tgt : Int)) (ha : a < 2 ^ 31) (kt : 0 < a → W p l e R s m args below meth c H locs cells slots Q (F0 m tgt ls rest)) (kf : a = 0 → W p l e R s m args below meth c H locs cells slots Q (F0 m (pc + 3) ls rest)) : W p l e R s m args below meth c H locs cells slots Q (F0 m pc ls (.int (nI a) :: rest)) := lv_if_gt hexec hb hdg ht (fun h => kt ((nI_ltI (a := 0) (by decide) ha).mp (nI_0 ▸ h))) (fun h => kf (Nat.le_zero.mp (Nat.le_of_not_lt (fun q => h (nI_0 ▸ (nI_ltI (a := 0) (by decide) ha).mpr q)))))
theorem si_if_le (hexec : p.tables.exec = Jvm.exec) (hb : c.code = cc) {a : Nat} {off : Int} {tgt : Nat} (hdg : decode cc pc = .ok (.ifCond .le off, 3)) (ht : (pc : Int) + off = (tgt : Int)) (ha : a < 2 ^ 31) (kt : a = 0 → W p l e R s m args below meth c H locs cells slots Q (F0 m tgt ls rest)) (kf : 0 < a → W p l e R s m args below meth c H locs cells slots Q (F0 m (pc + 3) ls rest)) : W p l e R s m args below meth c H locs cells slots Q (F0 m pc ls (.int (nI a) :: rest)) := lv_if_le hexec hb hdg ht (fun h => kt (Nat.le_zero.mp ((nI_leI (b := 0) ha (by decide)).mp (nI_0 ▸ h)))) (fun h => kf (Nat.lt_of_not_le (fun q => h (nI_0 ▸ (nI_leI (b := 0) ha (by decide)).mpr q))))
theorem si_if_lt (hexec : p.tables.exec = Jvm.exec) (hb : c.code = cc) {a : Nat} {off : Int} {tgt : Nat} (hdg : decode cc pc = .ok (.ifCond .lt off, 3)) (ht : (pc : Int) + off = (tgt : Int)) (ha : a < 2 ^ 31) (kf : W p l e R s m args below meth c H locs cells slots Q (F0 m (pc + 3) ls rest)) : W p l e R s m args below meth c H locs cells slots Q (F0 m pc ls (.int (nI a) :: rest)) := lv_if_lt hexec hb hdg ht (fun h => absurd h (nI_pos ha)) (fun _ => kf)
theorem si_if_ge (hexec : p.tables.exec = Jvm.exec) (hb : c.code = cc) {a : Nat} {off : Int} {tgt : Nat} (hdg : decode cc pc = .ok (.ifCond .ge off, 3)) (ht : (pc : Int) + off = (tgt : Int)) (ha : a < 2 ^ 31) (kt : W p l e R s m args below meth c H locs cells slots Q (F0 m tgt ls rest)) : W p l e R s m args below meth c H locs cells slots Q (F0 m pc ls (.int (nI a) :: rest)) := lv_if_ge hexec hb hdg ht (fun _ => kt) (fun h => absurd (nI_pos' ha) h)
theorem si_iald (hexec : p.tables.exec = Jvm.exec) (hb : c.code = cc) (hK : va_K D cl tys s) (hP : va_P D cl ws H) (q0 t0 : Nat) {cA : ClassId} {n : Nat} {f : Nat → Int32} (ha : ws[q0]? = some (a, .inl (cA, n, .inl f))) (ht : tys[t0]? = some (cA, .int)) {k : Nat} {v : Int32} (hn : n < 2 ^ 31) (hk : k < n) (hv : f k = v) (hdg : decode cc pc = .ok (.iaload, 1)) (kk : W p l e R s m args below meth c H locs cells slots Q (F0 m (pc + 1) ls (.int v :: rest))) : W p l e R s m args below meth c H locs cells slots Q (F0 m pc ls (.int (nI k) :: .ref a :: rest)) := by
  refine va_iald hexec hb hK hP q0 t0 ha ht (vp_in_nI hk hn) hdg ?_
  rw [nI_clamp (by omega), hv]
  exact kk
theorem si_lald (hexec : p.tables.exec = Jvm.exec) (hb : c.code = cc) (hK : va_K D cl tys s) (hP : va_P D cl ws H) (q0 t0 : Nat) {cA : ClassId} {n : Nat} {f : Nat → Int64} (ha : ws[q0]? = some (a, .inl (cA, n, .inr (.inl f)))) (ht : tys[t0]? = some (cA, .long)) {k : Nat} {v : Int64} (hn : n < 2 ^ 31) (hk : k < n) (hv : f k = v) (hdg : decode cc pc = .ok (.laload, 1)) (kk : W p l e R s m args below meth c H locs cells slots Q (F0 m (pc + 1) ls (.long v :: rest))) : W p l e R s m args below meth c H locs cells slots Q (F0 m pc ls (.int (nI k) :: .ref a :: rest)) := by
  refine va_lald hexec hb hK hP q0 t0 ha ht (vp_in_nI hk hn) hdg ?_
  rw [nI_clamp (by omega), hv]
  exact kk
theorem si_iast (hexec : p.tables.exec = Jvm.exec) (hb : c.code = cc) (hK : va_K D cl tys s) (hP : va_P D cl ws H) (hD : va_D A ws) (hS : va_S A H0 H locs) (q0 t0 : Nat) {cA : ClassId} {n : Nat} {f : Nat → Int32} (ha : ws[q0]? = some (a, .inl (cA, n, .inl f))) (ht : tys[t0]? = some (cA, .int)) {k : Nat} {x : Int32} (hn : n < 2 ^ 31) (hk : k < n) (hdg : decode cc pc = .ok (.iastore, 1)) (kk : ∀ (H1 : Heap) (locs1 : List Loc), va_P D cl (ws.set q0 (a, .inl (cA, n, .inl (upd f k x)))) H1 → va_D A (ws.set q0 (a, .inl (cA, n, .inl (upd f k x)))) → va_S A H0 H1 locs1 → W p l e R s m args below meth c H1 locs1 cells slots Q (F0 m (pc + 1) ls rest)) : W p l e R s m args below meth c H locs cells slots Q (F0 m pc ls (.int x :: .int (nI k) :: .ref a :: rest)) := by
  refine va_iast hexec hb hK hP hD hS q0 t0 ha ht (vp_in_nI hk hn) hdg ?_
  rw [nI_clamp (by omega)]
  exact kk
theorem si_last (hexec : p.tables.exec = Jvm.exec) (hb : c.code = cc) (hK : va_K D cl tys s) (hP : va_P D cl ws H) (hD : va_D A ws) (hS : va_S A H0 H locs) (q0 t0 : Nat) {cA : ClassId} {n : Nat} {f : Nat → Int64} (ha : ws[q0]? = some (a, .inl (cA, n, .inr (.inl f)))) (ht : tys[t0]? = some (cA, .long)) {k : Nat} {x : Int64} (hn : n < 2 ^ 31) (hk : k < n) (hdg : decode cc pc = .ok (.lastore, 1)) (kk : ∀ (H1 : Heap) (locs1 : List Loc), va_P D cl (ws.set q0 (a, .inl (cA, n, .inr (.inl (vp_updL f k x))))) H1 → va_D A (ws.set q0 (a, .inl (cA, n, .inr (.inl (vp_updL f k x))))) → va_S A H0 H1 locs1 → W p l e R s m args below meth c H1 locs1 cells slots Q (F0 m (pc + 1) ls rest)) : W p l e R s m args below meth c H locs cells slots Q (F0 m pc ls (.long x :: .int (nI k) :: .ref a :: rest)) := by
  refine va_last hexec hb hK hP hD hS q0 t0 ha ht (vp_in_nI hk hn) hdg ?_
  rw [nI_clamp (by omega)]
  exact kk
theorem si_inc (i : Nat) : nI i + Int32.ofInt 1 = nI (i + 1) := nI_1 i
theorem si_dec {i : Nat} (h : 1 ≤ i) : nI i + Int32.ofInt (-1) = nI (i - 1) := by
  obtain ⟨k, rfl⟩ : ∃ k, i = k + 1 := ⟨i - 1, by omega⟩
  exact pk_m1 k
theorem si_lc0 (x y : Int64) : lg_cmp x y = 0 ↔ x = y := by
  unfold lg_cmp
  by_cases h : x > y
  · rw [if_pos h]
    exact ⟨fun q => absurd q (by decide), fun q => by subst q; exact absurd h (fun z9 => Int64.lt_irrefl z9)⟩
  · rw [if_neg h]
    by_cases q : x = y
    · rw [if_pos q]; exact ⟨fun _ => q, fun _ => rfl⟩
    · rw [if_neg q]; exact ⟨fun z => absurd z (by decide), fun z => absurd z q⟩
theorem si_lcL (x y : Int64) : lg_cmp x y < 0 ↔ x < y := by
  unfold lg_cmp
  by_cases h : x > y
  · rw [if_pos h]
    exact ⟨fun q => absurd q (by decide), fun q => absurd (Int64.lt_trans h q) (fun z9 => Int64.lt_irrefl z9)⟩
  · rw [if_neg h]
    by_cases q : x = y
    · rw [if_pos q]; exact ⟨fun z => absurd z (by decide), fun z => by subst q; exact absurd z (fun z9 => Int64.lt_irrefl z9)⟩
    · rw [if_neg q]
      refine ⟨fun _ => ?_, fun _ => by decide⟩
      rw [Int64.lt_iff_toInt_lt]
      rw [gt_iff_lt, Int64.lt_iff_toInt_lt] at h
      have : x.toInt ≠ y.toInt := fun z => q (Int64.toInt_inj.mp z)
      omega
theorem si_lcG (x y : Int64) : 0 < lg_cmp x y ↔ y < x := by
  unfold lg_cmp
  by_cases h : x > y
  · rw [if_pos h]; exact ⟨fun _ => h, fun _ => by decide⟩
  · rw [if_neg h]
    refine ⟨fun q => ?_, fun q => absurd q h⟩
    by_cases z : x = y
    · rw [if_pos z] at q; exact absurd q (by decide)
    · rw [if_neg z] at q; exact absurd q (by decide)
end SIW
/-- the numbers of the classes, of their slots, of the two kinds of arrays -/
abbrev si_G : Type := va_G × ClassId × ClassId
abbrev si_T (g : si_G) : List (ClassId × FieldType) := [(g.2.1, .int), (g.2.2, .long)]
/-- the words of the fields of nest mates: they go from state to state beside the classes' numbers -/
def si_isN : Cond → Bool
  | .fieldLinkNest .. => true
  | _ => false
def si_nst : List Cond := tables_1.filter si_isN
def si_NK (U : State) : Prop := ∀ w ∈ si_nst, va_Nw w U
theorem si_NK.warm {s U : State} (hW : s.WarmedH U.vm) (h : si_NK s) : si_NK U := by
  intro w hw
  have hg := (List.mem_filter.mp hw).2
  have h1 := h w hw
  cases w <;> first | exact va_Nw.warmF hW h1 | exact absurd hg Bool.false_ne_true
theorem si_NK.same {u U : State} (hv : u.vm = U.vm) (h : si_NK u) : si_NK U := by
  intro w hw
  have hg := (List.mem_filter.mp hw).2
  have h1 := h w hw
  cases w <;> first | exact va_Nw.same rfl hv h1 | exact absurd hg Bool.false_ne_true
/-- the world that a method begins with -/
def si_pre (g : si_G) (cl : List vw_C) (ws : va_W) (sz : Nat) (U : State) : Prop := U.heap.size = sz ∧ va_P g.1 cl ws U.heap ∧ va_K g.1 cl (si_T g) U ∧ va_D (fun _ => True) ws ∧ si_NK U
/-- the world behind a method -/
def si_at (g : si_G) (cl : List vw_C) (A : Nat → Prop) (ws : va_W) (t : State) : Prop := va_P g.1 cl ws t.heap ∧ va_K g.1 cl (si_T g) t ∧ va_D A ws
theorem si_blind (g : si_G) (cl : List vw_C) (ws : va_W) (sz : Nat) (av : List Value) : FrameBlind (va_Pc av (si_pre g cl ws sz)) := fun a U f mk q => by
  obtain ⟨q0, q1, qP, qK, qD, qN⟩ := q
  exact ⟨q0, q1, qP, va_K.moved (u := U) (U := U.calling f mk a) (Vm.Alike.refl U.vm) qK, qD, si_NK.same (u := U) (U := U.calling f mk a) rfl qN⟩
theorem si_Psub {D : va_G} {cl : List vw_C} {ws ws' : va_W} {H : Heap} (h : va_P D cl ws H) (is : List Nat) (hs : is.map (fun i => ws[i]?) = ws'.map some) : va_P D cl ws' H := fun k q hk => by
  have h1 : (is.map (fun i => ws[i]?))[k]? = some (some q) := by rw [hs, List.getElem?_map, hk]; rfl
  rw [List.getElem?_map] at h1
  cases hi : is[k]? with
  | none => rw [hi] at h1; cases h1
  | some i => rw [hi] at h1; exact h i q (Option.some.inj h1)
theorem si_free {A : Nat → Prop} {ws wc : va_W} {H0 H : Heap} {locs : List Loc} (hD : va_D A ws) (hS : va_S A H0 H locs) (hA : ∀ q, H0.size ≤ q → A q) (isC : List Nat) (hC : isC.map (fun i => ws[i]?) = wc.map some) : ∀ q, va_A wc H.size q → A q := va_free hD hS hA isC hC
def si_Mi {S : Type} (l : Launch) (g : si_G) (cl : List vw_C) (y : MethodName) (w : List Cond) (rm : Room) (av : List Value) (ws : va_W) (post : Int32 → S → Prop) (w1 : S → va_W) : Prop := ∀ sz : Nat, Met l y w rm (va_Pc av (si_pre g cl ws sz)) (va_Qi post (fun u t => si_at g cl (va_A ws sz) (w1 u) t) (va_A ws sz)) rm.cells rm.slots (va_A ws sz)
/-- a contract out of a walk of the body -/
theorem si_Mi.of {S : Type} {l : Launch} {g : si_G} {cl : List vw_C} {y : MethodName} {w w' : List Cond} {rm : Room} {av : List Value} {ws : va_W} {post : Int32 → S → Prop} {w1 : S → va_W} {cc : ByteArray} {maxL : Nat} {ty : FieldType} (hy : plainName y.cls = true) (hw : w = Cond.code y cc maxL (some ty) :: w') (hlen : (lg_sl av).length ≤ maxL)
    (hbody : ∀ (p : Program) (e : Env) (s : State) (m : MethodId) (args : Array Value) (below : List Frame) (meth : Method) (c : Code) (A : Nat → Prop) (Q : State → Prop) (ls : Array Slot),
      CallFix p m c cc maxL s args w y.cls → meth.name = y.name → va_K g.1 cl (si_T g) s → si_NK s → va_P g.1 cl ws s.heap → va_D A ws → (∀ q, s.heap.size ≤ q → A q) → va_S A s.heap s.heap [] → lv_has ls maxL (lv_args 0 av) →
      (∀ (v : Int32) (u : S) (H : Heap) (locs : List Loc) (pc : Nat) (ls : Array Slot), narrow ty (.int v) = .int v → post v u → va_P g.1 cl (w1 u) H → va_D A (w1 u) → va_S A s.heap H locs → decode cc pc = .ok (.ireturn, 1) → W p l e rm s m args below meth c H locs rm.cells rm.slots Q (F0 m pc ls [.int v])) →
      W p l e rm s m args below meth c s.heap [] 0 0 Q (F0 m 0 ls [])) : si_Mi l g cl y w rm av ws post w1 := by
  intro sz
  refine Met.ofW (cc := cc) (maxL := maxL) (ret := (some ty)) hy hw ?_
  intro p e s m args below meth c s₁ B hml hv
  obtain ⟨rfl, hsz, hP, hK, hD0, hN⟩ := hv
  subst hsz
  have hD := hD0.self (sz := s.heap.size)
  have hr := B.returns
  have hlocks := B.notSynchronized
  have hl := lv_entry av (n := maxL) hlen
  rw [lg_entry_eq]
  refine hbody p e s m av.toArray below meth c (va_A ws s.heap.size) _ _ ⟨B.exec, B.bytes, hml, findClass_of_methodNamed B.named, atoms_spec (ws := w) B.pre⟩ (name_of_methodNamed B.named B.method).1 hK hN hP hD (fun q h => Or.inr h) va_S.rf hl ?_
  intro v u H locs pc ls hn hpost hP1 hD1 hS hdg
  exact W.zret B.exec B.bytes hr hn (fun t ht hW => ⟨⟨v, u, rfl, hpost, by rw [ht]; exact hP1, va_K.moved hW.alike hK, hD1⟩, hS.F ht⟩) hS.2.2 hdg
theorem si_Mi.callV {p : Program} {l : Launch} {e : Env} {R : Room} {s : State} {m : MethodId} {args : Array Value} {below : List Frame} {meth : Method} {c : Code} {H : Heap} {locs : List Loc} {cells slots : Nat} {Q : State → Prop} {cc : ByteArray} {pc nL n index maxL : Nat} {ls : Array Slot} {rest st0 As : List Value} {b : Addr} {C : String} {ret : Option FieldType} {own : String} {Ts : List Cond} {bytes : ByteArray} {A : Nat → Prop} {S : Type} {g : si_G} {cl : List vw_C} {y : MethodName} {w : List Cond} {rm : Room} {ws wc wr : va_W} {post : Int32 → S → Prop} {w1 : S → va_W}
    (hM : si_Mi l g cl y w rm (.ref b :: As) wc post w1) (F : CallFix p m c cc nL s args Ts own) (cw : CallW R s args own C index y bytes maxL ret w rm rm.cells rm.slots n)
    (hK : va_K g.1 cl (si_T g) s) (hN : si_NK s) (hP : va_P g.1 cl ws H) (hD : va_D A ws) (hS : va_S A s.heap H locs) (hA : ∀ q, s.heap.size ≤ q → A q)
    (isC isR : List Nat) (hC : isC.map (fun i => ws[i]?) = wc.map some) (hR : isR.map (fun i => ws[i]?) = wr.map some) (hnd : (va_nd isC && va_nd isR) = true) (hdis : ∀ i ∈ isR, i ∉ isC) (hrc : ∃ cell : Cell, H[b]? = some cell ∧ cell.vm.isStatics = false ∧ s.vm.findClass C = some cell.cls)
    (hn : As.length = n) (hsize : ls.size = nL) (hst : st0 = As.reverse ++ .ref b :: rest) (hW : (rest.map fun v => v.category).sum ≤ 8) (hdg : decode cc pc = .ok (.invokevirtual index, 3)) (hf : cells ≤ R.cells ∧ slots ≤ R.slots)
    (hc0 : rm.cells = 0) (hs0 : rm.slots = 0)
    (kk : ∀ (r : Int32) (u : S) (H1 : Heap) (locs1 : List Loc), post r u → va_P g.1 cl (wr ++ w1 u) H1 → va_D A (wr ++ w1 u) → va_S A s.heap H1 locs1 → W p l e R s m args below meth c H1 locs1 cells slots Q (F0 m (pc + 3) ls (.int r :: rest))) :
    W p l e R s m args below meth c H locs cells slots Q (F0 m pc ls st0) := by
  rw [Bool.and_eq_true] at hnd
  have hFc := va_free (wc := wc) hD hS hA isC hC
  have hDc : va_D A wc := hD.sub isC hnd.1 hC
  have hPc : va_P g.1 cl wc H := si_Psub hP isC hC
  subst hst
  refine va_calli (va_runV F (hM H.size) cw ⟨si_blind g cl wc H.size _, hrc, fun U hU hW => ⟨rfl, by rw [hU], by rw [hU]; exact hPc, va_K.moved hW.alike hK, hDc.weaken (fun _ _ _ _ => trivial), hN.warm hW⟩⟩ rfl hn hsize rfl (lv_room hW) hdg (by rw [hc0, hs0]; exact hf)) hS (fun q _ h => hFc q h) hFc (fun r u t H1 locs1 ht hvm hpost hB hz hk hS1 => ?_)
  obtain ⟨hP1, hK1, hD1⟩ := hB
  rw [ht] at hP1
  obtain ⟨hP2, hD2⟩ := va_join (w1 := w1 u) hP hD isC isR hC hR hnd.2 hdis hk hFc hP1 hD1
  rw [hc0, hs0]
  exact kk r u H1 locs1 hpost hP2 hD2 hS1
theorem si_Mi.callS {p : Program} {l : Launch} {e : Env} {R : Room} {s : State} {m : MethodId} {args : Array Value} {below : List Frame} {meth : Method} {c : Code} {H : Heap} {locs : List Loc} {cells slots : Nat} {Q : State → Prop} {cc : ByteArray} {pc nL n index maxL : Nat} {ls : Array Slot} {rest st0 As : List Value} {ret : Option FieldType} {own : String} {Ts : List Cond} {bytes : ByteArray} {A : Nat → Prop} {S : Type} {g : si_G} {cl : List vw_C} {y : MethodName} {w : List Cond} {rm : Room} {ws wc wr : va_W} {post : Int32 → S → Prop} {w1 : S → va_W}
    (hM : si_Mi l g cl y w rm As wc post w1) (F : CallFix p m c cc nL s args Ts own) (cw : CallB R s args own index y bytes maxL ret w rm rm.cells rm.slots n ∧ (Cond.static y).before args s = true)
    (hK : va_K g.1 cl (si_T g) s) (hN : si_NK s) (hP : va_P g.1 cl ws H) (hD : va_D A ws) (hS : va_S A s.heap H locs) (hA : ∀ q, s.heap.size ≤ q → A q)
    (isC isR : List Nat) (hC : isC.map (fun i => ws[i]?) = wc.map some) (hR : isR.map (fun i => ws[i]?) = wr.map some) (hnd : (va_nd isC && va_nd isR) = true) (hdis : ∀ i ∈ isR, i ∉ isC)
    (hn : As.length = n) (hsize : ls.size = nL) (hst : st0 = As.reverse ++ rest) (hW : (rest.map fun v => v.category).sum ≤ 8) (hdg : decode cc pc = .ok (.invokestatic index, 3)) (hf : cells ≤ R.cells ∧ slots ≤ R.slots)
    (hc0 : rm.cells = 0) (hs0 : rm.slots = 0)
    (kk : ∀ (r : Int32) (u : S) (H1 : Heap) (locs1 : List Loc), post r u → va_P g.1 cl (wr ++ w1 u) H1 → va_D A (wr ++ w1 u) → va_S A s.heap H1 locs1 → W p l e R s m args below meth c H1 locs1 cells slots Q (F0 m (pc + 3) ls (.int r :: rest))) :
    W p l e R s m args below meth c H locs cells slots Q (F0 m pc ls st0) := by
  rw [Bool.and_eq_true] at hnd
  have hFc := va_free (wc := wc) hD hS hA isC hC
  have hDc : va_D A wc := hD.sub isC hnd.1 hC
  have hPc : va_P g.1 cl wc H := si_Psub hP isC hC
  subst hst
  refine va_calli (va_runS F (hM H.size) cw ⟨si_blind g cl wc H.size _, fun U hU hW => ⟨rfl, by rw [hU], by rw [hU]; exact hPc, va_K.moved hW.alike hK, hDc.weaken (fun _ _ _ _ => trivial), hN.warm hW⟩⟩ rfl hn hsize rfl (lv_room hW) hdg (by rw [hc0, hs0]; exact hf)) hS (fun q _ h => hFc q h) hFc (fun r u t H1 locs1 ht hvm hpost hB hz hk hS1 => ?_)
  obtain ⟨hP1, hK1, hD1⟩ := hB
  rw [ht] at hP1
  obtain ⟨hP2, hD2⟩ := va_join (w1 := w1 u) hP hD isC isR hC hR hnd.2 hdis hk hFc hP1 hD1
  rw [hc0, hs0]
  exact kk r u H1 locs1 hpost hP2 hD2 hS1
def si_Ml {S : Type} (l : Launch) (g : si_G) (cl : List vw_C) (y : MethodName) (w : List Cond) (rm : Room) (av : List Value) (ws : va_W) (post : Int64 → S → Prop) (w1 : S → va_W) : Prop := ∀ sz : Nat, Met l y w rm (va_Pc av (si_pre g cl ws sz)) (va_Ql post (fun u t => si_at g cl (va_A ws sz) (w1 u) t) (va_A ws sz)) rm.cells rm.slots (va_A ws sz)
/-- a contract out of a walk of the body -/
theorem si_Ml.of {S : Type} {l : Launch} {g : si_G} {cl : List vw_C} {y : MethodName} {w w' : List Cond} {rm : Room} {av : List Value} {ws : va_W} {post : Int64 → S → Prop} {w1 : S → va_W} {cc : ByteArray} {maxL : Nat} (hy : plainName y.cls = true) (hw : w = Cond.code y cc maxL (some .long) :: w') (hlen : (lg_sl av).length ≤ maxL)
    (hbody : ∀ (p : Program) (e : Env) (s : State) (m : MethodId) (args : Array Value) (below : List Frame) (meth : Method) (c : Code) (A : Nat → Prop) (Q : State → Prop) (ls : Array Slot),
      CallFix p m c cc maxL s args w y.cls → meth.name = y.name → va_K g.1 cl (si_T g) s → si_NK s → va_P g.1 cl ws s.heap → va_D A ws → (∀ q, s.heap.size ≤ q → A q) → va_S A s.heap s.heap [] → lv_has ls maxL (lv_args 0 av) →
      (∀ (v : Int64) (u : S) (H : Heap) (locs : List Loc) (pc : Nat) (ls : Array Slot), post v u → va_P g.1 cl (w1 u) H → va_D A (w1 u) → va_S A s.heap H locs → decode cc pc = .ok (.lreturn, 1) → W p l e rm s m args below meth c H locs rm.cells rm.slots Q (F0 m pc ls [.long v])) →
      W p l e rm s m args below meth c s.heap [] 0 0 Q (F0 m 0 ls [])) : si_Ml l g cl y w rm av ws post w1 := by
  intro sz
  refine Met.ofW (cc := cc) (maxL := maxL) (ret := (some .long)) hy hw ?_
  intro p e s m args below meth c s₁ B hml hv
  obtain ⟨rfl, hsz, hP, hK, hD0, hN⟩ := hv
  subst hsz
  have hD := hD0.self (sz := s.heap.size)
  have hr := B.returns
  have hlocks := B.notSynchronized
  have hl := lv_entry av (n := maxL) hlen
  rw [lg_entry_eq]
  refine hbody p e s m av.toArray below meth c (va_A ws s.heap.size) _ _ ⟨B.exec, B.bytes, hml, findClass_of_methodNamed B.named, atoms_spec (ws := w) B.pre⟩ (name_of_methodNamed B.named B.method).1 hK hN hP hD (fun q h => Or.inr h) va_S.rf hl ?_
  intro v u H locs pc ls hpost hP1 hD1 hS hdg
  exact W.lret B.exec B.bytes hr (fun t ht hW => ⟨⟨v, u, rfl, hpost, by rw [ht]; exact hP1, va_K.moved hW.alike hK, hD1⟩, hS.F ht⟩) hS.2.2 hdg
theorem si_Ml.callV {p : Program} {l : Launch} {e : Env} {R : Room} {s : State} {m : MethodId} {args : Array Value} {below : List Frame} {meth : Method} {c : Code} {H : Heap} {locs : List Loc} {cells slots : Nat} {Q : State → Prop} {cc : ByteArray} {pc nL n index maxL : Nat} {ls : Array Slot} {rest st0 As : List Value} {b : Addr} {C : String} {ret : Option FieldType} {own : String} {Ts : List Cond} {bytes : ByteArray} {A : Nat → Prop} {S : Type} {g : si_G} {cl : List vw_C} {y : MethodName} {w : List Cond} {rm : Room} {ws wc wr : va_W} {post : Int64 → S → Prop} {w1 : S → va_W}
    (hM : si_Ml l g cl y w rm (.ref b :: As) wc post w1) (F : CallFix p m c cc nL s args Ts own) (cw : CallW R s args own C index y bytes maxL ret w rm rm.cells rm.slots n)
    (hK : va_K g.1 cl (si_T g) s) (hN : si_NK s) (hP : va_P g.1 cl ws H) (hD : va_D A ws) (hS : va_S A s.heap H locs) (hA : ∀ q, s.heap.size ≤ q → A q)
    (isC isR : List Nat) (hC : isC.map (fun i => ws[i]?) = wc.map some) (hR : isR.map (fun i => ws[i]?) = wr.map some) (hnd : (va_nd isC && va_nd isR) = true) (hdis : ∀ i ∈ isR, i ∉ isC) (hrc : ∃ cell : Cell, H[b]? = some cell ∧ cell.vm.isStatics = false ∧ s.vm.findClass C = some cell.cls)
    (hn : As.length = n) (hsize : ls.size = nL) (hst : st0 = As.reverse ++ .ref b :: rest) (hW : (rest.map fun v => v.category).sum ≤ 8) (hdg : decode cc pc = .ok (.invokevirtual index, 3)) (hf : cells ≤ R.cells ∧ slots ≤ R.slots)
    (hc0 : rm.cells = 0) (hs0 : rm.slots = 0)
    (kk : ∀ (r : Int64) (u : S) (H1 : Heap) (locs1 : List Loc), post r u → va_P g.1 cl (wr ++ w1 u) H1 → va_D A (wr ++ w1 u) → va_S A s.heap H1 locs1 → W p l e R s m args below meth c H1 locs1 cells slots Q (F0 m (pc + 3) ls (.long r :: rest))) :
    W p l e R s m args below meth c H locs cells slots Q (F0 m pc ls st0) := by
  rw [Bool.and_eq_true] at hnd
  have hFc := va_free (wc := wc) hD hS hA isC hC
  have hDc : va_D A wc := hD.sub isC hnd.1 hC
  have hPc : va_P g.1 cl wc H := si_Psub hP isC hC
  subst hst
  refine va_calll (va_runV F (hM H.size) cw ⟨si_blind g cl wc H.size _, hrc, fun U hU hW => ⟨rfl, by rw [hU], by rw [hU]; exact hPc, va_K.moved hW.alike hK, hDc.weaken (fun _ _ _ _ => trivial), hN.warm hW⟩⟩ rfl hn hsize rfl (lv_room hW) hdg (by rw [hc0, hs0]; exact hf)) hS (fun q _ h => hFc q h) hFc (fun r u t H1 locs1 ht hvm hpost hB hz hk hS1 => ?_)
  obtain ⟨hP1, hK1, hD1⟩ := hB
  rw [ht] at hP1
  obtain ⟨hP2, hD2⟩ := va_join (w1 := w1 u) hP hD isC isR hC hR hnd.2 hdis hk hFc hP1 hD1
  rw [hc0, hs0]
  exact kk r u H1 locs1 hpost hP2 hD2 hS1
theorem si_Ml.callS {p : Program} {l : Launch} {e : Env} {R : Room} {s : State} {m : MethodId} {args : Array Value} {below : List Frame} {meth : Method} {c : Code} {H : Heap} {locs : List Loc} {cells slots : Nat} {Q : State → Prop} {cc : ByteArray} {pc nL n index maxL : Nat} {ls : Array Slot} {rest st0 As : List Value} {ret : Option FieldType} {own : String} {Ts : List Cond} {bytes : ByteArray} {A : Nat → Prop} {S : Type} {g : si_G} {cl : List vw_C} {y : MethodName} {w : List Cond} {rm : Room} {ws wc wr : va_W} {post : Int64 → S → Prop} {w1 : S → va_W}
    (hM : si_Ml l g cl y w rm As wc post w1) (F : CallFix p m c cc nL s args Ts own) (cw : CallB R s args own index y bytes maxL ret w rm rm.cells rm.slots n ∧ (Cond.static y).before args s = true)
    (hK : va_K g.1 cl (si_T g) s) (hN : si_NK s) (hP : va_P g.1 cl ws H) (hD : va_D A ws) (hS : va_S A s.heap H locs) (hA : ∀ q, s.heap.size ≤ q → A q)
    (isC isR : List Nat) (hC : isC.map (fun i => ws[i]?) = wc.map some) (hR : isR.map (fun i => ws[i]?) = wr.map some) (hnd : (va_nd isC && va_nd isR) = true) (hdis : ∀ i ∈ isR, i ∉ isC)
    (hn : As.length = n) (hsize : ls.size = nL) (hst : st0 = As.reverse ++ rest) (hW : (rest.map fun v => v.category).sum ≤ 8) (hdg : decode cc pc = .ok (.invokestatic index, 3)) (hf : cells ≤ R.cells ∧ slots ≤ R.slots)
    (hc0 : rm.cells = 0) (hs0 : rm.slots = 0)
    (kk : ∀ (r : Int64) (u : S) (H1 : Heap) (locs1 : List Loc), post r u → va_P g.1 cl (wr ++ w1 u) H1 → va_D A (wr ++ w1 u) → va_S A s.heap H1 locs1 → W p l e R s m args below meth c H1 locs1 cells slots Q (F0 m (pc + 3) ls (.long r :: rest))) :
    W p l e R s m args below meth c H locs cells slots Q (F0 m pc ls st0) := by
  rw [Bool.and_eq_true] at hnd
  have hFc := va_free (wc := wc) hD hS hA isC hC
  have hDc : va_D A wc := hD.sub isC hnd.1 hC
  have hPc : va_P g.1 cl wc H := si_Psub hP isC hC
  subst hst
  refine va_calll (va_runS F (hM H.size) cw ⟨si_blind g cl wc H.size _, fun U hU hW => ⟨rfl, by rw [hU], by rw [hU]; exact hPc, va_K.moved hW.alike hK, hDc.weaken (fun _ _ _ _ => trivial), hN.warm hW⟩⟩ rfl hn hsize rfl (lv_room hW) hdg (by rw [hc0, hs0]; exact hf)) hS (fun q _ h => hFc q h) hFc (fun r u t H1 locs1 ht hvm hpost hB hz hk hS1 => ?_)
  obtain ⟨hP1, hK1, hD1⟩ := hB
  rw [ht] at hP1
  obtain ⟨hP2, hD2⟩ := va_join (w1 := w1 u) hP hD isC isR hC hR hnd.2 hdis hk hFc hP1 hD1
  rw [hc0, hs0]
  exact kk r u H1 locs1 hpost hP2 hD2 hS1
def si_Mv {S : Type} (l : Launch) (g : si_G) (cl : List vw_C) (y : MethodName) (w : List Cond) (rm : Room) (av : List Value) (ws : va_W) (post : S → Prop) (w1 : S → va_W) : Prop := ∀ sz : Nat, Met l y w rm (va_Pc av (si_pre g cl ws sz)) (va_Qv post (fun u t => si_at g cl (va_A ws sz) (w1 u) t) (va_A ws sz)) rm.cells rm.slots (va_A ws sz)
/-- a contract out of a walk of the body -/
theorem si_Mv.of {S : Type} {l : Launch} {g : si_G} {cl : List vw_C} {y : MethodName} {w w' : List Cond} {rm : Room} {av : List Value} {ws : va_W} {post : S → Prop} {w1 : S → va_W} {cc : ByteArray} {maxL : Nat} (hy : plainName y.cls = true) (hw : w = Cond.code y cc maxL none :: w') (hlen : (lg_sl av).length ≤ maxL)
    (hbody : ∀ (p : Program) (e : Env) (s : State) (m : MethodId) (args : Array Value) (below : List Frame) (meth : Method) (c : Code) (A : Nat → Prop) (Q : State → Prop) (ls : Array Slot),
      CallFix p m c cc maxL s args w y.cls → meth.name = y.name → va_K g.1 cl (si_T g) s → si_NK s → va_P g.1 cl ws s.heap → va_D A ws → (∀ q, s.heap.size ≤ q → A q) → va_S A s.heap s.heap [] → lv_has ls maxL (lv_args 0 av) →
      (∀ (u : S) (H : Heap) (locs : List Loc) (pc : Nat) (ls : Array Slot), post u → va_P g.1 cl (w1 u) H → va_D A (w1 u) → va_S A s.heap H locs → decode cc pc = .ok (.return_, 1) → W p l e rm s m args below meth c H locs rm.cells rm.slots Q (F0 m pc ls [])) →
      W p l e rm s m args below meth c s.heap [] 0 0 Q (F0 m 0 ls [])) : si_Mv l g cl y w rm av ws post w1 := by
  intro sz
  refine Met.ofW (cc := cc) (maxL := maxL) (ret := none) hy hw ?_
  intro p e s m args below meth c s₁ B hml hv
  obtain ⟨rfl, hsz, hP, hK, hD0, hN⟩ := hv
  subst hsz
  have hD := hD0.self (sz := s.heap.size)
  have hr := B.returns
  have hlocks := B.notSynchronized
  have hl := lv_entry av (n := maxL) hlen
  rw [lg_entry_eq]
  refine hbody p e s m av.toArray below meth c (va_A ws s.heap.size) _ _ ⟨B.exec, B.bytes, hml, findClass_of_methodNamed B.named, atoms_spec (ws := w) B.pre⟩ (name_of_methodNamed B.named B.method).1 hK hN hP hD (fun q h => Or.inr h) va_S.rf hl ?_
  intro u H locs pc ls hpost hP1 hD1 hS hdg
  exact W.vret B.exec B.bytes hr (fun t ht hW => ⟨⟨u, rfl, hpost, by rw [ht]; exact hP1, va_K.moved hW.alike hK, hD1⟩, hS.F ht⟩) hS.2.2 hdg
theorem si_Mv.callV {p : Program} {l : Launch} {e : Env} {R : Room} {s : State} {m : MethodId} {args : Array Value} {below : List Frame} {meth : Method} {c : Code} {H : Heap} {locs : List Loc} {cells slots : Nat} {Q : State → Prop} {cc : ByteArray} {pc nL n index maxL : Nat} {ls : Array Slot} {rest st0 As : List Value} {b : Addr} {C : String} {ret : Option FieldType} {own : String} {Ts : List Cond} {bytes : ByteArray} {A : Nat → Prop} {S : Type} {g : si_G} {cl : List vw_C} {y : MethodName} {w : List Cond} {rm : Room} {ws wc wr : va_W} {post : S → Prop} {w1 : S → va_W}
    (hM : si_Mv l g cl y w rm (.ref b :: As) wc post w1) (F : CallFix p m c cc nL s args Ts own) (cw : CallW R s args own C index y bytes maxL ret w rm rm.cells rm.slots n)
    (hK : va_K g.1 cl (si_T g) s) (hN : si_NK s) (hP : va_P g.1 cl ws H) (hD : va_D A ws) (hS : va_S A s.heap H locs) (hA : ∀ q, s.heap.size ≤ q → A q)
    (isC isR : List Nat) (hC : isC.map (fun i => ws[i]?) = wc.map some) (hR : isR.map (fun i => ws[i]?) = wr.map some) (hnd : (va_nd isC && va_nd isR) = true) (hdis : ∀ i ∈ isR, i ∉ isC) (hrc : ∃ cell : Cell, H[b]? = some cell ∧ cell.vm.isStatics = false ∧ s.vm.findClass C = some cell.cls)
    (hn : As.length = n) (hsize : ls.size = nL) (hst : st0 = As.reverse ++ .ref b :: rest) (hW : (rest.map fun v => v.category).sum ≤ 8) (hdg : decode cc pc = .ok (.invokevirtual index, 3)) (hf : cells ≤ R.cells ∧ slots ≤ R.slots)
    (hc0 : rm.cells = 0) (hs0 : rm.slots = 0)
    (kk : ∀ (u : S) (H1 : Heap) (locs1 : List Loc), post u → va_P g.1 cl (wr ++ w1 u) H1 → va_D A (wr ++ w1 u) → va_S A s.heap H1 locs1 → W p l e R s m args below meth c H1 locs1 cells slots Q (F0 m (pc + 3) ls (rest))) :
    W p l e R s m args below meth c H locs cells slots Q (F0 m pc ls st0) := by
  rw [Bool.and_eq_true] at hnd
  have hFc := va_free (wc := wc) hD hS hA isC hC
  have hDc : va_D A wc := hD.sub isC hnd.1 hC
  have hPc : va_P g.1 cl wc H := si_Psub hP isC hC
  subst hst
  refine va_callv (va_runV F (hM H.size) cw ⟨si_blind g cl wc H.size _, hrc, fun U hU hW => ⟨rfl, by rw [hU], by rw [hU]; exact hPc, va_K.moved hW.alike hK, hDc.weaken (fun _ _ _ _ => trivial), hN.warm hW⟩⟩ rfl hn hsize rfl (lv_room hW) hdg (by rw [hc0, hs0]; exact hf)) hS (fun q _ h => hFc q h) hFc (fun u t H1 locs1 ht hvm hpost hB hz hk hS1 => ?_)
  obtain ⟨hP1, hK1, hD1⟩ := hB
  rw [ht] at hP1
  obtain ⟨hP2, hD2⟩ := va_join (w1 := w1 u) hP hD isC isR hC hR hnd.2 hdis hk hFc hP1 hD1
  rw [hc0, hs0]
  exact kk u H1 locs1 hpost hP2 hD2 hS1
theorem si_Mv.callS {p : Program} {l : Launch} {e : Env} {R : Room} {s : State} {m : MethodId} {args : Array Value} {below : List Frame} {meth : Method} {c : Code} {H : Heap} {locs : List Loc} {cells slots : Nat} {Q : State → Prop} {cc : ByteArray} {pc nL n index maxL : Nat} {ls : Array Slot} {rest st0 As : List Value} {ret : Option FieldType} {own : String} {Ts : List Cond} {bytes : ByteArray} {A : Nat → Prop} {S : Type} {g : si_G} {cl : List vw_C} {y : MethodName} {w : List Cond} {rm : Room} {ws wc wr : va_W} {post : S → Prop} {w1 : S → va_W}
    (hM : si_Mv l g cl y w rm As wc post w1) (F : CallFix p m c cc nL s args Ts own) (cw : CallB R s args own index y bytes maxL ret w rm rm.cells rm.slots n ∧ (Cond.static y).before args s = true)
    (hK : va_K g.1 cl (si_T g) s) (hN : si_NK s) (hP : va_P g.1 cl ws H) (hD : va_D A ws) (hS : va_S A s.heap H locs) (hA : ∀ q, s.heap.size ≤ q → A q)
    (isC isR : List Nat) (hC : isC.map (fun i => ws[i]?) = wc.map some) (hR : isR.map (fun i => ws[i]?) = wr.map some) (hnd : (va_nd isC && va_nd isR) = true) (hdis : ∀ i ∈ isR, i ∉ isC)
    (hn : As.length = n) (hsize : ls.size = nL) (hst : st0 = As.reverse ++ rest) (hW : (rest.map fun v => v.category).sum ≤ 8) (hdg : decode cc pc = .ok (.invokestatic index, 3)) (hf : cells ≤ R.cells ∧ slots ≤ R.slots)
    (hc0 : rm.cells = 0) (hs0 : rm.slots = 0)
    (kk : ∀ (u : S) (H1 : Heap) (locs1 : List Loc), post u → va_P g.1 cl (wr ++ w1 u) H1 → va_D A (wr ++ w1 u) → va_S A s.heap H1 locs1 → W p l e R s m args below meth c H1 locs1 cells slots Q (F0 m (pc + 3) ls (rest))) :
    W p l e R s m args below meth c H locs cells slots Q (F0 m pc ls st0) := by
  rw [Bool.and_eq_true] at hnd
  have hFc := va_free (wc := wc) hD hS hA isC hC
  have hDc : va_D A wc := hD.sub isC hnd.1 hC
  have hPc : va_P g.1 cl wc H := si_Psub hP isC hC
  subst hst
  refine va_callv (va_runS F (hM H.size) cw ⟨si_blind g cl wc H.size _, fun U hU hW => ⟨rfl, by rw [hU], by rw [hU]; exact hPc, va_K.moved hW.alike hK, hDc.weaken (fun _ _ _ _ => trivial), hN.warm hW⟩⟩ rfl hn hsize rfl (lv_room hW) hdg (by rw [hc0, hs0]; exact hf)) hS (fun q _ h => hFc q h) hFc (fun u t H1 locs1 ht hvm hpost hB hz hk hS1 => ?_)
  obtain ⟨hP1, hK1, hD1⟩ := hB
  rw [ht] at hP1
  obtain ⟨hP2, hD2⟩ := va_join (w1 := w1 u) hP hD isC isR hC hR hnd.2 hdis hk hFc hP1 hD1
  rw [hc0, hs0]
  exact kk u H1 locs1 hpost hP2 hD2 hS1
theorem si_Mv.callI {p : Program} {l : Launch} {e : Env} {R : Room} {s : State} {m : MethodId} {args : Array Value} {below : List Frame} {meth : Method} {c : Code} {H : Heap} {locs : List Loc} {cells slots : Nat} {Q : State → Prop} {cc : ByteArray} {pc nL n index maxL : Nat} {ls : Array Slot} {rest st0 As : List Value} {b : Addr} {own : String} {Ts : List Cond} {bytes : ByteArray} {A : Nat → Prop} {S : Type} {g : si_G} {cl : List vw_C} {y : MethodName} {w : List Cond} {rm : Room} {ws wc wr : va_W} {post : S → Prop} {w1 : S → va_W}
    (hM : si_Mv l g cl y w rm (.ref b :: As) wc post w1) (F : CallFix p m c cc nL s args Ts own) (cw : CallB R s args own index y bytes maxL none w rm rm.cells rm.slots n ∧ y.name = "<init>" ∧ (Cond.instanceMethod y).before args s = true)
    (hK : va_K g.1 cl (si_T g) s) (hN : si_NK s) (hP : va_P g.1 cl ws H) (hD : va_D A ws) (hS : va_S A s.heap H locs) (hA : ∀ q, s.heap.size ≤ q → A q)
    (isC isR : List Nat) (hC : isC.map (fun i => ws[i]?) = wc.map some) (hR : isR.map (fun i => ws[i]?) = wr.map some) (hnd : (va_nd isC && va_nd isR) = true) (hdis : ∀ i ∈ isR, i ∉ isC)
    (hn : As.length = n) (hsize : ls.size = nL) (hst : st0 = As.reverse ++ .ref b :: rest) (hW : (rest.map fun v => v.category).sum ≤ 8) (hdg : decode cc pc = .ok (.invokespecial index, 3)) (hf : cells + rm.cells ≤ R.cells ∧ slots + rm.slots ≤ R.slots)
    (kk : ∀ (u : S) (H1 : Heap) (locs1 : List Loc), post u → va_P g.1 cl (wr ++ w1 u) H1 → va_D A (wr ++ w1 u) → va_S A s.heap H1 locs1 → W p l e R s m args below meth c H1 locs1 (cells + rm.cells) (slots + rm.slots) Q (F0 m (pc + 3) ls (rest))) :
    W p l e R s m args below meth c H locs cells slots Q (F0 m pc ls st0) := by
  rw [Bool.and_eq_true] at hnd
  have hFc := va_free (wc := wc) hD hS hA isC hC
  have hDc : va_D A wc := hD.sub isC hnd.1 hC
  have hPc : va_P g.1 cl wc H := si_Psub hP isC hC
  subst hst
  refine va_callv (va_runI F (hM H.size) cw ⟨si_blind g cl wc H.size _, fun U hU hW => ⟨rfl, by rw [hU], by rw [hU]; exact hPc, va_K.moved hW.alike hK, hDc.weaken (fun _ _ _ _ => trivial), hN.warm hW⟩⟩ rfl hn hsize rfl (lv_room hW) hdg hf) hS (fun q _ h => hFc q h) hFc (fun u t H1 locs1 ht hvm hpost hB hz hk hS1 => ?_)
  obtain ⟨hP1, hK1, hD1⟩ := hB
  rw [ht] at hP1
  obtain ⟨hP2, hD2⟩ := va_join (w1 := w1 u) hP hD isC isR hC hR hnd.2 hdis hk hFc hP1 hD1
  exact kk u H1 locs1 hpost hP2 hD2 hS1
end
section
/-! Names, fields, words. Written by wip/draft/gen_names.py out of the claim's listing. -/
/-- the tables' words that every call keeps -/
def si_tbl : List Cond := lw_tbl.filter goodWord
theorem si_in {w : Cond} (i : Nat) (h : tables_1[i]? = some w) (hg : goodWord w = true := by decide +kernel) : w ∈ si_tbl := List.mem_filter.mpr ⟨List.mem_append_right _ (List.mem_of_getElem? h), hg⟩
theorem si_inN {w : Cond} (i : Nat) (h : tables_1[i]? = some w) (hg : si_isN w = true := by decide +kernel) : w ∈ si_nst := List.mem_filter.mpr ⟨List.mem_of_getElem? h, hg⟩
theorem si_ins {w : Cond} (h : w ∈ k2_sels lw_privs) (hg : goodWord w = true := by decide +kernel) : w ∈ si_tbl := List.mem_filter.mpr ⟨List.mem_append_left _ h, hg⟩
theorem si_inu {C : String} {T : u_T} {N : Nat} (h : ∀ w ∈ u_ws C T N, w ∈ lw_tbl) (hg : (u_ws C T N).all goodWord = true) : ∀ w ∈ u_ws C T N, w ∈ si_tbl := fun w hw => List.mem_filter.mpr ⟨h w hw, List.all_eq_true.mp hg w hw⟩
abbrev zRB : String := "SelfIndexImage$Befores"
abbrev zRI : String := "SelfIndexImage$Image"
abbrev zRL : String := "SelfIndexImage$Line"
abbrev zRR : String := "SelfIndexImage$Reading"
abbrev zRS : String := "SelfIndexImage$Suffixes"
abbrev zRX : String := "SelfIndexImage"
abbrev zRM : String := "SelfIndexImageModel"
abbrev zRW : String := "SelfIndexImageLaw"
abbrev zRJ : String := "java/lang/Long"
def zTB : u_T := fun k => match k with
  | 0 => ("SelfIndexImage$Befores", "codes", "[I", true)
  | 1 => ("SelfIndexImage$Befores", "order", "[I", true)
  | 2 => ("SelfIndexImage$Befores", "ones", "[I", true)
  | 3 => ("SelfIndexImage$Befores", "following", "[I", true)
  | _ => ("SelfIndexImage$Befores", "last", "I", false)
def ztB : Nat → FieldType := fun k => match k with
  | 0 => .array .int
  | 1 => .array .int
  | 2 => .array .int
  | 3 => .array .int
  | _ => .int
theorem znB : ∀ a, a < 5 → ∀ b, b < 5 → a ≠ b → (zTB a).2.1 ≠ (zTB b).2.1 := by decide +kernel
theorem ztoB : ∀ k, k < 5 → parseFieldDescriptor (zTB k).2.2.1 = some (ztB k) := by decide +kernel
theorem ziB : ∀ w ∈ u_ws zRB zTB 5, w ∈ si_tbl := si_inu (by decide +kernel) (by decide +kernel)
def zTI : u_T := fun k => match k with
  | _ => ("SelfIndexImage$Image", "words", "[J", true)
def ztI : Nat → FieldType := fun k => match k with
  | _ => .array .long
theorem znI : ∀ a, a < 1 → ∀ b, b < 1 → a ≠ b → (zTI a).2.1 ≠ (zTI b).2.1 := by decide +kernel
theorem ztoI : ∀ k, k < 1 → parseFieldDescriptor (zTI k).2.2.1 = some (ztI k) := by decide +kernel
theorem ziI : ∀ w ∈ u_ws zRI zTI 1, w ∈ si_tbl := si_inu (by decide +kernel) (by decide +kernel)
def zTL : u_T := fun k => match k with
  | 0 => ("SelfIndexImage$Line", "codes", "[I", true)
  | _ => ("SelfIndexImage$Line", "size", "I", false)
def ztL : Nat → FieldType := fun k => match k with
  | 0 => .array .int
  | _ => .int
theorem znL : ∀ a, a < 2 → ∀ b, b < 2 → a ≠ b → (zTL a).2.1 ≠ (zTL b).2.1 := by decide +kernel
theorem ztoL : ∀ k, k < 2 → parseFieldDescriptor (zTL k).2.2.1 = some (ztL k) := by decide +kernel
theorem ziL : ∀ w ∈ u_ws zRL zTL 2, w ∈ si_tbl := si_inu (by decide +kernel) (by decide +kernel)
def zTR : u_T := fun k => match k with
  | 0 => ("SelfIndexImage$Reading", "text", "LSelfIndexImage$Line;", true)
  | 1 => ("SelfIndexImage$Reading", "suffixes", "LSelfIndexImage$Suffixes;", true)
  | _ => ("SelfIndexImage$Reading", "rate", "I", false)
def ztR : Nat → FieldType := fun k => match k with
  | 0 => .object "SelfIndexImage$Line"
  | 1 => .object "SelfIndexImage$Suffixes"
  | _ => .int
theorem znR : ∀ a, a < 3 → ∀ b, b < 3 → a ≠ b → (zTR a).2.1 ≠ (zTR b).2.1 := by decide +kernel
theorem ztoR : ∀ k, k < 3 → parseFieldDescriptor (zTR k).2.2.1 = some (ztR k) := by decide +kernel
theorem ziR : ∀ w ∈ u_ws zRR zTR 3, w ∈ si_tbl := si_inu (by decide +kernel) (by decide +kernel)
def zTS : u_T := fun k => match k with
  | 0 => ("SelfIndexImage$Suffixes", "rows", "[I", true)
  | 1 => ("SelfIndexImage$Suffixes", "places", "[I", true)
  | _ => ("SelfIndexImage$Suffixes", "last", "I", false)
def ztS : Nat → FieldType := fun k => match k with
  | 0 => .array .int
  | 1 => .array .int
  | _ => .int
theorem znS : ∀ a, a < 3 → ∀ b, b < 3 → a ≠ b → (zTS a).2.1 ≠ (zTS b).2.1 := by decide +kernel
theorem ztoS : ∀ k, k < 3 → parseFieldDescriptor (zTS k).2.2.1 = some (ztS k) := by decide +kernel
theorem ziS : ∀ w ∈ u_ws zRS zTS 3, w ∈ si_tbl := si_inu (by decide +kernel) (by decide +kernel)
def zTX : u_T := fun k => match k with
  | 0 => ("SelfIndexImage", "written", "LSelfIndexImage$Line;", true)
  | 1 => ("SelfIndexImage", "pattern", "LSelfIndexImage$Line;", true)
  | 2 => ("SelfIndexImage", "desk", "LSelfIndexImage$Image;", true)
  | 3 => ("SelfIndexImage", "redrawn", "LSelfIndexImage$Image;", true)
  | 4 => ("SelfIndexImage", "befores", "LSelfIndexImage$Befores;", true)
  | 5 => ("SelfIndexImage", "loaded", "LSelfIndexImage$Reading;", false)
  | _ => ("SelfIndexImage", "trial", "LSelfIndexImage$Reading;", false)
def ztX : Nat → FieldType := fun k => match k with
  | 0 => .object "SelfIndexImage$Line"
  | 1 => .object "SelfIndexImage$Line"
  | 2 => .object "SelfIndexImage$Image"
  | 3 => .object "SelfIndexImage$Image"
  | 4 => .object "SelfIndexImage$Befores"
  | 5 => .object "SelfIndexImage$Reading"
  | _ => .object "SelfIndexImage$Reading"
theorem znX : ∀ a, a < 7 → ∀ b, b < 7 → a ≠ b → (zTX a).2.1 ≠ (zTX b).2.1 := by decide +kernel
theorem ztoX : ∀ k, k < 7 → parseFieldDescriptor (zTX k).2.2.1 = some (ztX k) := by decide +kernel
theorem ziX : ∀ w ∈ u_ws zRX zTX 7, w ∈ si_tbl := si_inu (by decide +kernel) (by decide +kernel)
def zTM : u_T := fun k => match k with
  | 0 => ("SelfIndexImageModel", "size", "I", false)
  | 1 => ("SelfIndexImageModel", "written", "[I", false)
  | 2 => ("SelfIndexImageModel", "desk", "[J", false)
  | 3 => ("SelfIndexImageModel", "there", "Z", false)
  | 4 => ("SelfIndexImageModel", "n", "I", false)
  | 5 => ("SelfIndexImageModel", "text", "[I", false)
  | 6 => ("SelfIndexImageModel", "every", "I", false)
  | 7 => ("SelfIndexImageModel", "places", "[I", false)
  | 8 => ("SelfIndexImageModel", "rows", "[I", false)
  | 9 => ("SelfIndexImageModel", "asked", "I", false)
  | 10 => ("SelfIndexImageModel", "pattern", "[I", false)
  | 11 => ("SelfIndexImageModel", "m", "I", false)
  | 12 => ("SelfIndexImageModel", "work", "[I", false)
  | 13 => ("SelfIndexImageModel", "order", "[I", false)
  | 14 => ("SelfIndexImageModel", "back", "[I", false)
  | 15 => ("SelfIndexImageModel", "image", "[J", false)
  | 16 => ("SelfIndexImageModel", "now", "[I", false)
  | 17 => ("SelfIndexImageModel", "then", "[I", false)
  | _ => ("SelfIndexImageModel", "code", "[I", false)
def ztM : Nat → FieldType := fun k => match k with
  | 0 => .int
  | 1 => .array .int
  | 2 => .array .long
  | 3 => .boolean
  | 4 => .int
  | 5 => .array .int
  | 6 => .int
  | 7 => .array .int
  | 8 => .array .int
  | 9 => .int
  | 10 => .array .int
  | 11 => .int
  | 12 => .array .int
  | 13 => .array .int
  | 14 => .array .int
  | 15 => .array .long
  | 16 => .array .int
  | 17 => .array .int
  | _ => .array .int
theorem znM : ∀ a, a < 19 → ∀ b, b < 19 → a ≠ b → (zTM a).2.1 ≠ (zTM b).2.1 := by decide +kernel
theorem ztoM : ∀ k, k < 19 → parseFieldDescriptor (zTM k).2.2.1 = some (ztM k) := by decide +kernel
theorem ziM : ∀ w ∈ u_ws zRM zTM 19, w ∈ si_tbl := si_inu (by decide +kernel) (by decide +kernel)
abbrev vwCl : List vw_C := [(zRB, zTB, 5), (zRI, zTI, 1), (zRL, zTL, 2), (zRR, zTR, 3), (zRS, zTS, 3), (zRX, zTX, 7), (zRM, zTM, 19)]
theorem ziniW : Cond.initialized zRW ∈ si_tbl := si_in 0 (by decide +kernel)
theorem ziniX : Cond.initialized zRX ∈ si_tbl := si_in 1 (by decide +kernel)
theorem ziniL : Cond.initialized zRL ∈ si_tbl := si_in 2 (by decide +kernel)
theorem ziniI : Cond.initialized zRI ∈ si_tbl := si_in 3 (by decide +kernel)
theorem ziniB : Cond.initialized zRB ∈ si_tbl := si_in 4 (by decide +kernel)
theorem ziniR : Cond.initialized zRR ∈ si_tbl := si_in 5 (by decide +kernel)
theorem ziniS : Cond.initialized zRS ∈ si_tbl := si_in 6 (by decide +kernel)
theorem ziniM : Cond.initialized zRM ∈ si_tbl := si_in 7 (by decide +kernel)
theorem ziniJ : Cond.initialized zRJ ∈ si_tbl := si_in 8 (by decide +kernel)
abbrev zkX_init : ByteArray := prog_1_method_1_code
abbrev zyX_init : MethodName := ⟨zRX, "<init>", "()V"⟩
abbrev zwX_init : List Cond := .code zyX_init zkX_init 1 none :: si_tbl
theorem zcX_init : Cond.code zyX_init zkX_init 1 none ∈ si_tbl := si_in 13 (by decide +kernel)
theorem zimX_init : Cond.instanceMethod zyX_init ∈ si_tbl := si_in 12 (by decide +kernel)
abbrev zkX_write : ByteArray := prog_1_method_2_code
abbrev zyX_write : MethodName := ⟨zRX, "write", "(C)Z"⟩
abbrev zwX_write : List Cond := .code zyX_write zkX_write 2 (some .boolean) :: si_tbl
theorem zcX_write : Cond.code zyX_write zkX_write 2 (some .boolean) ∈ si_tbl := si_in 137 (by decide +kernel)
theorem zimX_write : Cond.instanceMethod zyX_write ∈ si_tbl := si_in 135 (by decide +kernel)
theorem zseX_write : Cond.selects zRX zyX_write zyX_write ∈ si_tbl := si_in 136 (by decide +kernel)
abbrev zkX_erase : ByteArray := prog_1_method_3_code
abbrev zyX_erase : MethodName := ⟨zRX, "erase", "()V"⟩
abbrev zwX_erase : List Cond := .code zyX_erase zkX_erase 1 none :: si_tbl
theorem zcX_erase : Cond.code zyX_erase zkX_erase 1 none ∈ si_tbl := si_in 145 (by decide +kernel)
theorem zimX_erase : Cond.instanceMethod zyX_erase ∈ si_tbl := si_in 143 (by decide +kernel)
theorem zseX_erase : Cond.selects zRX zyX_erase zyX_erase ∈ si_tbl := si_in 144 (by decide +kernel)
abbrev zkX_build : ByteArray := prog_1_method_4_code
abbrev zyX_build : MethodName := ⟨zRX, "build", "(I)Z"⟩
abbrev zwX_build : List Cond := .code zyX_build zkX_build 2 (some .boolean) :: si_tbl
theorem zcX_build : Cond.code zyX_build zkX_build 2 (some .boolean) ∈ si_tbl := si_in 153 (by decide +kernel)
theorem zimX_build : Cond.instanceMethod zyX_build ∈ si_tbl := si_in 151 (by decide +kernel)
theorem zseX_build : Cond.selects zRX zyX_build zyX_build ∈ si_tbl := si_in 152 (by decide +kernel)
abbrev zkX_word : ByteArray := prog_1_method_5_code
abbrev zyX_word : MethodName := ⟨zRX, "word", "(I)J"⟩
abbrev zwX_word : List Cond := .code zyX_word zkX_word 2 (some .long) :: si_tbl
theorem zcX_word : Cond.code zyX_word zkX_word 2 (some .long) ∈ si_tbl := si_in 214 (by decide +kernel)
theorem zimX_word : Cond.instanceMethod zyX_word ∈ si_tbl := si_in 212 (by decide +kernel)
theorem zseX_word : Cond.selects zRX zyX_word zyX_word ∈ si_tbl := si_in 213 (by decide +kernel)
abbrev zkX_put : ByteArray := prog_1_method_6_code
abbrev zyX_put : MethodName := ⟨zRX, "put", "(IJ)Z"⟩
abbrev zwX_put : List Cond := .code zyX_put zkX_put 4 (some .boolean) :: si_tbl
theorem zcX_put : Cond.code zyX_put zkX_put 4 (some .boolean) ∈ si_tbl := si_in 221 (by decide +kernel)
theorem zimX_put : Cond.instanceMethod zyX_put ∈ si_tbl := si_in 219 (by decide +kernel)
theorem zseX_put : Cond.selects zRX zyX_put zyX_put ∈ si_tbl := si_in 220 (by decide +kernel)
abbrev zkX_flip : ByteArray := prog_1_method_7_code
abbrev zyX_flip : MethodName := ⟨zRX, "flip", "(II)Z"⟩
abbrev zwX_flip : List Cond := .code zyX_flip zkX_flip 3 (some .boolean) :: si_tbl
theorem zcX_flip : Cond.code zyX_flip zkX_flip 3 (some .boolean) ∈ si_tbl := si_in 225 (by decide +kernel)
theorem zimX_flip : Cond.instanceMethod zyX_flip ∈ si_tbl := si_in 223 (by decide +kernel)
theorem zseX_flip : Cond.selects zRX zyX_flip zyX_flip ∈ si_tbl := si_in 224 (by decide +kernel)
abbrev zkX_load : ByteArray := prog_1_method_8_code
abbrev zyX_load : MethodName := ⟨zRX, "load", "()Z"⟩
abbrev zwX_load : List Cond := .code zyX_load zkX_load 2 (some .boolean) :: si_tbl
theorem zcX_load : Cond.code zyX_load zkX_load 2 (some .boolean) ∈ si_tbl := si_in 229 (by decide +kernel)
theorem zimX_load : Cond.instanceMethod zyX_load ∈ si_tbl := si_in 227 (by decide +kernel)
theorem zseX_load : Cond.selects zRX zyX_load zyX_load ∈ si_tbl := si_in 228 (by decide +kernel)
abbrev zkX_length : ByteArray := prog_1_method_9_code
abbrev zyX_length : MethodName := ⟨zRX, "length", "()I"⟩
abbrev zwX_length : List Cond := .code zyX_length zkX_length 1 (some .int) :: si_tbl
theorem zcX_length : Cond.code zyX_length zkX_length 1 (some .int) ∈ si_tbl := si_in 258 (by decide +kernel)
theorem zimX_length : Cond.instanceMethod zyX_length ∈ si_tbl := si_in 256 (by decide +kernel)
theorem zseX_length : Cond.selects zRX zyX_length zyX_length ∈ si_tbl := si_in 257 (by decide +kernel)
abbrev zkX_rate : ByteArray := prog_1_method_10_code
abbrev zyX_rate : MethodName := ⟨zRX, "rate", "()I"⟩
abbrev zwX_rate : List Cond := .code zyX_rate zkX_rate 1 (some .int) :: si_tbl
theorem zcX_rate : Cond.code zyX_rate zkX_rate 1 (some .int) ∈ si_tbl := si_in 266 (by decide +kernel)
theorem zimX_rate : Cond.instanceMethod zyX_rate ∈ si_tbl := si_in 264 (by decide +kernel)
theorem zseX_rate : Cond.selects zRX zyX_rate zyX_rate ∈ si_tbl := si_in 265 (by decide +kernel)
abbrev zkX_charAt : ByteArray := prog_1_method_11_code
abbrev zyX_charAt : MethodName := ⟨zRX, "charAt", "(I)I"⟩
abbrev zwX_charAt : List Cond := .code zyX_charAt zkX_charAt 2 (some .int) :: si_tbl
theorem zcX_charAt : Cond.code zyX_charAt zkX_charAt 2 (some .int) ∈ si_tbl := si_in 270 (by decide +kernel)
theorem zimX_charAt : Cond.instanceMethod zyX_charAt ∈ si_tbl := si_in 268 (by decide +kernel)
theorem zseX_charAt : Cond.selects zRX zyX_charAt zyX_charAt ∈ si_tbl := si_in 269 (by decide +kernel)
abbrev zkX_rowOf : ByteArray := prog_1_method_12_code
abbrev zyX_rowOf : MethodName := ⟨zRX, "rowOf", "(I)I"⟩
abbrev zwX_rowOf : List Cond := .code zyX_rowOf zkX_rowOf 2 (some .int) :: si_tbl
theorem zcX_rowOf : Cond.code zyX_rowOf zkX_rowOf 2 (some .int) ∈ si_tbl := si_in 279 (by decide +kernel)
theorem zimX_rowOf : Cond.instanceMethod zyX_rowOf ∈ si_tbl := si_in 277 (by decide +kernel)
theorem zseX_rowOf : Cond.selects zRX zyX_rowOf zyX_rowOf ∈ si_tbl := si_in 278 (by decide +kernel)
abbrev zkX_placeOf : ByteArray := prog_1_method_13_code
abbrev zyX_placeOf : MethodName := ⟨zRX, "placeOf", "(I)I"⟩
abbrev zwX_placeOf : List Cond := .code zyX_placeOf zkX_placeOf 2 (some .int) :: si_tbl
theorem zcX_placeOf : Cond.code zyX_placeOf zkX_placeOf 2 (some .int) ∈ si_tbl := si_in 283 (by decide +kernel)
theorem zimX_placeOf : Cond.instanceMethod zyX_placeOf ∈ si_tbl := si_in 281 (by decide +kernel)
theorem zseX_placeOf : Cond.selects zRX zyX_placeOf zyX_placeOf ∈ si_tbl := si_in 282 (by decide +kernel)
abbrev zkX_ask : ByteArray := prog_1_method_14_code
abbrev zyX_ask : MethodName := ⟨zRX, "ask", "(C)Z"⟩
abbrev zwX_ask : List Cond := .code zyX_ask zkX_ask 2 (some .boolean) :: si_tbl
theorem zcX_ask : Cond.code zyX_ask zkX_ask 2 (some .boolean) ∈ si_tbl := si_in 287 (by decide +kernel)
theorem zimX_ask : Cond.instanceMethod zyX_ask ∈ si_tbl := si_in 285 (by decide +kernel)
theorem zseX_ask : Cond.selects zRX zyX_ask zyX_ask ∈ si_tbl := si_in 286 (by decide +kernel)
abbrev zkX_back : ByteArray := prog_1_method_15_code
abbrev zyX_back : MethodName := ⟨zRX, "back", "()Z"⟩
abbrev zwX_back : List Cond := .code zyX_back zkX_back 1 (some .boolean) :: si_tbl
theorem zcX_back : Cond.code zyX_back zkX_back 1 (some .boolean) ∈ si_tbl := si_in 291 (by decide +kernel)
theorem zimX_back : Cond.instanceMethod zyX_back ∈ si_tbl := si_in 289 (by decide +kernel)
theorem zseX_back : Cond.selects zRX zyX_back zyX_back ∈ si_tbl := si_in 290 (by decide +kernel)
abbrev zkX_count : ByteArray := prog_1_method_16_code
abbrev zyX_count : MethodName := ⟨zRX, "count", "()I"⟩
abbrev zwX_count : List Cond := .code zyX_count zkX_count 3 (some .int) :: si_tbl
theorem zcX_count : Cond.code zyX_count zkX_count 3 (some .int) ∈ si_tbl := si_in 299 (by decide +kernel)
theorem zimX_count : Cond.instanceMethod zyX_count ∈ si_tbl := si_in 297 (by decide +kernel)
theorem zseX_count : Cond.selects zRX zyX_count zyX_count ∈ si_tbl := si_in 298 (by decide +kernel)
abbrev zkX_firstRow : ByteArray := prog_1_method_17_code
abbrev zyX_firstRow : MethodName := ⟨zRX, "firstRow", "()I"⟩
abbrev zwX_firstRow : List Cond := .code zyX_firstRow zkX_firstRow 2 (some .int) :: si_tbl
theorem zcX_firstRow : Cond.code zyX_firstRow zkX_firstRow 2 (some .int) ∈ si_tbl := si_in 312 (by decide +kernel)
theorem zimX_firstRow : Cond.instanceMethod zyX_firstRow ∈ si_tbl := si_in 310 (by decide +kernel)
theorem zseX_firstRow : Cond.selects zRX zyX_firstRow zyX_firstRow ∈ si_tbl := si_in 311 (by decide +kernel)
abbrev zkX_locate : ByteArray := prog_1_method_18_code
abbrev zyX_locate : MethodName := ⟨zRX, "locate", "(I)I"⟩
abbrev zwX_locate : List Cond := .code zyX_locate zkX_locate 4 (some .int) :: si_tbl
theorem zcX_locate : Cond.code zyX_locate zkX_locate 4 (some .int) ∈ si_tbl := si_in 316 (by decide +kernel)
theorem zimX_locate : Cond.instanceMethod zyX_locate ∈ si_tbl := si_in 314 (by decide +kernel)
theorem zseX_locate : Cond.selects zRX zyX_locate zyX_locate ∈ si_tbl := si_in 315 (by decide +kernel)
abbrev zkX_variety : ByteArray := prog_1_method_19_code
abbrev zyX_variety : MethodName := ⟨zRX, "variety", "()I"⟩
abbrev zwX_variety : List Cond := .code zyX_variety zkX_variety 7 (some .int) :: si_tbl
theorem zcX_variety : Cond.code zyX_variety zkX_variety 7 (some .int) ∈ si_tbl := si_in 320 (by decide +kernel)
theorem zimX_variety : Cond.instanceMethod zyX_variety ∈ si_tbl := si_in 318 (by decide +kernel)
theorem zseX_variety : Cond.selects zRX zyX_variety zyX_variety ∈ si_tbl := si_in 319 (by decide +kernel)
abbrev zkX_isWord : ByteArray := prog_1_method_20_code
abbrev zyX_isWord : MethodName := ⟨zRX, "isWord", "(I)Z"⟩
abbrev zwX_isWord : List Cond := .code zyX_isWord zkX_isWord 1 (some .boolean) :: si_tbl
theorem zcX_isWord : Cond.code zyX_isWord zkX_isWord 1 (some .boolean) ∈ si_tbl := si_in 217 (by decide +kernel)
theorem zstX_isWord : Cond.static zyX_isWord ∈ si_tbl := si_in 216 (by decide +kernel)
abbrev zkX_isRate : ByteArray := prog_1_method_21_code
abbrev zyX_isRate : MethodName := ⟨zRX, "isRate", "(J)Z"⟩
abbrev zwX_isRate : List Cond := .code zyX_isRate zkX_isRate 2 (some .boolean) :: si_tbl
theorem zcX_isRate : Cond.code zyX_isRate zkX_isRate 2 (some .boolean) ∈ si_tbl := si_in 156 (by decide +kernel)
theorem zstX_isRate : Cond.static zyX_isRate ∈ si_tbl := si_in 155 (by decide +kernel)
abbrev zkX_hasLoaded : ByteArray := prog_1_method_22_code
abbrev zyX_hasLoaded : MethodName := ⟨zRX, "hasLoaded", "()Z"⟩
abbrev zwX_hasLoaded : List Cond := .code zyX_hasLoaded zkX_hasLoaded 1 (some .boolean) :: si_tbl
theorem zcX_hasLoaded : Cond.code zyX_hasLoaded zkX_hasLoaded 1 (some .boolean) ∈ si_tbl := si_in 262 (by decide +kernel)
theorem zimX_hasLoaded : Cond.instanceMethod zyX_hasLoaded ∈ si_tbl := si_in 261 (by decide +kernel)
theorem zseX_hasLoaded : Cond.selects zRX zyX_hasLoaded zyX_hasLoaded ∈ si_tbl := si_ins (by decide +kernel)
abbrev zkX_isLoadedPlace : ByteArray := prog_1_method_23_code
abbrev zyX_isLoadedPlace : MethodName := ⟨zRX, "isLoadedPlace", "(I)Z"⟩
abbrev zwX_isLoadedPlace : List Cond := .code zyX_isLoadedPlace zkX_isLoadedPlace 2 (some .boolean) :: si_tbl
theorem zcX_isLoadedPlace : Cond.code zyX_isLoadedPlace zkX_isLoadedPlace 2 (some .boolean) ∈ si_tbl := si_in 274 (by decide +kernel)
theorem zimX_isLoadedPlace : Cond.instanceMethod zyX_isLoadedPlace ∈ si_tbl := si_in 273 (by decide +kernel)
theorem zseX_isLoadedPlace : Cond.selects zRX zyX_isLoadedPlace zyX_isLoadedPlace ∈ si_tbl := si_ins (by decide +kernel)
abbrev zkX_occursAt : ByteArray := prog_1_method_24_code
abbrev zyX_occursAt : MethodName := ⟨zRX, "occursAt", "(I)Z"⟩
abbrev zwX_occursAt : List Cond := .code zyX_occursAt zkX_occursAt 2 (some .boolean) :: si_tbl
theorem zcX_occursAt : Cond.code zyX_occursAt zkX_occursAt 2 (some .boolean) ∈ si_tbl := si_in 303 (by decide +kernel)
theorem zimX_occursAt : Cond.instanceMethod zyX_occursAt ∈ si_tbl := si_in 302 (by decide +kernel)
theorem zseX_occursAt : Cond.selects zRX zyX_occursAt zyX_occursAt ∈ si_tbl := si_ins (by decide +kernel)
abbrev zkX_draw : ByteArray := prog_1_method_25_code
abbrev zyX_draw : MethodName := ⟨zRX, "draw", "(LSelfIndexImage$Line;ILSelfIndexImage$Image;)V"⟩
abbrev zwX_draw : List Cond := .code zyX_draw zkX_draw 4 none :: si_tbl
theorem zcX_draw : Cond.code zyX_draw zkX_draw 4 none ∈ si_tbl := si_in 161 (by decide +kernel)
theorem zimX_draw : Cond.instanceMethod zyX_draw ∈ si_tbl := si_in 160 (by decide +kernel)
theorem zseX_draw : Cond.selects zRX zyX_draw zyX_draw ∈ si_tbl := si_ins (by decide +kernel)
abbrev zkX_readDesk : ByteArray := prog_1_method_26_code
abbrev zyX_readDesk : MethodName := ⟨zRX, "readDesk", "()Z"⟩
abbrev zwX_readDesk : List Cond := .code zyX_readDesk zkX_readDesk 7 (some .boolean) :: si_tbl
theorem zcX_readDesk : Cond.code zyX_readDesk zkX_readDesk 7 (some .boolean) ∈ si_tbl := si_in 233 (by decide +kernel)
theorem zimX_readDesk : Cond.instanceMethod zyX_readDesk ∈ si_tbl := si_in 232 (by decide +kernel)
theorem zseX_readDesk : Cond.selects zRX zyX_readDesk zyX_readDesk ∈ si_tbl := si_ins (by decide +kernel)
abbrev zkM_init : ByteArray := prog_8_method_1_code
abbrev zyM_init : MethodName := ⟨zRM, "<init>", "()V"⟩
abbrev zwM_init : List Cond := .code zyM_init zkM_init 1 none :: si_tbl
theorem zcM_init : Cond.code zyM_init zkM_init 1 none ∈ si_tbl := si_in 331 (by decide +kernel)
theorem zimM_init : Cond.instanceMethod zyM_init ∈ si_tbl := si_in 330 (by decide +kernel)
abbrev zkM_write : ByteArray := prog_8_method_2_code
abbrev zyM_write : MethodName := ⟨zRM, "write", "(C)Z"⟩
abbrev zwM_write : List Cond := .code zyM_write zkM_write 2 (some .boolean) :: si_tbl
theorem zcM_write : Cond.code zyM_write zkM_write 2 (some .boolean) ∈ si_tbl := si_in 394 (by decide +kernel)
theorem zimM_write : Cond.instanceMethod zyM_write ∈ si_tbl := si_in 392 (by decide +kernel)
theorem zseM_write : Cond.selects zRM zyM_write zyM_write ∈ si_tbl := si_in 393 (by decide +kernel)
abbrev zkM_erase : ByteArray := prog_8_method_3_code
abbrev zyM_erase : MethodName := ⟨zRM, "erase", "()V"⟩
abbrev zwM_erase : List Cond := .code zyM_erase zkM_erase 1 none :: si_tbl
theorem zcM_erase : Cond.code zyM_erase zkM_erase 1 none ∈ si_tbl := si_in 398 (by decide +kernel)
theorem zimM_erase : Cond.instanceMethod zyM_erase ∈ si_tbl := si_in 396 (by decide +kernel)
theorem zseM_erase : Cond.selects zRM zyM_erase zyM_erase ∈ si_tbl := si_in 397 (by decide +kernel)
abbrev zkM_word : ByteArray := prog_8_method_4_code
abbrev zyM_word : MethodName := ⟨zRM, "word", "(I)J"⟩
abbrev zwM_word : List Cond := .code zyM_word zkM_word 2 (some .long) :: si_tbl
theorem zcM_word : Cond.code zyM_word zkM_word 2 (some .long) ∈ si_tbl := si_in 402 (by decide +kernel)
theorem zimM_word : Cond.instanceMethod zyM_word ∈ si_tbl := si_in 400 (by decide +kernel)
theorem zseM_word : Cond.selects zRM zyM_word zyM_word ∈ si_tbl := si_in 401 (by decide +kernel)
abbrev zkM_put : ByteArray := prog_8_method_5_code
abbrev zyM_put : MethodName := ⟨zRM, "put", "(IJ)Z"⟩
abbrev zwM_put : List Cond := .code zyM_put zkM_put 4 (some .boolean) :: si_tbl
theorem zcM_put : Cond.code zyM_put zkM_put 4 (some .boolean) ∈ si_tbl := si_in 406 (by decide +kernel)
theorem zimM_put : Cond.instanceMethod zyM_put ∈ si_tbl := si_in 404 (by decide +kernel)
theorem zseM_put : Cond.selects zRM zyM_put zyM_put ∈ si_tbl := si_in 405 (by decide +kernel)
abbrev zkM_flip : ByteArray := prog_8_method_6_code
abbrev zyM_flip : MethodName := ⟨zRM, "flip", "(II)Z"⟩
abbrev zwM_flip : List Cond := .code zyM_flip zkM_flip 3 (some .boolean) :: si_tbl
theorem zcM_flip : Cond.code zyM_flip zkM_flip 3 (some .boolean) ∈ si_tbl := si_in 410 (by decide +kernel)
theorem zimM_flip : Cond.instanceMethod zyM_flip ∈ si_tbl := si_in 408 (by decide +kernel)
theorem zseM_flip : Cond.selects zRM zyM_flip zyM_flip ∈ si_tbl := si_in 409 (by decide +kernel)
abbrev zkM_earlier : ByteArray := prog_8_method_7_code
abbrev zyM_earlier : MethodName := ⟨zRM, "earlier", "(II)Z"⟩
abbrev zwM_earlier : List Cond := .code zyM_earlier zkM_earlier 5 (some .boolean) :: si_tbl
theorem zcM_earlier : Cond.code zyM_earlier zkM_earlier 5 (some .boolean) ∈ si_tbl := si_in 426 (by decide +kernel)
theorem zimM_earlier : Cond.instanceMethod zyM_earlier ∈ si_tbl := si_in 425 (by decide +kernel)
theorem zseM_earlier : Cond.selects zRM zyM_earlier zyM_earlier ∈ si_tbl := si_ins (by decide +kernel)
abbrev zkM_sort : ByteArray := prog_8_method_8_code
abbrev zyM_sort : MethodName := ⟨zRM, "sort", "()V"⟩
abbrev zwM_sort : List Cond := .code zyM_sort zkM_sort 4 none :: si_tbl
theorem zcM_sort : Cond.code zyM_sort zkM_sort 4 none ∈ si_tbl := si_in 422 (by decide +kernel)
theorem zimM_sort : Cond.instanceMethod zyM_sort ∈ si_tbl := si_in 421 (by decide +kernel)
theorem zseM_sort : Cond.selects zRM zyM_sort zyM_sort ∈ si_tbl := si_ins (by decide +kernel)
abbrev zkM_levels : ByteArray := prog_8_method_9_code
abbrev zyM_levels : MethodName := ⟨zRM, "levels", "()V"⟩
abbrev zwM_levels : List Cond := .code zyM_levels zkM_levels 5 none :: si_tbl
theorem zcM_levels : Cond.code zyM_levels zkM_levels 5 none ∈ si_tbl := si_in 431 (by decide +kernel)
theorem zimM_levels : Cond.instanceMethod zyM_levels ∈ si_tbl := si_in 430 (by decide +kernel)
theorem zseM_levels : Cond.selects zRM zyM_levels zyM_levels ∈ si_tbl := si_ins (by decide +kernel)
abbrev zkM_picture : ByteArray := prog_8_method_10_code
abbrev zyM_picture : MethodName := ⟨zRM, "picture", "(I)V"⟩
abbrev zwM_picture : List Cond := .code zyM_picture zkM_picture 4 none :: si_tbl
theorem zcM_picture : Cond.code zyM_picture zkM_picture 4 none ∈ si_tbl := si_in 418 (by decide +kernel)
theorem zimM_picture : Cond.instanceMethod zyM_picture ∈ si_tbl := si_in 417 (by decide +kernel)
theorem zseM_picture : Cond.selects zRM zyM_picture zyM_picture ∈ si_tbl := si_ins (by decide +kernel)
abbrev zkM_build : ByteArray := prog_8_method_11_code
abbrev zyM_build : MethodName := ⟨zRM, "build", "(I)Z"⟩
abbrev zwM_build : List Cond := .code zyM_build zkM_build 3 (some .boolean) :: si_tbl
theorem zcM_build : Cond.code zyM_build zkM_build 3 (some .boolean) ∈ si_tbl := si_in 414 (by decide +kernel)
theorem zimM_build : Cond.instanceMethod zyM_build ∈ si_tbl := si_in 412 (by decide +kernel)
theorem zseM_build : Cond.selects zRM zyM_build zyM_build ∈ si_tbl := si_in 413 (by decide +kernel)
abbrev zkM_readCodes : ByteArray := prog_8_method_12_code
abbrev zyM_readCodes : MethodName := ⟨zRM, "readCodes", "()V"⟩
abbrev zwM_readCodes : List Cond := .code zyM_readCodes zkM_readCodes 5 none :: si_tbl
theorem zcM_readCodes : Cond.code zyM_readCodes zkM_readCodes 5 none ∈ si_tbl := si_in 442 (by decide +kernel)
theorem zimM_readCodes : Cond.instanceMethod zyM_readCodes ∈ si_tbl := si_in 441 (by decide +kernel)
theorem zseM_readCodes : Cond.selects zRM zyM_readCodes zyM_readCodes ∈ si_tbl := si_ins (by decide +kernel)
abbrev zkM_before : ByteArray := prog_8_method_13_code
abbrev zyM_before : MethodName := ⟨zRM, "before", "(I)I"⟩
abbrev zwM_before : List Cond := .code zyM_before zkM_before 4 (some .int) :: si_tbl
theorem zcM_before : Cond.code zyM_before zkM_before 4 (some .int) ∈ si_tbl := si_in 446 (by decide +kernel)
theorem zimM_before : Cond.instanceMethod zyM_before ∈ si_tbl := si_in 445 (by decide +kernel)
theorem zseM_before : Cond.selects zRM zyM_before zyM_before ∈ si_tbl := si_ins (by decide +kernel)
abbrev zkM_load : ByteArray := prog_8_method_14_code
abbrev zyM_load : MethodName := ⟨zRM, "load", "()Z"⟩
abbrev zwM_load : List Cond := .code zyM_load zkM_load 5 (some .boolean) :: si_tbl
theorem zcM_load : Cond.code zyM_load zkM_load 5 (some .boolean) ∈ si_tbl := si_in 435 (by decide +kernel)
theorem zimM_load : Cond.instanceMethod zyM_load ∈ si_tbl := si_in 433 (by decide +kernel)
theorem zseM_load : Cond.selects zRM zyM_load zyM_load ∈ si_tbl := si_in 434 (by decide +kernel)
abbrev zkM_length : ByteArray := prog_8_method_15_code
abbrev zyM_length : MethodName := ⟨zRM, "length", "()I"⟩
abbrev zwM_length : List Cond := .code zyM_length zkM_length 1 (some .int) :: si_tbl
theorem zcM_length : Cond.code zyM_length zkM_length 1 (some .int) ∈ si_tbl := si_in 450 (by decide +kernel)
theorem zimM_length : Cond.instanceMethod zyM_length ∈ si_tbl := si_in 448 (by decide +kernel)
theorem zseM_length : Cond.selects zRM zyM_length zyM_length ∈ si_tbl := si_in 449 (by decide +kernel)
abbrev zkM_rate : ByteArray := prog_8_method_16_code
abbrev zyM_rate : MethodName := ⟨zRM, "rate", "()I"⟩
abbrev zwM_rate : List Cond := .code zyM_rate zkM_rate 1 (some .int) :: si_tbl
theorem zcM_rate : Cond.code zyM_rate zkM_rate 1 (some .int) ∈ si_tbl := si_in 454 (by decide +kernel)
theorem zimM_rate : Cond.instanceMethod zyM_rate ∈ si_tbl := si_in 452 (by decide +kernel)
theorem zseM_rate : Cond.selects zRM zyM_rate zyM_rate ∈ si_tbl := si_in 453 (by decide +kernel)
abbrev zkM_place : ByteArray := prog_8_method_17_code
abbrev zyM_place : MethodName := ⟨zRM, "place", "(I)Z"⟩
abbrev zwM_place : List Cond := .code zyM_place zkM_place 2 (some .boolean) :: si_tbl
theorem zcM_place : Cond.code zyM_place zkM_place 2 (some .boolean) ∈ si_tbl := si_in 462 (by decide +kernel)
theorem zimM_place : Cond.instanceMethod zyM_place ∈ si_tbl := si_in 461 (by decide +kernel)
theorem zseM_place : Cond.selects zRM zyM_place zyM_place ∈ si_tbl := si_ins (by decide +kernel)
abbrev zkM_charAt : ByteArray := prog_8_method_18_code
abbrev zyM_charAt : MethodName := ⟨zRM, "charAt", "(I)I"⟩
abbrev zwM_charAt : List Cond := .code zyM_charAt zkM_charAt 2 (some .int) :: si_tbl
theorem zcM_charAt : Cond.code zyM_charAt zkM_charAt 2 (some .int) ∈ si_tbl := si_in 458 (by decide +kernel)
theorem zimM_charAt : Cond.instanceMethod zyM_charAt ∈ si_tbl := si_in 456 (by decide +kernel)
theorem zseM_charAt : Cond.selects zRM zyM_charAt zyM_charAt ∈ si_tbl := si_in 457 (by decide +kernel)
abbrev zkM_rowOf : ByteArray := prog_8_method_19_code
abbrev zyM_rowOf : MethodName := ⟨zRM, "rowOf", "(I)I"⟩
abbrev zwM_rowOf : List Cond := .code zyM_rowOf zkM_rowOf 2 (some .int) :: si_tbl
theorem zcM_rowOf : Cond.code zyM_rowOf zkM_rowOf 2 (some .int) ∈ si_tbl := si_in 466 (by decide +kernel)
theorem zimM_rowOf : Cond.instanceMethod zyM_rowOf ∈ si_tbl := si_in 464 (by decide +kernel)
theorem zseM_rowOf : Cond.selects zRM zyM_rowOf zyM_rowOf ∈ si_tbl := si_in 465 (by decide +kernel)
abbrev zkM_placeOf : ByteArray := prog_8_method_20_code
abbrev zyM_placeOf : MethodName := ⟨zRM, "placeOf", "(I)I"⟩
abbrev zwM_placeOf : List Cond := .code zyM_placeOf zkM_placeOf 2 (some .int) :: si_tbl
theorem zcM_placeOf : Cond.code zyM_placeOf zkM_placeOf 2 (some .int) ∈ si_tbl := si_in 470 (by decide +kernel)
theorem zimM_placeOf : Cond.instanceMethod zyM_placeOf ∈ si_tbl := si_in 468 (by decide +kernel)
theorem zseM_placeOf : Cond.selects zRM zyM_placeOf zyM_placeOf ∈ si_tbl := si_in 469 (by decide +kernel)
abbrev zkM_ask : ByteArray := prog_8_method_21_code
abbrev zyM_ask : MethodName := ⟨zRM, "ask", "(C)Z"⟩
abbrev zwM_ask : List Cond := .code zyM_ask zkM_ask 2 (some .boolean) :: si_tbl
theorem zcM_ask : Cond.code zyM_ask zkM_ask 2 (some .boolean) ∈ si_tbl := si_in 474 (by decide +kernel)
theorem zimM_ask : Cond.instanceMethod zyM_ask ∈ si_tbl := si_in 472 (by decide +kernel)
theorem zseM_ask : Cond.selects zRM zyM_ask zyM_ask ∈ si_tbl := si_in 473 (by decide +kernel)
abbrev zkM_back : ByteArray := prog_8_method_22_code
abbrev zyM_back : MethodName := ⟨zRM, "back", "()Z"⟩
abbrev zwM_back : List Cond := .code zyM_back zkM_back 1 (some .boolean) :: si_tbl
theorem zcM_back : Cond.code zyM_back zkM_back 1 (some .boolean) ∈ si_tbl := si_in 478 (by decide +kernel)
theorem zimM_back : Cond.instanceMethod zyM_back ∈ si_tbl := si_in 476 (by decide +kernel)
theorem zseM_back : Cond.selects zRM zyM_back zyM_back ∈ si_tbl := si_in 477 (by decide +kernel)
abbrev zkM_occurs : ByteArray := prog_8_method_23_code
abbrev zyM_occurs : MethodName := ⟨zRM, "occurs", "(I)Z"⟩
abbrev zwM_occurs : List Cond := .code zyM_occurs zkM_occurs 3 (some .boolean) :: si_tbl
theorem zcM_occurs : Cond.code zyM_occurs zkM_occurs 3 (some .boolean) ∈ si_tbl := si_in 486 (by decide +kernel)
theorem zimM_occurs : Cond.instanceMethod zyM_occurs ∈ si_tbl := si_in 485 (by decide +kernel)
theorem zseM_occurs : Cond.selects zRM zyM_occurs zyM_occurs ∈ si_tbl := si_ins (by decide +kernel)
abbrev zkM_count : ByteArray := prog_8_method_24_code
abbrev zyM_count : MethodName := ⟨zRM, "count", "()I"⟩
abbrev zwM_count : List Cond := .code zyM_count zkM_count 3 (some .int) :: si_tbl
theorem zcM_count : Cond.code zyM_count zkM_count 3 (some .int) ∈ si_tbl := si_in 482 (by decide +kernel)
theorem zimM_count : Cond.instanceMethod zyM_count ∈ si_tbl := si_in 480 (by decide +kernel)
theorem zseM_count : Cond.selects zRM zyM_count zyM_count ∈ si_tbl := si_in 481 (by decide +kernel)
abbrev zkM_firstRow : ByteArray := prog_8_method_25_code
abbrev zyM_firstRow : MethodName := ⟨zRM, "firstRow", "()I"⟩
abbrev zwM_firstRow : List Cond := .code zyM_firstRow zkM_firstRow 3 (some .int) :: si_tbl
theorem zcM_firstRow : Cond.code zyM_firstRow zkM_firstRow 3 (some .int) ∈ si_tbl := si_in 490 (by decide +kernel)
theorem zimM_firstRow : Cond.instanceMethod zyM_firstRow ∈ si_tbl := si_in 488 (by decide +kernel)
theorem zseM_firstRow : Cond.selects zRM zyM_firstRow zyM_firstRow ∈ si_tbl := si_in 489 (by decide +kernel)
abbrev zkM_locate : ByteArray := prog_8_method_26_code
abbrev zyM_locate : MethodName := ⟨zRM, "locate", "(I)I"⟩
abbrev zwM_locate : List Cond := .code zyM_locate zkM_locate 4 (some .int) :: si_tbl
theorem zcM_locate : Cond.code zyM_locate zkM_locate 4 (some .int) ∈ si_tbl := si_in 494 (by decide +kernel)
theorem zimM_locate : Cond.instanceMethod zyM_locate ∈ si_tbl := si_in 492 (by decide +kernel)
theorem zseM_locate : Cond.selects zRM zyM_locate zyM_locate ∈ si_tbl := si_in 493 (by decide +kernel)
abbrev zkM_variety : ByteArray := prog_8_method_27_code
abbrev zyM_variety : MethodName := ⟨zRM, "variety", "()I"⟩
abbrev zwM_variety : List Cond := .code zyM_variety zkM_variety 5 (some .int) :: si_tbl
theorem zcM_variety : Cond.code zyM_variety zkM_variety 5 (some .int) ∈ si_tbl := si_in 498 (by decide +kernel)
theorem zimM_variety : Cond.instanceMethod zyM_variety ∈ si_tbl := si_in 496 (by decide +kernel)
theorem zseM_variety : Cond.selects zRM zyM_variety zyM_variety ∈ si_tbl := si_in 497 (by decide +kernel)
abbrev zkB_init : ByteArray := prog_2_method_1_code
abbrev zyB_init : MethodName := ⟨zRB, "<init>", "()V"⟩
abbrev zwB_init : List Cond := .code zyB_init zkB_init 1 none :: si_tbl
theorem zcB_init : Cond.code zyB_init zkB_init 1 none ∈ si_tbl := si_in 50 (by decide +kernel)
theorem zimB_init : Cond.instanceMethod zyB_init ∈ si_tbl := si_in 49 (by decide +kernel)
abbrev zkB_takeFrom : ByteArray := prog_2_method_2_code
abbrev zyB_takeFrom : MethodName := ⟨zRB, "takeFrom", "(LSelfIndexImage$Line;LSelfIndexImage$Suffixes;)V"⟩
abbrev zwB_takeFrom : List Cond := .code zyB_takeFrom zkB_takeFrom 4 none :: si_tbl
theorem zcB_takeFrom : Cond.code zyB_takeFrom zkB_takeFrom 4 none ∈ si_tbl := si_in 181 (by decide +kernel)
theorem zimB_takeFrom : Cond.instanceMethod zyB_takeFrom ∈ si_tbl := si_in 179 (by decide +kernel)
theorem zseB_takeFrom : Cond.selects zRB zyB_takeFrom zyB_takeFrom ∈ si_tbl := si_in 180 (by decide +kernel)
abbrev zkB_drawLevels : ByteArray := prog_2_method_3_code
abbrev zyB_drawLevels : MethodName := ⟨zRB, "drawLevels", "(LSelfIndexImage$Image;)V"⟩
abbrev zwB_drawLevels : List Cond := .code zyB_drawLevels zkB_drawLevels 8 none :: si_tbl
theorem zcB_drawLevels : Cond.code zyB_drawLevels zkB_drawLevels 8 none ∈ si_tbl := si_in 190 (by decide +kernel)
theorem zimB_drawLevels : Cond.instanceMethod zyB_drawLevels ∈ si_tbl := si_in 188 (by decide +kernel)
theorem zseB_drawLevels : Cond.selects zRB zyB_drawLevels zyB_drawLevels ∈ si_tbl := si_in 189 (by decide +kernel)
abbrev zkB_readLevels : ByteArray := prog_2_method_4_code
abbrev zyB_readLevels : MethodName := ⟨zRB, "readLevels", "(LSelfIndexImage$Image;I)V"⟩
abbrev zwB_readLevels : List Cond := .code zyB_readLevels zkB_readLevels 8 none :: si_tbl
theorem zcB_readLevels : Cond.code zyB_readLevels zkB_readLevels 8 none ∈ si_tbl := si_in 240 (by decide +kernel)
theorem zimB_readLevels : Cond.instanceMethod zyB_readLevels ∈ si_tbl := si_in 238 (by decide +kernel)
theorem zseB_readLevels : Cond.selects zRB zyB_readLevels zyB_readLevels ∈ si_tbl := si_in 239 (by decide +kernel)
abbrev zkB_spell : ByteArray := prog_2_method_5_code
abbrev zyB_spell : MethodName := ⟨zRB, "spell", "(LSelfIndexImage$Line;)Z"⟩
abbrev zwB_spell : List Cond := .code zyB_spell zkB_spell 4 (some .boolean) :: si_tbl
theorem zcB_spell : Cond.code zyB_spell zkB_spell 4 (some .boolean) ∈ si_tbl := si_in 244 (by decide +kernel)
theorem zimB_spell : Cond.instanceMethod zyB_spell ∈ si_tbl := si_in 242 (by decide +kernel)
theorem zseB_spell : Cond.selects zRB zyB_spell zyB_spell ∈ si_tbl := si_in 243 (by decide +kernel)
abbrev zkB_rowBefore : ByteArray := prog_2_method_6_code
abbrev zyB_rowBefore : MethodName := ⟨zRB, "rowBefore", "(I)I"⟩
abbrev zwB_rowBefore : List Cond := .code zyB_rowBefore zkB_rowBefore 4 (some .int) :: si_tbl
theorem zcB_rowBefore : Cond.code zyB_rowBefore zkB_rowBefore 4 (some .int) ∈ si_tbl := si_in 248 (by decide +kernel)
theorem zimB_rowBefore : Cond.instanceMethod zyB_rowBefore ∈ si_tbl := si_in 247 (by decide +kernel)
theorem zseB_rowBefore : Cond.selects zRB zyB_rowBefore zyB_rowBefore ∈ si_tbl := si_ins (by decide +kernel)
abbrev zkB_startOrder : ByteArray := prog_2_method_7_code
abbrev zyB_startOrder : MethodName := ⟨zRB, "startOrder", "()V"⟩
abbrev zwB_startOrder : List Cond := .code zyB_startOrder zkB_startOrder 2 none :: si_tbl
theorem zcB_startOrder : Cond.code zyB_startOrder zkB_startOrder 2 none ∈ si_tbl := si_in 194 (by decide +kernel)
theorem zimB_startOrder : Cond.instanceMethod zyB_startOrder ∈ si_tbl := si_in 193 (by decide +kernel)
theorem zseB_startOrder : Cond.selects zRB zyB_startOrder zyB_startOrder ∈ si_tbl := si_ins (by decide +kernel)
abbrev zkB_partOrder : ByteArray := prog_2_method_8_code
abbrev zyB_partOrder : MethodName := ⟨zRB, "partOrder", "(J)V"⟩
abbrev zwB_partOrder : List Cond := .code zyB_partOrder zkB_partOrder 6 none :: si_tbl
theorem zcB_partOrder : Cond.code zyB_partOrder zkB_partOrder 6 none ∈ si_tbl := si_in 198 (by decide +kernel)
theorem zimB_partOrder : Cond.instanceMethod zyB_partOrder ∈ si_tbl := si_in 197 (by decide +kernel)
theorem zseB_partOrder : Cond.selects zRB zyB_partOrder zyB_partOrder ∈ si_tbl := si_ins (by decide +kernel)
abbrev zkI_init : ByteArray := prog_3_method_1_code
abbrev zyI_init : MethodName := ⟨zRI, "<init>", "()V"⟩
abbrev zwI_init : List Cond := .code zyI_init zkI_init 1 none :: si_tbl
theorem zcI_init : Cond.code zyI_init zkI_init 1 none ∈ si_tbl := si_in 37 (by decide +kernel)
theorem zimI_init : Cond.instanceMethod zyI_init ∈ si_tbl := si_in 36 (by decide +kernel)
abbrev zkI_isSameAs : ByteArray := prog_3_method_2_code
abbrev zyI_isSameAs : MethodName := ⟨zRI, "isSameAs", "(LSelfIndexImage$Image;)Z"⟩
abbrev zwI_isSameAs : List Cond := .code zyI_isSameAs zkI_isSameAs 3 (some .boolean) :: si_tbl
theorem zcI_isSameAs : Cond.code zyI_isSameAs zkI_isSameAs 3 (some .boolean) ∈ si_tbl := si_in 254 (by decide +kernel)
theorem zimI_isSameAs : Cond.instanceMethod zyI_isSameAs ∈ si_tbl := si_in 252 (by decide +kernel)
theorem zseI_isSameAs : Cond.selects zRI zyI_isSameAs zyI_isSameAs ∈ si_tbl := si_in 253 (by decide +kernel)
abbrev zkI_draw : ByteArray := prog_3_method_3_code
abbrev zyI_draw : MethodName := ⟨zRI, "draw", "(LSelfIndexImage$Befores;LSelfIndexImage$Suffixes;I)V"⟩
abbrev zwI_draw : List Cond := .code zyI_draw zkI_draw 5 none :: si_tbl
theorem zcI_draw : Cond.code zyI_draw zkI_draw 5 none ∈ si_tbl := si_in 186 (by decide +kernel)
theorem zimI_draw : Cond.instanceMethod zyI_draw ∈ si_tbl := si_in 184 (by decide +kernel)
theorem zseI_draw : Cond.selects zRI zyI_draw zyI_draw ∈ si_tbl := si_in 185 (by decide +kernel)
abbrev zkI_drawMarkedRows : ByteArray := prog_3_method_4_code
abbrev zyI_drawMarkedRows : MethodName := ⟨zRI, "drawMarkedRows", "(LSelfIndexImage$Suffixes;I)V"⟩
abbrev zwI_drawMarkedRows : List Cond := .code zyI_drawMarkedRows zkI_drawMarkedRows 6 none :: si_tbl
theorem zcI_drawMarkedRows : Cond.code zyI_drawMarkedRows zkI_drawMarkedRows 6 none ∈ si_tbl := si_in 202 (by decide +kernel)
theorem zimI_drawMarkedRows : Cond.instanceMethod zyI_drawMarkedRows ∈ si_tbl := si_in 201 (by decide +kernel)
theorem zseI_drawMarkedRows : Cond.selects zRI zyI_drawMarkedRows zyI_drawMarkedRows ∈ si_tbl := si_ins (by decide +kernel)
abbrev zkI_drawRowsOfPlaces : ByteArray := prog_3_method_5_code
abbrev zyI_drawRowsOfPlaces : MethodName := ⟨zRI, "drawRowsOfPlaces", "(LSelfIndexImage$Suffixes;I)V"⟩
abbrev zwI_drawRowsOfPlaces : List Cond := .code zyI_drawRowsOfPlaces zkI_drawRowsOfPlaces 5 none :: si_tbl
theorem zcI_drawRowsOfPlaces : Cond.code zyI_drawRowsOfPlaces zkI_drawRowsOfPlaces 5 none ∈ si_tbl := si_in 210 (by decide +kernel)
theorem zimI_drawRowsOfPlaces : Cond.instanceMethod zyI_drawRowsOfPlaces ∈ si_tbl := si_in 209 (by decide +kernel)
theorem zseI_drawRowsOfPlaces : Cond.selects zRI zyI_drawRowsOfPlaces zyI_drawRowsOfPlaces ∈ si_tbl := si_ins (by decide +kernel)
abbrev zkI_drawNumber : ByteArray := prog_3_method_6_code
abbrev zyI_drawNumber : MethodName := ⟨zRI, "drawNumber", "(IIJ)V"⟩
abbrev zwI_drawNumber : List Cond := .code zyI_drawNumber zkI_drawNumber 6 none :: si_tbl
theorem zcI_drawNumber : Cond.code zyI_drawNumber zkI_drawNumber 6 none ∈ si_tbl := si_in 206 (by decide +kernel)
theorem zimI_drawNumber : Cond.instanceMethod zyI_drawNumber ∈ si_tbl := si_in 205 (by decide +kernel)
theorem zseI_drawNumber : Cond.selects zRI zyI_drawNumber zyI_drawNumber ∈ si_tbl := si_ins (by decide +kernel)
abbrev zkL_init : ByteArray := prog_4_method_1_code
abbrev zyL_init : MethodName := ⟨zRL, "<init>", "(I)V"⟩
abbrev zwL_init : List Cond := .code zyL_init zkL_init 2 none :: si_tbl
theorem zcL_init : Cond.code zyL_init zkL_init 2 none ∈ si_tbl := si_in 21 (by decide +kernel)
theorem zimL_init : Cond.instanceMethod zyL_init ∈ si_tbl := si_in 20 (by decide +kernel)
abbrev zkL_add : ByteArray := prog_4_method_2_code
abbrev zyL_add : MethodName := ⟨zRL, "add", "(I)Z"⟩
abbrev zwL_add : List Cond := .code zyL_add zkL_add 2 (some .boolean) :: si_tbl
theorem zcL_add : Cond.code zyL_add zkL_add 2 (some .boolean) ∈ si_tbl := si_in 141 (by decide +kernel)
theorem zimL_add : Cond.instanceMethod zyL_add ∈ si_tbl := si_in 139 (by decide +kernel)
theorem zseL_add : Cond.selects zRL zyL_add zyL_add ∈ si_tbl := si_in 140 (by decide +kernel)
abbrev zkL_dropLast : ByteArray := prog_4_method_3_code
abbrev zyL_dropLast : MethodName := ⟨zRL, "dropLast", "()Z"⟩
abbrev zwL_dropLast : List Cond := .code zyL_dropLast zkL_dropLast 1 (some .boolean) :: si_tbl
theorem zcL_dropLast : Cond.code zyL_dropLast zkL_dropLast 1 (some .boolean) ∈ si_tbl := si_in 295 (by decide +kernel)
theorem zimL_dropLast : Cond.instanceMethod zyL_dropLast ∈ si_tbl := si_in 293 (by decide +kernel)
theorem zseL_dropLast : Cond.selects zRL zyL_dropLast zyL_dropLast ∈ si_tbl := si_in 294 (by decide +kernel)
abbrev zkL_clear : ByteArray := prog_4_method_4_code
abbrev zyL_clear : MethodName := ⟨zRL, "clear", "()V"⟩
abbrev zwL_clear : List Cond := .code zyL_clear zkL_clear 1 none :: si_tbl
theorem zcL_clear : Cond.code zyL_clear zkL_clear 1 none ∈ si_tbl := si_in 149 (by decide +kernel)
theorem zimL_clear : Cond.instanceMethod zyL_clear ∈ si_tbl := si_in 147 (by decide +kernel)
theorem zseL_clear : Cond.selects zRL zyL_clear zyL_clear ∈ si_tbl := si_in 148 (by decide +kernel)
abbrev zkL_codeAt : ByteArray := prog_4_method_5_code
abbrev zyL_codeAt : MethodName := ⟨zRL, "codeAt", "(I)I"⟩
abbrev zwL_codeAt : List Cond := .code zyL_codeAt zkL_codeAt 2 (some .int) :: si_tbl
theorem zcL_codeAt : Cond.code zyL_codeAt zkL_codeAt 2 (some .int) ∈ si_tbl := si_in 177 (by decide +kernel)
theorem zimL_codeAt : Cond.instanceMethod zyL_codeAt ∈ si_tbl := si_in 175 (by decide +kernel)
theorem zseL_codeAt : Cond.selects zRL zyL_codeAt zyL_codeAt ∈ si_tbl := si_in 176 (by decide +kernel)
abbrev zkL_hasAt : ByteArray := prog_4_method_6_code
abbrev zyL_hasAt : MethodName := ⟨zRL, "hasAt", "(LSelfIndexImage$Line;I)Z"⟩
abbrev zwL_hasAt : List Cond := .code zyL_hasAt zkL_hasAt 4 (some .boolean) :: si_tbl
theorem zcL_hasAt : Cond.code zyL_hasAt zkL_hasAt 4 (some .boolean) ∈ si_tbl := si_in 307 (by decide +kernel)
theorem zimL_hasAt : Cond.instanceMethod zyL_hasAt ∈ si_tbl := si_in 305 (by decide +kernel)
theorem zseL_hasAt : Cond.selects zRL zyL_hasAt zyL_hasAt ∈ si_tbl := si_in 306 (by decide +kernel)
abbrev zkR_init : ByteArray := prog_5_method_1_code
abbrev zyR_init : MethodName := ⟨zRR, "<init>", "()V"⟩
abbrev zwR_init : List Cond := .code zyR_init zkR_init 1 none :: si_tbl
theorem zcR_init : Cond.code zyR_init zkR_init 1 none ∈ si_tbl := si_in 72 (by decide +kernel)
theorem zimR_init : Cond.instanceMethod zyR_init ∈ si_tbl := si_in 71 (by decide +kernel)
abbrev zkS_init : ByteArray := prog_6_method_1_code
abbrev zyS_init : MethodName := ⟨zRS, "<init>", "()V"⟩
abbrev zwS_init : List Cond := .code zyS_init zkS_init 1 none :: si_tbl
theorem zcS_init : Cond.code zyS_init zkS_init 1 none ∈ si_tbl := si_in 80 (by decide +kernel)
theorem zimS_init : Cond.instanceMethod zyS_init ∈ si_tbl := si_in 79 (by decide +kernel)
abbrev zkS_sort : ByteArray := prog_6_method_2_code
abbrev zyS_sort : MethodName := ⟨zRS, "sort", "(LSelfIndexImage$Line;)V"⟩
abbrev zwS_sort : List Cond := .code zyS_sort zkS_sort 3 none :: si_tbl
theorem zcS_sort : Cond.code zyS_sort zkS_sort 3 none ∈ si_tbl := si_in 165 (by decide +kernel)
theorem zimS_sort : Cond.instanceMethod zyS_sort ∈ si_tbl := si_in 163 (by decide +kernel)
theorem zseS_sort : Cond.selects zRS zyS_sort zyS_sort ∈ si_tbl := si_in 164 (by decide +kernel)
abbrev zkS_insert : ByteArray := prog_6_method_3_code
abbrev zyS_insert : MethodName := ⟨zRS, "insert", "(LSelfIndexImage$Line;I)V"⟩
abbrev zwS_insert : List Cond := .code zyS_insert zkS_insert 5 none :: si_tbl
theorem zcS_insert : Cond.code zyS_insert zkS_insert 5 none ∈ si_tbl := si_in 169 (by decide +kernel)
theorem zimS_insert : Cond.instanceMethod zyS_insert ∈ si_tbl := si_in 168 (by decide +kernel)
theorem zseS_insert : Cond.selects zRS zyS_insert zyS_insert ∈ si_tbl := si_ins (by decide +kernel)
abbrev zkS_isSmaller : ByteArray := prog_6_method_4_code
abbrev zyS_isSmaller : MethodName := ⟨zRS, "isSmaller", "(LSelfIndexImage$Line;II)Z"⟩
abbrev zwS_isSmaller : List Cond := .code zyS_isSmaller zkS_isSmaller 6 (some .boolean) :: si_tbl
theorem zcS_isSmaller : Cond.code zyS_isSmaller zkS_isSmaller 6 (some .boolean) ∈ si_tbl := si_in 173 (by decide +kernel)
theorem zimS_isSmaller : Cond.instanceMethod zyS_isSmaller ∈ si_tbl := si_in 172 (by decide +kernel)
theorem zseS_isSmaller : Cond.selects zRS zyS_isSmaller zyS_isSmaller ∈ si_tbl := si_ins (by decide +kernel)
abbrev zkJ_bitCount : ByteArray := prog_9_method_50_code
abbrev zyJ_bitCount : MethodName := ⟨zRJ, "bitCount", "(J)I"⟩
abbrev zwJ_bitCount : List Cond := .code zyJ_bitCount zkJ_bitCount 2 (some .int) :: si_tbl
theorem zcJ_bitCount : Cond.code zyJ_bitCount zkJ_bitCount 2 (some .int) ∈ si_tbl := si_in 323 (by decide +kernel)
theorem zstJ_bitCount : Cond.static zyJ_bitCount ∈ si_tbl := si_in 322 (by decide +kernel)
theorem zlW_9 : Cond.methodLink zRW 9 zyX_init ∈ si_tbl := si_in 11 (by decide +kernel)
theorem zlX_3 : Cond.methodLink zRX 3 Lib.objectInit ∈ si_tbl := si_in 14 (by decide +kernel)
theorem zlX_11 : Cond.methodLink zRX 11 zyL_init ∈ si_tbl := si_in 19 (by decide +kernel)
theorem zlL_3 : Cond.methodLink zRL 3 Lib.objectInit ∈ si_tbl := si_in 22 (by decide +kernel)
theorem zlX_23 : Cond.methodLink zRX 23 zyI_init ∈ si_tbl := si_in 35 (by decide +kernel)
theorem zlI_3 : Cond.methodLink zRI 3 Lib.objectInit ∈ si_tbl := si_in 38 (by decide +kernel)
theorem zlX_33 : Cond.methodLink zRX 33 zyB_init ∈ si_tbl := si_in 48 (by decide +kernel)
theorem zlB_3 : Cond.methodLink zRB 3 Lib.objectInit ∈ si_tbl := si_in 51 (by decide +kernel)
theorem zlX_40 : Cond.methodLink zRX 40 zyR_init ∈ si_tbl := si_in 70 (by decide +kernel)
theorem zlR_3 : Cond.methodLink zRR 3 Lib.objectInit ∈ si_tbl := si_in 73 (by decide +kernel)
theorem zlR_11 : Cond.methodLink zRR 11 zyL_init ∈ si_tbl := si_in 75 (by decide +kernel)
theorem zlR_22 : Cond.methodLink zRR 22 zyS_init ∈ si_tbl := si_in 78 (by decide +kernel)
theorem zlS_3 : Cond.methodLink zRS 3 Lib.objectInit ∈ si_tbl := si_in 81 (by decide +kernel)
theorem zlW_13 : Cond.methodLink zRW 13 zyX_write ∈ si_tbl := si_in 134 (by decide +kernel)
theorem zlX_48 : Cond.methodLink zRX 48 zyL_add ∈ si_tbl := si_in 138 (by decide +kernel)
theorem zlW_18 : Cond.methodLink zRW 18 zyX_erase ∈ si_tbl := si_in 142 (by decide +kernel)
theorem zlX_52 : Cond.methodLink zRX 52 zyL_clear ∈ si_tbl := si_in 146 (by decide +kernel)
theorem zlW_22 : Cond.methodLink zRW 22 zyX_build ∈ si_tbl := si_in 150 (by decide +kernel)
theorem zlX_55 : Cond.methodLink zRX 55 zyX_isRate ∈ si_tbl := si_in 154 (by decide +kernel)
theorem zlX_59 : Cond.methodLink zRX 59 zyX_draw ∈ si_tbl := si_in 158 (by decide +kernel)
theorem zlX_129 : Cond.methodLink zRX 129 zyS_sort ∈ si_tbl := si_in 162 (by decide +kernel)
theorem zlS_27 : Cond.methodLink zRS 27 zyS_insert ∈ si_tbl := si_in 166 (by decide +kernel)
theorem zlS_31 : Cond.methodLink zRS 31 zyS_isSmaller ∈ si_tbl := si_in 170 (by decide +kernel)
theorem zlS_35 : Cond.methodLink zRS 35 zyL_codeAt ∈ si_tbl := si_in 174 (by decide +kernel)
theorem zlX_133 : Cond.methodLink zRX 133 zyB_takeFrom ∈ si_tbl := si_in 178 (by decide +kernel)
theorem zlB_34 : Cond.methodLink zRB 34 zyL_codeAt ∈ si_tbl := si_in 182 (by decide +kernel)
theorem zlX_137 : Cond.methodLink zRX 137 zyI_draw ∈ si_tbl := si_in 183 (by decide +kernel)
theorem zlI_21 : Cond.methodLink zRI 21 zyB_drawLevels ∈ si_tbl := si_in 187 (by decide +kernel)
theorem zlB_40 : Cond.methodLink zRB 40 zyB_startOrder ∈ si_tbl := si_in 191 (by decide +kernel)
theorem zlB_49 : Cond.methodLink zRB 49 zyB_partOrder ∈ si_tbl := si_in 195 (by decide +kernel)
theorem zlI_27 : Cond.methodLink zRI 27 zyI_drawMarkedRows ∈ si_tbl := si_in 199 (by decide +kernel)
theorem zlI_38 : Cond.methodLink zRI 38 zyI_drawNumber ∈ si_tbl := si_in 203 (by decide +kernel)
theorem zlI_31 : Cond.methodLink zRI 31 zyI_drawRowsOfPlaces ∈ si_tbl := si_in 207 (by decide +kernel)
theorem zlW_27 : Cond.methodLink zRW 27 zyX_word ∈ si_tbl := si_in 211 (by decide +kernel)
theorem zlX_63 : Cond.methodLink zRX 63 zyX_isWord ∈ si_tbl := si_in 215 (by decide +kernel)
theorem zlW_34 : Cond.methodLink zRW 34 zyX_put ∈ si_tbl := si_in 218 (by decide +kernel)
theorem zlW_39 : Cond.methodLink zRW 39 zyX_flip ∈ si_tbl := si_in 222 (by decide +kernel)
theorem zlW_44 : Cond.methodLink zRW 44 zyX_load ∈ si_tbl := si_in 226 (by decide +kernel)
theorem zlX_70 : Cond.methodLink zRX 70 zyX_readDesk ∈ si_tbl := si_in 230 (by decide +kernel)
theorem zlX_146 : Cond.methodLink zRX 146 zyB_readLevels ∈ si_tbl := si_in 237 (by decide +kernel)
theorem zlX_150 : Cond.methodLink zRX 150 zyB_spell ∈ si_tbl := si_in 241 (by decide +kernel)
theorem zlB_53 : Cond.methodLink zRB 53 zyB_rowBefore ∈ si_tbl := si_in 245 (by decide +kernel)
theorem zlB_56 : Cond.methodLink zRB 56 zyL_clear ∈ si_tbl := si_in 249 (by decide +kernel)
theorem zlB_59 : Cond.methodLink zRB 59 zyL_add ∈ si_tbl := si_in 250 (by decide +kernel)
theorem zlX_81 : Cond.methodLink zRX 81 zyI_isSameAs ∈ si_tbl := si_in 251 (by decide +kernel)
theorem zlW_49 : Cond.methodLink zRW 49 zyX_length ∈ si_tbl := si_in 255 (by decide +kernel)
theorem zlX_85 : Cond.methodLink zRX 85 zyX_hasLoaded ∈ si_tbl := si_in 259 (by decide +kernel)
theorem zlW_54 : Cond.methodLink zRW 54 zyX_rate ∈ si_tbl := si_in 263 (by decide +kernel)
theorem zlW_58 : Cond.methodLink zRW 58 zyX_charAt ∈ si_tbl := si_in 267 (by decide +kernel)
theorem zlX_91 : Cond.methodLink zRX 91 zyX_isLoadedPlace ∈ si_tbl := si_in 271 (by decide +kernel)
theorem zlX_94 : Cond.methodLink zRX 94 zyL_codeAt ∈ si_tbl := si_in 275 (by decide +kernel)
theorem zlW_63 : Cond.methodLink zRW 63 zyX_rowOf ∈ si_tbl := si_in 276 (by decide +kernel)
theorem zlW_67 : Cond.methodLink zRW 67 zyX_placeOf ∈ si_tbl := si_in 280 (by decide +kernel)
theorem zlW_71 : Cond.methodLink zRW 71 zyX_ask ∈ si_tbl := si_in 284 (by decide +kernel)
theorem zlW_75 : Cond.methodLink zRW 75 zyX_back ∈ si_tbl := si_in 288 (by decide +kernel)
theorem zlX_111 : Cond.methodLink zRX 111 zyL_dropLast ∈ si_tbl := si_in 292 (by decide +kernel)
theorem zlW_79 : Cond.methodLink zRW 79 zyX_count ∈ si_tbl := si_in 296 (by decide +kernel)
theorem zlX_114 : Cond.methodLink zRX 114 zyX_occursAt ∈ si_tbl := si_in 300 (by decide +kernel)
theorem zlX_125 : Cond.methodLink zRX 125 zyL_hasAt ∈ si_tbl := si_in 304 (by decide +kernel)
theorem zlL_19 : Cond.methodLink zRL 19 zyL_codeAt ∈ si_tbl := si_in 308 (by decide +kernel)
theorem zlW_83 : Cond.methodLink zRW 83 zyX_firstRow ∈ si_tbl := si_in 309 (by decide +kernel)
theorem zlW_87 : Cond.methodLink zRW 87 zyX_locate ∈ si_tbl := si_in 313 (by decide +kernel)
theorem zlW_91 : Cond.methodLink zRW 91 zyX_variety ∈ si_tbl := si_in 317 (by decide +kernel)
theorem zlX_117 : Cond.methodLink zRX 117 zyJ_bitCount ∈ si_tbl := si_in 321 (by decide +kernel)
theorem zlW_12 : Cond.methodLink zRW 12 zyM_init ∈ si_tbl := si_in 329 (by decide +kernel)
theorem zlM_1 : Cond.methodLink zRM 1 Lib.objectInit ∈ si_tbl := si_in 332 (by decide +kernel)
theorem zlW_17 : Cond.methodLink zRW 17 zyM_write ∈ si_tbl := si_in 391 (by decide +kernel)
theorem zlW_21 : Cond.methodLink zRW 21 zyM_erase ∈ si_tbl := si_in 395 (by decide +kernel)
theorem zlW_31 : Cond.methodLink zRW 31 zyM_word ∈ si_tbl := si_in 399 (by decide +kernel)
theorem zlW_38 : Cond.methodLink zRW 38 zyM_put ∈ si_tbl := si_in 403 (by decide +kernel)
theorem zlW_43 : Cond.methodLink zRW 43 zyM_flip ∈ si_tbl := si_in 407 (by decide +kernel)
theorem zlW_26 : Cond.methodLink zRW 26 zyM_build ∈ si_tbl := si_in 411 (by decide +kernel)
theorem zlM_69 : Cond.methodLink zRM 69 zyM_picture ∈ si_tbl := si_in 415 (by decide +kernel)
theorem zlM_61 : Cond.methodLink zRM 61 zyM_sort ∈ si_tbl := si_in 419 (by decide +kernel)
theorem zlM_57 : Cond.methodLink zRM 57 zyM_earlier ∈ si_tbl := si_in 423 (by decide +kernel)
theorem zlM_66 : Cond.methodLink zRM 66 zyM_levels ∈ si_tbl := si_in 428 (by decide +kernel)
theorem zlW_48 : Cond.methodLink zRW 48 zyM_load ∈ si_tbl := si_in 432 (by decide +kernel)
theorem zlM_79 : Cond.methodLink zRM 79 zyM_readCodes ∈ si_tbl := si_in 439 (by decide +kernel)
theorem zlM_82 : Cond.methodLink zRM 82 zyM_before ∈ si_tbl := si_in 443 (by decide +kernel)
theorem zlW_53 : Cond.methodLink zRW 53 zyM_length ∈ si_tbl := si_in 447 (by decide +kernel)
theorem zlW_57 : Cond.methodLink zRW 57 zyM_rate ∈ si_tbl := si_in 451 (by decide +kernel)
theorem zlW_62 : Cond.methodLink zRW 62 zyM_charAt ∈ si_tbl := si_in 455 (by decide +kernel)
theorem zlM_96 : Cond.methodLink zRM 96 zyM_place ∈ si_tbl := si_in 459 (by decide +kernel)
theorem zlW_66 : Cond.methodLink zRW 66 zyM_rowOf ∈ si_tbl := si_in 463 (by decide +kernel)
theorem zlW_70 : Cond.methodLink zRW 70 zyM_placeOf ∈ si_tbl := si_in 467 (by decide +kernel)
theorem zlW_74 : Cond.methodLink zRW 74 zyM_ask ∈ si_tbl := si_in 471 (by decide +kernel)
theorem zlW_78 : Cond.methodLink zRW 78 zyM_back ∈ si_tbl := si_in 475 (by decide +kernel)
theorem zlW_82 : Cond.methodLink zRW 82 zyM_count ∈ si_tbl := si_in 479 (by decide +kernel)
theorem zlM_103 : Cond.methodLink zRM 103 zyM_occurs ∈ si_tbl := si_in 483 (by decide +kernel)
theorem zlW_86 : Cond.methodLink zRW 86 zyM_firstRow ∈ si_tbl := si_in 487 (by decide +kernel)
theorem zlW_90 : Cond.methodLink zRW 90 zyM_locate ∈ si_tbl := si_in 491 (by decide +kernel)
theorem zlW_94 : Cond.methodLink zRW 94 zyM_variety ∈ si_tbl := si_in 495 (by decide +kernel)
theorem zlL_9 : Cond.fieldLink zRL 9 zRL "codes" "[I" ∈ si_tbl := si_in 23 (by decide +kernel)
theorem zlL_15 : Cond.fieldLink zRL 15 zRL "size" "I" ∈ si_tbl := si_in 24 (by decide +kernel)
theorem zlS_22 : Cond.fieldLinkNest zRS 22 zRL "size" "I" "SelfIndexImage" ∈ si_nst := si_inN 25 (by decide +kernel)
theorem zlX_88 : Cond.fieldLinkNest zRX 88 zRL "size" "I" "SelfIndexImage" ∈ si_nst := si_inN 26 (by decide +kernel)
theorem zlI_9 : Cond.fieldLink zRI 9 zRI "words" "[J" ∈ si_tbl := si_in 39 (by decide +kernel)
theorem zlB_43 : Cond.fieldLinkNest zRB 43 zRI "words" "[J" "SelfIndexImage" ∈ si_nst := si_inN 40 (by decide +kernel)
theorem zlX_66 : Cond.fieldLinkNest zRX 66 zRI "words" "[J" "SelfIndexImage" ∈ si_nst := si_inN 41 (by decide +kernel)
theorem zlB_9 : Cond.fieldLink zRB 9 zRB "codes" "[I" ∈ si_tbl := si_in 52 (by decide +kernel)
theorem zlB_15 : Cond.fieldLink zRB 15 zRB "order" "[I" ∈ si_tbl := si_in 53 (by decide +kernel)
theorem zlB_18 : Cond.fieldLink zRB 18 zRB "ones" "[I" ∈ si_tbl := si_in 54 (by decide +kernel)
theorem zlB_21 : Cond.fieldLink zRB 21 zRB "following" "[I" ∈ si_tbl := si_in 55 (by decide +kernel)
theorem zlB_24 : Cond.fieldLink zRB 24 zRB "last" "I" ∈ si_tbl := si_in 56 (by decide +kernel)
theorem zlS_9 : Cond.fieldLink zRS 9 zRS "rows" "[I" ∈ si_tbl := si_in 82 (by decide +kernel)
theorem zlI_42 : Cond.fieldLinkNest zRI 42 zRS "rows" "[I" "SelfIndexImage" ∈ si_nst := si_inN 83 (by decide +kernel)
theorem zlX_102 : Cond.fieldLinkNest zRX 102 zRS "rows" "[I" "SelfIndexImage" ∈ si_nst := si_inN 84 (by decide +kernel)
theorem zlS_15 : Cond.fieldLink zRS 15 zRS "places" "[I" ∈ si_tbl := si_in 85 (by decide +kernel)
theorem zlB_31 : Cond.fieldLinkNest zRB 31 zRS "places" "[I" "SelfIndexImage" ∈ si_nst := si_inN 86 (by decide +kernel)
theorem zlI_34 : Cond.fieldLinkNest zRI 34 zRS "places" "[I" "SelfIndexImage" ∈ si_nst := si_inN 87 (by decide +kernel)
theorem zlX_108 : Cond.fieldLinkNest zRX 108 zRS "places" "[I" "SelfIndexImage" ∈ si_nst := si_inN 88 (by decide +kernel)
theorem zlS_18 : Cond.fieldLink zRS 18 zRS "last" "I" ∈ si_tbl := si_in 89 (by decide +kernel)
theorem zlB_28 : Cond.fieldLinkNest zRB 28 zRS "last" "I" "SelfIndexImage" ∈ si_nst := si_inN 90 (by decide +kernel)
theorem zlI_15 : Cond.fieldLinkNest zRI 15 zRS "last" "I" "SelfIndexImage" ∈ si_nst := si_inN 91 (by decide +kernel)
theorem zlR_14 : Cond.fieldLink zRR 14 zRR "text" "LSelfIndexImage$Line;" ∈ si_tbl := si_in 99 (by decide +kernel)
theorem zlX_74 : Cond.fieldLinkNest zRX 74 zRR "text" "LSelfIndexImage$Line;" "SelfIndexImage" ∈ si_nst := si_inN 100 (by decide +kernel)
theorem zlR_23 : Cond.fieldLink zRR 23 zRR "suffixes" "LSelfIndexImage$Suffixes;" ∈ si_tbl := si_in 101 (by decide +kernel)
theorem zlX_98 : Cond.fieldLinkNest zRX 98 zRR "suffixes" "LSelfIndexImage$Suffixes;" "SelfIndexImage" ∈ si_nst := si_inN 102 (by decide +kernel)
theorem zlR_27 : Cond.fieldLink zRR 27 zRR "rate" "I" ∈ si_tbl := si_in 103 (by decide +kernel)
theorem zlX_77 : Cond.fieldLinkNest zRX 77 zRR "rate" "I" "SelfIndexImage" ∈ si_nst := si_inN 104 (by decide +kernel)
theorem zlX_14 : Cond.fieldLink zRX 14 zRX "written" "LSelfIndexImage$Line;" ∈ si_tbl := si_in 112 (by decide +kernel)
theorem zlX_18 : Cond.fieldLink zRX 18 zRX "pattern" "LSelfIndexImage$Line;" ∈ si_tbl := si_in 113 (by decide +kernel)
theorem zlX_24 : Cond.fieldLink zRX 24 zRX "desk" "LSelfIndexImage$Image;" ∈ si_tbl := si_in 114 (by decide +kernel)
theorem zlX_28 : Cond.fieldLink zRX 28 zRX "redrawn" "LSelfIndexImage$Image;" ∈ si_tbl := si_in 115 (by decide +kernel)
theorem zlX_34 : Cond.fieldLink zRX 34 zRX "befores" "LSelfIndexImage$Befores;" ∈ si_tbl := si_in 116 (by decide +kernel)
theorem zlX_41 : Cond.fieldLink zRX 41 zRX "loaded" "LSelfIndexImage$Reading;" ∈ si_tbl := si_in 117 (by decide +kernel)
theorem zlX_45 : Cond.fieldLink zRX 45 zRX "trial" "LSelfIndexImage$Reading;" ∈ si_tbl := si_in 118 (by decide +kernel)
theorem zlM_50 : Cond.fieldLink zRM 50 zRM "size" "I" ∈ si_tbl := si_in 333 (by decide +kernel)
theorem zlM_7 : Cond.fieldLink zRM 7 zRM "written" "[I" ∈ si_tbl := si_in 334 (by decide +kernel)
theorem zlM_13 : Cond.fieldLink zRM 13 zRM "desk" "[J" ∈ si_tbl := si_in 335 (by decide +kernel)
theorem zlM_86 : Cond.fieldLink zRM 86 zRM "there" "Z" ∈ si_tbl := si_in 336 (by decide +kernel)
theorem zlM_90 : Cond.fieldLink zRM 90 zRM "n" "I" ∈ si_tbl := si_in 337 (by decide +kernel)
theorem zlM_17 : Cond.fieldLink zRM 17 zRM "text" "[I" ∈ si_tbl := si_in 338 (by decide +kernel)
theorem zlM_93 : Cond.fieldLink zRM 93 zRM "every" "I" ∈ si_tbl := si_in 339 (by decide +kernel)
theorem zlM_20 : Cond.fieldLink zRM 20 zRM "places" "[I" ∈ si_tbl := si_in 340 (by decide +kernel)
theorem zlM_23 : Cond.fieldLink zRM 23 zRM "rows" "[I" ∈ si_tbl := si_in 341 (by decide +kernel)
theorem zlM_100 : Cond.fieldLink zRM 100 zRM "asked" "I" ∈ si_tbl := si_in 342 (by decide +kernel)
theorem zlM_26 : Cond.fieldLink zRM 26 zRM "pattern" "[I" ∈ si_tbl := si_in 343 (by decide +kernel)
theorem zlM_54 : Cond.fieldLink zRM 54 zRM "m" "I" ∈ si_tbl := si_in 344 (by decide +kernel)
theorem zlM_29 : Cond.fieldLink zRM 29 zRM "work" "[I" ∈ si_tbl := si_in 345 (by decide +kernel)
theorem zlM_32 : Cond.fieldLink zRM 32 zRM "order" "[I" ∈ si_tbl := si_in 346 (by decide +kernel)
theorem zlM_35 : Cond.fieldLink zRM 35 zRM "back" "[I" ∈ si_tbl := si_in 347 (by decide +kernel)
theorem zlM_38 : Cond.fieldLink zRM 38 zRM "image" "[J" ∈ si_tbl := si_in 348 (by decide +kernel)
theorem zlM_41 : Cond.fieldLink zRM 41 zRM "now" "[I" ∈ si_tbl := si_in 349 (by decide +kernel)
theorem zlM_44 : Cond.fieldLink zRM 44 zRM "then" "[I" ∈ si_tbl := si_in 350 (by decide +kernel)
theorem zlM_47 : Cond.fieldLink zRM 47 zRM "code" "[I" ∈ si_tbl := si_in 351 (by decide +kernel)
theorem zlW_7 : Cond.classLink zRW 7 zRX ∈ si_tbl := si_in 9 (by decide +kernel)
theorem zlX_9 : Cond.classLink zRX 9 zRL ∈ si_tbl := si_in 17 (by decide +kernel)
theorem zlX_21 : Cond.classLink zRX 21 zRI ∈ si_tbl := si_in 33 (by decide +kernel)
theorem zlX_31 : Cond.classLink zRX 31 zRB ∈ si_tbl := si_in 46 (by decide +kernel)
theorem zlX_38 : Cond.classLink zRX 38 zRR ∈ si_tbl := si_in 68 (by decide +kernel)
theorem zlR_9 : Cond.classLink zRR 9 zRL ∈ si_tbl := si_in 74 (by decide +kernel)
theorem zlR_20 : Cond.classLink zRR 20 zRS ∈ si_tbl := si_in 76 (by decide +kernel)
theorem zlW_10 : Cond.classLink zRW 10 zRM ∈ si_tbl := si_in 327 (by decide +kernel)
theorem zlX_123 : Cond.constantLong zRX 123 (16) ∈ si_tbl := si_in 157 (by decide +kernel)
theorem zlX_140 : Cond.constantLong zRX 140 (255) ∈ si_tbl := si_in 234 (by decide +kernel)
theorem zlX_142 : Cond.constantLong zRX 142 (256) ∈ si_tbl := si_in 235 (by decide +kernel)
theorem zlX_144 : Cond.constantLong zRX 144 (60) ∈ si_tbl := si_in 236 (by decide +kernel)
theorem zlJ_314 : Cond.constantLong zRJ 314 (6148914691236517205) ∈ si_tbl := si_in 324 (by decide +kernel)
theorem zlJ_316 : Cond.constantLong zRJ 316 (3689348814741910323) ∈ si_tbl := si_in 325 (by decide +kernel)
theorem zlJ_318 : Cond.constantLong zRJ 318 (1085102592571150095) ∈ si_tbl := si_in 326 (by decide +kernel)
theorem zlM_64 : Cond.constantLong zRM 64 (256) ∈ si_tbl := si_in 427 (by decide +kernel)
theorem zlM_73 : Cond.constantLong zRM 73 (16) ∈ si_tbl := si_in 436 (by decide +kernel)
theorem zlM_75 : Cond.constantLong zRM 75 (255) ∈ si_tbl := si_in 437 (by decide +kernel)
theorem zlM_77 : Cond.constantLong zRM 77 (60) ∈ si_tbl := si_in 438 (by decide +kernel)
theorem zlW_32 : Cond.constantLong zRW 32 (4294967295) ∈ si_tbl := si_in 499 (by decide +kernel)
theorem zibX : Cond.instantiable zRX 7 ∈ si_tbl := si_in 10 (by decide +kernel)
theorem zibL : Cond.instantiable zRL 2 ∈ si_tbl := si_in 18 (by decide +kernel)
theorem zibI : Cond.instantiable zRI 1 ∈ si_tbl := si_in 34 (by decide +kernel)
theorem zibB : Cond.instantiable zRB 5 ∈ si_tbl := si_in 47 (by decide +kernel)
theorem zibR : Cond.instantiable zRR 3 ∈ si_tbl := si_in 69 (by decide +kernel)
theorem zibS : Cond.instantiable zRS 3 ∈ si_tbl := si_in 77 (by decide +kernel)
theorem zibM : Cond.instantiable zRM 19 ∈ si_tbl := si_in 328 (by decide +kernel)
theorem zimO : Cond.instanceMethod Lib.objectInit ∈ si_tbl := si_in 15 (by decide +kernel)
theorem zcO : Cond.code Lib.objectInit ⟨#[0xb1]⟩ 1 none ∈ si_tbl := si_in 16 (by decide +kernel)
theorem zac_int : Cond.arrayClass .int ∈ si_tbl := si_in 32 (by decide +kernel)
theorem zac_long : Cond.arrayClass .long ∈ si_tbl := si_in 45 (by decide +kernel)
theorem si_lwg : ∀ w ∈ si_tbl, w ∈ si_tbl ∧ ((w.onTables && w.keeps) = true ∨ ∃ ty, w = .arrayClass ty) := fun w hw => ⟨hw, good_of_word (List.mem_filter.mp hw).2⟩
theorem si_gW {y : MethodName} {b : ByteArray} {k : Nat} {r : Option FieldType} (h : Cond.code y b k r ∈ si_tbl) : GoodIn si_tbl (.code y b k r :: si_tbl) := fun w hw => (List.mem_cons.mp hw).elim (fun e => by subst e; exact si_lwg _ h) (si_lwg w)
theorem si_gV {own C : String} {i : Nat} {y : MethodName} {b : ByteArray} {k : Nat} {r : Option FieldType} (h : Cond.code y b k r ∈ si_tbl) (h1 : Cond.methodLink own i y ∈ si_tbl) (h2 : Cond.instanceMethod y ∈ si_tbl) (h3 : Cond.selects C y y ∈ si_tbl) (h4 : Cond.initialized C ∈ si_tbl) : GoodIn si_tbl (wsV own i C y (.code y b k r :: si_tbl)) := by
  intro w hw
  unfold wsV at hw
  rcases List.mem_append.mp hw with hw | hw
  · simp only [List.mem_cons, List.not_mem_nil, or_false] at hw
    rcases hw with rfl | rfl | rfl | rfl
    · exact si_lwg _ h1
    · exact si_lwg _ h2
    · exact si_lwg _ h3
    · exact si_lwg _ h4
  · exact si_gW h w hw
end
section
/-! Decode rows. Written by wip/draft/gen_names.py -/
theorem zdX_init_0 : decode zkX_init 0 = .ok (.aload_n 0, 1) := by decide +kernel
theorem zdX_init_1 : decode zkX_init 1 = .ok (.invokespecial 3, 3) := by decide +kernel
theorem zdX_init_4 : decode zkX_init 4 = .ok (.aload_n 0, 1) := by decide +kernel
theorem zdX_init_5 : decode zkX_init 5 = .ok (.new 9, 3) := by decide +kernel
theorem zdX_init_8 : decode zkX_init 8 = .ok (.dup, 1) := by decide +kernel
theorem zdX_init_9 : decode zkX_init 9 = .ok (.bipush 60, 2) := by decide +kernel
theorem zdX_init_11 : decode zkX_init 11 = .ok (.invokespecial 11, 3) := by decide +kernel
theorem zdX_init_14 : decode zkX_init 14 = .ok (.putfield 14, 3) := by decide +kernel
theorem zdX_init_17 : decode zkX_init 17 = .ok (.aload_n 0, 1) := by decide +kernel
theorem zdX_init_18 : decode zkX_init 18 = .ok (.new 9, 3) := by decide +kernel
theorem zdX_init_21 : decode zkX_init 21 = .ok (.dup, 1) := by decide +kernel
theorem zdX_init_22 : decode zkX_init 22 = .ok (.bipush 20, 2) := by decide +kernel
theorem zdX_init_24 : decode zkX_init 24 = .ok (.invokespecial 11, 3) := by decide +kernel
theorem zdX_init_27 : decode zkX_init 27 = .ok (.putfield 18, 3) := by decide +kernel
theorem zdX_init_30 : decode zkX_init 30 = .ok (.aload_n 0, 1) := by decide +kernel
theorem zdX_init_31 : decode zkX_init 31 = .ok (.new 21, 3) := by decide +kernel
theorem zdX_init_34 : decode zkX_init 34 = .ok (.dup, 1) := by decide +kernel
theorem zdX_init_35 : decode zkX_init 35 = .ok (.invokespecial 23, 3) := by decide +kernel
theorem zdX_init_38 : decode zkX_init 38 = .ok (.putfield 24, 3) := by decide +kernel
theorem zdX_init_41 : decode zkX_init 41 = .ok (.aload_n 0, 1) := by decide +kernel
theorem zdX_init_42 : decode zkX_init 42 = .ok (.new 21, 3) := by decide +kernel
theorem zdX_init_45 : decode zkX_init 45 = .ok (.dup, 1) := by decide +kernel
theorem zdX_init_46 : decode zkX_init 46 = .ok (.invokespecial 23, 3) := by decide +kernel
theorem zdX_init_49 : decode zkX_init 49 = .ok (.putfield 28, 3) := by decide +kernel
theorem zdX_init_52 : decode zkX_init 52 = .ok (.aload_n 0, 1) := by decide +kernel
theorem zdX_init_53 : decode zkX_init 53 = .ok (.new 31, 3) := by decide +kernel
theorem zdX_init_56 : decode zkX_init 56 = .ok (.dup, 1) := by decide +kernel
theorem zdX_init_57 : decode zkX_init 57 = .ok (.invokespecial 33, 3) := by decide +kernel
theorem zdX_init_60 : decode zkX_init 60 = .ok (.putfield 34, 3) := by decide +kernel
theorem zdX_init_63 : decode zkX_init 63 = .ok (.aload_n 0, 1) := by decide +kernel
theorem zdX_init_64 : decode zkX_init 64 = .ok (.new 38, 3) := by decide +kernel
theorem zdX_init_67 : decode zkX_init 67 = .ok (.dup, 1) := by decide +kernel
theorem zdX_init_68 : decode zkX_init 68 = .ok (.invokespecial 40, 3) := by decide +kernel
theorem zdX_init_71 : decode zkX_init 71 = .ok (.putfield 41, 3) := by decide +kernel
theorem zdX_init_74 : decode zkX_init 74 = .ok (.aload_n 0, 1) := by decide +kernel
theorem zdX_init_75 : decode zkX_init 75 = .ok (.new 38, 3) := by decide +kernel
theorem zdX_init_78 : decode zkX_init 78 = .ok (.dup, 1) := by decide +kernel
theorem zdX_init_79 : decode zkX_init 79 = .ok (.invokespecial 40, 3) := by decide +kernel
theorem zdX_init_82 : decode zkX_init 82 = .ok (.putfield 45, 3) := by decide +kernel
theorem zdX_init_85 : decode zkX_init 85 = .ok (.return_, 1) := by decide +kernel
theorem zdX_write_0 : decode zkX_write 0 = .ok (.aload_n 0, 1) := by decide +kernel
theorem zdX_write_1 : decode zkX_write 1 = .ok (.getfield 14, 3) := by decide +kernel
theorem zdX_write_4 : decode zkX_write 4 = .ok (.iload_n 1, 1) := by decide +kernel
theorem zdX_write_5 : decode zkX_write 5 = .ok (.invokevirtual 48, 3) := by decide +kernel
theorem zdX_write_8 : decode zkX_write 8 = .ok (.ireturn, 1) := by decide +kernel
theorem zdX_erase_0 : decode zkX_erase 0 = .ok (.aload_n 0, 1) := by decide +kernel
theorem zdX_erase_1 : decode zkX_erase 1 = .ok (.getfield 14, 3) := by decide +kernel
theorem zdX_erase_4 : decode zkX_erase 4 = .ok (.invokevirtual 52, 3) := by decide +kernel
theorem zdX_erase_7 : decode zkX_erase 7 = .ok (.return_, 1) := by decide +kernel
theorem zdX_build_0 : decode zkX_build 0 = .ok (.iload_n 1, 1) := by decide +kernel
theorem zdX_build_1 : decode zkX_build 1 = .ok (.i2l, 1) := by decide +kernel
theorem zdX_build_2 : decode zkX_build 2 = .ok (.invokestatic 55, 3) := by decide +kernel
theorem zdX_build_5 : decode zkX_build 5 = .ok (.ifCond .ne 5, 3) := by decide +kernel
theorem zdX_build_8 : decode zkX_build 8 = .ok (.iconst 0, 1) := by decide +kernel
theorem zdX_build_9 : decode zkX_build 9 = .ok (.ireturn, 1) := by decide +kernel
theorem zdX_build_10 : decode zkX_build 10 = .ok (.aload_n 0, 1) := by decide +kernel
theorem zdX_build_11 : decode zkX_build 11 = .ok (.aload_n 0, 1) := by decide +kernel
theorem zdX_build_12 : decode zkX_build 12 = .ok (.getfield 14, 3) := by decide +kernel
theorem zdX_build_15 : decode zkX_build 15 = .ok (.iload_n 1, 1) := by decide +kernel
theorem zdX_build_16 : decode zkX_build 16 = .ok (.aload_n 0, 1) := by decide +kernel
theorem zdX_build_17 : decode zkX_build 17 = .ok (.getfield 24, 3) := by decide +kernel
theorem zdX_build_20 : decode zkX_build 20 = .ok (.invokevirtual 59, 3) := by decide +kernel
theorem zdX_build_23 : decode zkX_build 23 = .ok (.iconst 1, 1) := by decide +kernel
theorem zdX_build_24 : decode zkX_build 24 = .ok (.ireturn, 1) := by decide +kernel
theorem zdX_word_0 : decode zkX_word 0 = .ok (.iload_n 1, 1) := by decide +kernel
theorem zdX_word_1 : decode zkX_word 1 = .ok (.invokestatic 63, 3) := by decide +kernel
theorem zdX_word_4 : decode zkX_word 4 = .ok (.ifCond .eq 15, 3) := by decide +kernel
theorem zdX_word_7 : decode zkX_word 7 = .ok (.aload_n 0, 1) := by decide +kernel
theorem zdX_word_8 : decode zkX_word 8 = .ok (.getfield 24, 3) := by decide +kernel
theorem zdX_word_11 : decode zkX_word 11 = .ok (.getfield 66, 3) := by decide +kernel
theorem zdX_word_14 : decode zkX_word 14 = .ok (.iload_n 1, 1) := by decide +kernel
theorem zdX_word_15 : decode zkX_word 15 = .ok (.laload, 1) := by decide +kernel
theorem zdX_word_16 : decode zkX_word 16 = .ok (.goto 4, 3) := by decide +kernel
theorem zdX_word_19 : decode zkX_word 19 = .ok (.lconst 0, 1) := by decide +kernel
theorem zdX_word_20 : decode zkX_word 20 = .ok (.lreturn, 1) := by decide +kernel
theorem zdX_put_0 : decode zkX_put 0 = .ok (.iload_n 1, 1) := by decide +kernel
theorem zdX_put_1 : decode zkX_put 1 = .ok (.invokestatic 63, 3) := by decide +kernel
theorem zdX_put_4 : decode zkX_put 4 = .ok (.ifCond .ne 5, 3) := by decide +kernel
theorem zdX_put_7 : decode zkX_put 7 = .ok (.iconst 0, 1) := by decide +kernel
theorem zdX_put_8 : decode zkX_put 8 = .ok (.ireturn, 1) := by decide +kernel
theorem zdX_put_9 : decode zkX_put 9 = .ok (.aload_n 0, 1) := by decide +kernel
theorem zdX_put_10 : decode zkX_put 10 = .ok (.getfield 24, 3) := by decide +kernel
theorem zdX_put_13 : decode zkX_put 13 = .ok (.getfield 66, 3) := by decide +kernel
theorem zdX_put_16 : decode zkX_put 16 = .ok (.iload_n 1, 1) := by decide +kernel
theorem zdX_put_17 : decode zkX_put 17 = .ok (.lload_n 2, 1) := by decide +kernel
theorem zdX_put_18 : decode zkX_put 18 = .ok (.lastore, 1) := by decide +kernel
theorem zdX_put_19 : decode zkX_put 19 = .ok (.iconst 1, 1) := by decide +kernel
theorem zdX_put_20 : decode zkX_put 20 = .ok (.ireturn, 1) := by decide +kernel
theorem zdX_flip_0 : decode zkX_flip 0 = .ok (.iload_n 1, 1) := by decide +kernel
theorem zdX_flip_1 : decode zkX_flip 1 = .ok (.invokestatic 63, 3) := by decide +kernel
theorem zdX_flip_4 : decode zkX_flip 4 = .ok (.ifCond .eq 13, 3) := by decide +kernel
theorem zdX_flip_7 : decode zkX_flip 7 = .ok (.iload_n 2, 1) := by decide +kernel
theorem zdX_flip_8 : decode zkX_flip 8 = .ok (.ifCond .lt 9, 3) := by decide +kernel
theorem zdX_flip_11 : decode zkX_flip 11 = .ok (.iload_n 2, 1) := by decide +kernel
theorem zdX_flip_12 : decode zkX_flip 12 = .ok (.bipush 64, 2) := by decide +kernel
theorem zdX_flip_14 : decode zkX_flip 14 = .ok (.if_icmp .lt 5, 3) := by decide +kernel
theorem zdX_flip_17 : decode zkX_flip 17 = .ok (.iconst 0, 1) := by decide +kernel
theorem zdX_flip_18 : decode zkX_flip 18 = .ok (.ireturn, 1) := by decide +kernel
theorem zdX_flip_19 : decode zkX_flip 19 = .ok (.aload_n 0, 1) := by decide +kernel
theorem zdX_flip_20 : decode zkX_flip 20 = .ok (.getfield 24, 3) := by decide +kernel
theorem zdX_flip_23 : decode zkX_flip 23 = .ok (.getfield 66, 3) := by decide +kernel
theorem zdX_flip_26 : decode zkX_flip 26 = .ok (.iload_n 1, 1) := by decide +kernel
theorem zdX_flip_27 : decode zkX_flip 27 = .ok (.dup2, 1) := by decide +kernel
theorem zdX_flip_28 : decode zkX_flip 28 = .ok (.laload, 1) := by decide +kernel
theorem zdX_flip_29 : decode zkX_flip 29 = .ok (.lconst 1, 1) := by decide +kernel
theorem zdX_flip_30 : decode zkX_flip 30 = .ok (.iload_n 2, 1) := by decide +kernel
theorem zdX_flip_31 : decode zkX_flip 31 = .ok (.lshl, 1) := by decide +kernel
theorem zdX_flip_32 : decode zkX_flip 32 = .ok (.lxor, 1) := by decide +kernel
theorem zdX_flip_33 : decode zkX_flip 33 = .ok (.lastore, 1) := by decide +kernel
theorem zdX_flip_34 : decode zkX_flip 34 = .ok (.iconst 1, 1) := by decide +kernel
theorem zdX_flip_35 : decode zkX_flip 35 = .ok (.ireturn, 1) := by decide +kernel
theorem zdX_load_0 : decode zkX_load 0 = .ok (.aload_n 0, 1) := by decide +kernel
theorem zdX_load_1 : decode zkX_load 1 = .ok (.invokevirtual 70, 3) := by decide +kernel
theorem zdX_load_4 : decode zkX_load 4 = .ok (.ifCond .ne 5, 3) := by decide +kernel
theorem zdX_load_7 : decode zkX_load 7 = .ok (.iconst 0, 1) := by decide +kernel
theorem zdX_load_8 : decode zkX_load 8 = .ok (.ireturn, 1) := by decide +kernel
theorem zdX_load_9 : decode zkX_load 9 = .ok (.aload_n 0, 1) := by decide +kernel
theorem zdX_load_10 : decode zkX_load 10 = .ok (.aload_n 0, 1) := by decide +kernel
theorem zdX_load_11 : decode zkX_load 11 = .ok (.getfield 45, 3) := by decide +kernel
theorem zdX_load_14 : decode zkX_load 14 = .ok (.getfield 74, 3) := by decide +kernel
theorem zdX_load_17 : decode zkX_load 17 = .ok (.aload_n 0, 1) := by decide +kernel
theorem zdX_load_18 : decode zkX_load 18 = .ok (.getfield 45, 3) := by decide +kernel
theorem zdX_load_21 : decode zkX_load 21 = .ok (.getfield 77, 3) := by decide +kernel
theorem zdX_load_24 : decode zkX_load 24 = .ok (.aload_n 0, 1) := by decide +kernel
theorem zdX_load_25 : decode zkX_load 25 = .ok (.getfield 28, 3) := by decide +kernel
theorem zdX_load_28 : decode zkX_load 28 = .ok (.invokevirtual 59, 3) := by decide +kernel
theorem zdX_load_31 : decode zkX_load 31 = .ok (.aload_n 0, 1) := by decide +kernel
theorem zdX_load_32 : decode zkX_load 32 = .ok (.getfield 28, 3) := by decide +kernel
theorem zdX_load_35 : decode zkX_load 35 = .ok (.aload_n 0, 1) := by decide +kernel
theorem zdX_load_36 : decode zkX_load 36 = .ok (.getfield 24, 3) := by decide +kernel
theorem zdX_load_39 : decode zkX_load 39 = .ok (.invokevirtual 81, 3) := by decide +kernel
theorem zdX_load_42 : decode zkX_load 42 = .ok (.ifCond .ne 5, 3) := by decide +kernel
theorem zdX_load_45 : decode zkX_load 45 = .ok (.iconst 0, 1) := by decide +kernel
theorem zdX_load_46 : decode zkX_load 46 = .ok (.ireturn, 1) := by decide +kernel
theorem zdX_load_47 : decode zkX_load 47 = .ok (.aload_n 0, 1) := by decide +kernel
theorem zdX_load_48 : decode zkX_load 48 = .ok (.getfield 41, 3) := by decide +kernel
theorem zdX_load_51 : decode zkX_load 51 = .ok (.astore_n 1, 1) := by decide +kernel
theorem zdX_load_52 : decode zkX_load 52 = .ok (.aload_n 0, 1) := by decide +kernel
theorem zdX_load_53 : decode zkX_load 53 = .ok (.aload_n 0, 1) := by decide +kernel
theorem zdX_load_54 : decode zkX_load 54 = .ok (.getfield 45, 3) := by decide +kernel
theorem zdX_load_57 : decode zkX_load 57 = .ok (.putfield 41, 3) := by decide +kernel
theorem zdX_load_60 : decode zkX_load 60 = .ok (.aload_n 0, 1) := by decide +kernel
theorem zdX_load_61 : decode zkX_load 61 = .ok (.aload_n 1, 1) := by decide +kernel
theorem zdX_load_62 : decode zkX_load 62 = .ok (.putfield 45, 3) := by decide +kernel
theorem zdX_load_65 : decode zkX_load 65 = .ok (.iconst 1, 1) := by decide +kernel
theorem zdX_load_66 : decode zkX_load 66 = .ok (.ireturn, 1) := by decide +kernel
theorem zdX_length_0 : decode zkX_length 0 = .ok (.aload_n 0, 1) := by decide +kernel
theorem zdX_length_1 : decode zkX_length 1 = .ok (.invokevirtual 85, 3) := by decide +kernel
theorem zdX_length_4 : decode zkX_length 4 = .ok (.ifCond .eq 16, 3) := by decide +kernel
theorem zdX_length_7 : decode zkX_length 7 = .ok (.aload_n 0, 1) := by decide +kernel
theorem zdX_length_8 : decode zkX_length 8 = .ok (.getfield 41, 3) := by decide +kernel
theorem zdX_length_11 : decode zkX_length 11 = .ok (.getfield 74, 3) := by decide +kernel
theorem zdX_length_14 : decode zkX_length 14 = .ok (.getfield 88, 3) := by decide +kernel
theorem zdX_length_17 : decode zkX_length 17 = .ok (.goto 4, 3) := by decide +kernel
theorem zdX_length_20 : decode zkX_length 20 = .ok (.iconst (-1), 1) := by decide +kernel
theorem zdX_length_21 : decode zkX_length 21 = .ok (.ireturn, 1) := by decide +kernel
theorem zdX_rate_0 : decode zkX_rate 0 = .ok (.aload_n 0, 1) := by decide +kernel
theorem zdX_rate_1 : decode zkX_rate 1 = .ok (.invokevirtual 85, 3) := by decide +kernel
theorem zdX_rate_4 : decode zkX_rate 4 = .ok (.ifCond .eq 13, 3) := by decide +kernel
theorem zdX_rate_7 : decode zkX_rate 7 = .ok (.aload_n 0, 1) := by decide +kernel
theorem zdX_rate_8 : decode zkX_rate 8 = .ok (.getfield 41, 3) := by decide +kernel
theorem zdX_rate_11 : decode zkX_rate 11 = .ok (.getfield 77, 3) := by decide +kernel
theorem zdX_rate_14 : decode zkX_rate 14 = .ok (.goto 4, 3) := by decide +kernel
theorem zdX_rate_17 : decode zkX_rate 17 = .ok (.iconst (-1), 1) := by decide +kernel
theorem zdX_rate_18 : decode zkX_rate 18 = .ok (.ireturn, 1) := by decide +kernel
theorem zdX_charAt_0 : decode zkX_charAt 0 = .ok (.aload_n 0, 1) := by decide +kernel
theorem zdX_charAt_1 : decode zkX_charAt 1 = .ok (.iload_n 1, 1) := by decide +kernel
theorem zdX_charAt_2 : decode zkX_charAt 2 = .ok (.invokevirtual 91, 3) := by decide +kernel
theorem zdX_charAt_5 : decode zkX_charAt 5 = .ok (.ifCond .eq 17, 3) := by decide +kernel
theorem zdX_charAt_8 : decode zkX_charAt 8 = .ok (.aload_n 0, 1) := by decide +kernel
theorem zdX_charAt_9 : decode zkX_charAt 9 = .ok (.getfield 41, 3) := by decide +kernel
theorem zdX_charAt_12 : decode zkX_charAt 12 = .ok (.getfield 74, 3) := by decide +kernel
theorem zdX_charAt_15 : decode zkX_charAt 15 = .ok (.iload_n 1, 1) := by decide +kernel
theorem zdX_charAt_16 : decode zkX_charAt 16 = .ok (.invokevirtual 94, 3) := by decide +kernel
theorem zdX_charAt_19 : decode zkX_charAt 19 = .ok (.goto 4, 3) := by decide +kernel
theorem zdX_charAt_22 : decode zkX_charAt 22 = .ok (.iconst (-1), 1) := by decide +kernel
theorem zdX_charAt_23 : decode zkX_charAt 23 = .ok (.ireturn, 1) := by decide +kernel
theorem zdX_rowOf_0 : decode zkX_rowOf 0 = .ok (.aload_n 0, 1) := by decide +kernel
theorem zdX_rowOf_1 : decode zkX_rowOf 1 = .ok (.iload_n 1, 1) := by decide +kernel
theorem zdX_rowOf_2 : decode zkX_rowOf 2 = .ok (.invokevirtual 91, 3) := by decide +kernel
theorem zdX_rowOf_5 : decode zkX_rowOf 5 = .ok (.ifCond .eq 18, 3) := by decide +kernel
theorem zdX_rowOf_8 : decode zkX_rowOf 8 = .ok (.aload_n 0, 1) := by decide +kernel
theorem zdX_rowOf_9 : decode zkX_rowOf 9 = .ok (.getfield 41, 3) := by decide +kernel
theorem zdX_rowOf_12 : decode zkX_rowOf 12 = .ok (.getfield 98, 3) := by decide +kernel
theorem zdX_rowOf_15 : decode zkX_rowOf 15 = .ok (.getfield 102, 3) := by decide +kernel
theorem zdX_rowOf_18 : decode zkX_rowOf 18 = .ok (.iload_n 1, 1) := by decide +kernel
theorem zdX_rowOf_19 : decode zkX_rowOf 19 = .ok (.iaload, 1) := by decide +kernel
theorem zdX_rowOf_20 : decode zkX_rowOf 20 = .ok (.goto 4, 3) := by decide +kernel
theorem zdX_rowOf_23 : decode zkX_rowOf 23 = .ok (.iconst (-1), 1) := by decide +kernel
theorem zdX_rowOf_24 : decode zkX_rowOf 24 = .ok (.ireturn, 1) := by decide +kernel
theorem zdX_placeOf_0 : decode zkX_placeOf 0 = .ok (.aload_n 0, 1) := by decide +kernel
theorem zdX_placeOf_1 : decode zkX_placeOf 1 = .ok (.iload_n 1, 1) := by decide +kernel
theorem zdX_placeOf_2 : decode zkX_placeOf 2 = .ok (.invokevirtual 91, 3) := by decide +kernel
theorem zdX_placeOf_5 : decode zkX_placeOf 5 = .ok (.ifCond .eq 18, 3) := by decide +kernel
theorem zdX_placeOf_8 : decode zkX_placeOf 8 = .ok (.aload_n 0, 1) := by decide +kernel
theorem zdX_placeOf_9 : decode zkX_placeOf 9 = .ok (.getfield 41, 3) := by decide +kernel
theorem zdX_placeOf_12 : decode zkX_placeOf 12 = .ok (.getfield 98, 3) := by decide +kernel
theorem zdX_placeOf_15 : decode zkX_placeOf 15 = .ok (.getfield 108, 3) := by decide +kernel
theorem zdX_placeOf_18 : decode zkX_placeOf 18 = .ok (.iload_n 1, 1) := by decide +kernel
theorem zdX_placeOf_19 : decode zkX_placeOf 19 = .ok (.iaload, 1) := by decide +kernel
theorem zdX_placeOf_20 : decode zkX_placeOf 20 = .ok (.goto 4, 3) := by decide +kernel
theorem zdX_placeOf_23 : decode zkX_placeOf 23 = .ok (.iconst (-1), 1) := by decide +kernel
theorem zdX_placeOf_24 : decode zkX_placeOf 24 = .ok (.ireturn, 1) := by decide +kernel
theorem zdX_ask_0 : decode zkX_ask 0 = .ok (.aload_n 0, 1) := by decide +kernel
theorem zdX_ask_1 : decode zkX_ask 1 = .ok (.getfield 18, 3) := by decide +kernel
theorem zdX_ask_4 : decode zkX_ask 4 = .ok (.iload_n 1, 1) := by decide +kernel
theorem zdX_ask_5 : decode zkX_ask 5 = .ok (.invokevirtual 48, 3) := by decide +kernel
theorem zdX_ask_8 : decode zkX_ask 8 = .ok (.ireturn, 1) := by decide +kernel
theorem zdX_back_0 : decode zkX_back 0 = .ok (.aload_n 0, 1) := by decide +kernel
theorem zdX_back_1 : decode zkX_back 1 = .ok (.getfield 18, 3) := by decide +kernel
theorem zdX_back_4 : decode zkX_back 4 = .ok (.invokevirtual 111, 3) := by decide +kernel
theorem zdX_back_7 : decode zkX_back 7 = .ok (.ireturn, 1) := by decide +kernel
theorem zdX_count_0 : decode zkX_count 0 = .ok (.aload_n 0, 1) := by decide +kernel
theorem zdX_count_1 : decode zkX_count 1 = .ok (.invokevirtual 85, 3) := by decide +kernel
theorem zdX_count_4 : decode zkX_count 4 = .ok (.ifCond .ne 5, 3) := by decide +kernel
theorem zdX_count_7 : decode zkX_count 7 = .ok (.iconst (-1), 1) := by decide +kernel
theorem zdX_count_8 : decode zkX_count 8 = .ok (.ireturn, 1) := by decide +kernel
theorem zdX_count_9 : decode zkX_count 9 = .ok (.iconst 0, 1) := by decide +kernel
theorem zdX_count_10 : decode zkX_count 10 = .ok (.istore_n 1, 1) := by decide +kernel
theorem zdX_count_11 : decode zkX_count 11 = .ok (.iconst 0, 1) := by decide +kernel
theorem zdX_count_12 : decode zkX_count 12 = .ok (.istore_n 2, 1) := by decide +kernel
theorem zdX_count_13 : decode zkX_count 13 = .ok (.iload_n 2, 1) := by decide +kernel
theorem zdX_count_14 : decode zkX_count 14 = .ok (.aload_n 0, 1) := by decide +kernel
theorem zdX_count_15 : decode zkX_count 15 = .ok (.getfield 41, 3) := by decide +kernel
theorem zdX_count_18 : decode zkX_count 18 = .ok (.getfield 74, 3) := by decide +kernel
theorem zdX_count_21 : decode zkX_count 21 = .ok (.getfield 88, 3) := by decide +kernel
theorem zdX_count_24 : decode zkX_count 24 = .ok (.if_icmp .gt 20, 3) := by decide +kernel
theorem zdX_count_27 : decode zkX_count 27 = .ok (.aload_n 0, 1) := by decide +kernel
theorem zdX_count_28 : decode zkX_count 28 = .ok (.iload_n 2, 1) := by decide +kernel
theorem zdX_count_29 : decode zkX_count 29 = .ok (.invokevirtual 114, 3) := by decide +kernel
theorem zdX_count_32 : decode zkX_count 32 = .ok (.ifCond .eq 6, 3) := by decide +kernel
theorem zdX_count_35 : decode zkX_count 35 = .ok (.iinc 1 1, 3) := by decide +kernel
theorem zdX_count_38 : decode zkX_count 38 = .ok (.iinc 2 1, 3) := by decide +kernel
theorem zdX_count_41 : decode zkX_count 41 = .ok (.goto (-28), 3) := by decide +kernel
theorem zdX_count_44 : decode zkX_count 44 = .ok (.iload_n 1, 1) := by decide +kernel
theorem zdX_count_45 : decode zkX_count 45 = .ok (.ireturn, 1) := by decide +kernel
theorem zdX_firstRow_0 : decode zkX_firstRow 0 = .ok (.aload_n 0, 1) := by decide +kernel
theorem zdX_firstRow_1 : decode zkX_firstRow 1 = .ok (.invokevirtual 85, 3) := by decide +kernel
theorem zdX_firstRow_4 : decode zkX_firstRow 4 = .ok (.ifCond .ne 5, 3) := by decide +kernel
theorem zdX_firstRow_7 : decode zkX_firstRow 7 = .ok (.iconst (-1), 1) := by decide +kernel
theorem zdX_firstRow_8 : decode zkX_firstRow 8 = .ok (.ireturn, 1) := by decide +kernel
theorem zdX_firstRow_9 : decode zkX_firstRow 9 = .ok (.iconst 0, 1) := by decide +kernel
theorem zdX_firstRow_10 : decode zkX_firstRow 10 = .ok (.istore_n 1, 1) := by decide +kernel
theorem zdX_firstRow_11 : decode zkX_firstRow 11 = .ok (.iload_n 1, 1) := by decide +kernel
theorem zdX_firstRow_12 : decode zkX_firstRow 12 = .ok (.aload_n 0, 1) := by decide +kernel
theorem zdX_firstRow_13 : decode zkX_firstRow 13 = .ok (.getfield 41, 3) := by decide +kernel
theorem zdX_firstRow_16 : decode zkX_firstRow 16 = .ok (.getfield 74, 3) := by decide +kernel
theorem zdX_firstRow_19 : decode zkX_firstRow 19 = .ok (.getfield 88, 3) := by decide +kernel
theorem zdX_firstRow_22 : decode zkX_firstRow 22 = .ok (.if_icmp .gt 30, 3) := by decide +kernel
theorem zdX_firstRow_25 : decode zkX_firstRow 25 = .ok (.aload_n 0, 1) := by decide +kernel
theorem zdX_firstRow_26 : decode zkX_firstRow 26 = .ok (.aload_n 0, 1) := by decide +kernel
theorem zdX_firstRow_27 : decode zkX_firstRow 27 = .ok (.getfield 41, 3) := by decide +kernel
theorem zdX_firstRow_30 : decode zkX_firstRow 30 = .ok (.getfield 98, 3) := by decide +kernel
theorem zdX_firstRow_33 : decode zkX_firstRow 33 = .ok (.getfield 108, 3) := by decide +kernel
theorem zdX_firstRow_36 : decode zkX_firstRow 36 = .ok (.iload_n 1, 1) := by decide +kernel
theorem zdX_firstRow_37 : decode zkX_firstRow 37 = .ok (.iaload, 1) := by decide +kernel
theorem zdX_firstRow_38 : decode zkX_firstRow 38 = .ok (.invokevirtual 114, 3) := by decide +kernel
theorem zdX_firstRow_41 : decode zkX_firstRow 41 = .ok (.ifCond .eq 5, 3) := by decide +kernel
theorem zdX_firstRow_44 : decode zkX_firstRow 44 = .ok (.iload_n 1, 1) := by decide +kernel
theorem zdX_firstRow_45 : decode zkX_firstRow 45 = .ok (.ireturn, 1) := by decide +kernel
theorem zdX_firstRow_46 : decode zkX_firstRow 46 = .ok (.iinc 1 1, 3) := by decide +kernel
theorem zdX_firstRow_49 : decode zkX_firstRow 49 = .ok (.goto (-38), 3) := by decide +kernel
theorem zdX_firstRow_52 : decode zkX_firstRow 52 = .ok (.iconst (-1), 1) := by decide +kernel
theorem zdX_firstRow_53 : decode zkX_firstRow 53 = .ok (.ireturn, 1) := by decide +kernel
theorem zdX_locate_0 : decode zkX_locate 0 = .ok (.aload_n 0, 1) := by decide +kernel
theorem zdX_locate_1 : decode zkX_locate 1 = .ok (.invokevirtual 85, 3) := by decide +kernel
theorem zdX_locate_4 : decode zkX_locate 4 = .ok (.ifCond .eq 7, 3) := by decide +kernel
theorem zdX_locate_7 : decode zkX_locate 7 = .ok (.iload_n 1, 1) := by decide +kernel
theorem zdX_locate_8 : decode zkX_locate 8 = .ok (.ifCond .ge 5, 3) := by decide +kernel
theorem zdX_locate_11 : decode zkX_locate 11 = .ok (.iconst (-1), 1) := by decide +kernel
theorem zdX_locate_12 : decode zkX_locate 12 = .ok (.ireturn, 1) := by decide +kernel
theorem zdX_locate_13 : decode zkX_locate 13 = .ok (.iconst 0, 1) := by decide +kernel
theorem zdX_locate_14 : decode zkX_locate 14 = .ok (.istore_n 2, 1) := by decide +kernel
theorem zdX_locate_15 : decode zkX_locate 15 = .ok (.iconst 0, 1) := by decide +kernel
theorem zdX_locate_16 : decode zkX_locate 16 = .ok (.istore_n 3, 1) := by decide +kernel
theorem zdX_locate_17 : decode zkX_locate 17 = .ok (.iload_n 3, 1) := by decide +kernel
theorem zdX_locate_18 : decode zkX_locate 18 = .ok (.aload_n 0, 1) := by decide +kernel
theorem zdX_locate_19 : decode zkX_locate 19 = .ok (.getfield 41, 3) := by decide +kernel
theorem zdX_locate_22 : decode zkX_locate 22 = .ok (.getfield 74, 3) := by decide +kernel
theorem zdX_locate_25 : decode zkX_locate 25 = .ok (.getfield 88, 3) := by decide +kernel
theorem zdX_locate_28 : decode zkX_locate 28 = .ok (.if_icmp .gt 27, 3) := by decide +kernel
theorem zdX_locate_31 : decode zkX_locate 31 = .ok (.aload_n 0, 1) := by decide +kernel
theorem zdX_locate_32 : decode zkX_locate 32 = .ok (.iload_n 3, 1) := by decide +kernel
theorem zdX_locate_33 : decode zkX_locate 33 = .ok (.invokevirtual 114, 3) := by decide +kernel
theorem zdX_locate_36 : decode zkX_locate 36 = .ok (.ifCond .eq 13, 3) := by decide +kernel
theorem zdX_locate_39 : decode zkX_locate 39 = .ok (.iload_n 2, 1) := by decide +kernel
theorem zdX_locate_40 : decode zkX_locate 40 = .ok (.iload_n 1, 1) := by decide +kernel
theorem zdX_locate_41 : decode zkX_locate 41 = .ok (.if_icmp .ne 5, 3) := by decide +kernel
theorem zdX_locate_44 : decode zkX_locate 44 = .ok (.iload_n 3, 1) := by decide +kernel
theorem zdX_locate_45 : decode zkX_locate 45 = .ok (.ireturn, 1) := by decide +kernel
theorem zdX_locate_46 : decode zkX_locate 46 = .ok (.iinc 2 1, 3) := by decide +kernel
theorem zdX_locate_49 : decode zkX_locate 49 = .ok (.iinc 3 1, 3) := by decide +kernel
theorem zdX_locate_52 : decode zkX_locate 52 = .ok (.goto (-35), 3) := by decide +kernel
theorem zdX_locate_55 : decode zkX_locate 55 = .ok (.iconst (-1), 1) := by decide +kernel
theorem zdX_locate_56 : decode zkX_locate 56 = .ok (.ireturn, 1) := by decide +kernel
theorem zdX_variety_0 : decode zkX_variety 0 = .ok (.aload_n 0, 1) := by decide +kernel
theorem zdX_variety_1 : decode zkX_variety 1 = .ok (.invokevirtual 85, 3) := by decide +kernel
theorem zdX_variety_4 : decode zkX_variety 4 = .ok (.ifCond .ne 5, 3) := by decide +kernel
theorem zdX_variety_7 : decode zkX_variety 7 = .ok (.iconst (-1), 1) := by decide +kernel
theorem zdX_variety_8 : decode zkX_variety 8 = .ok (.ireturn, 1) := by decide +kernel
theorem zdX_variety_9 : decode zkX_variety 9 = .ok (.lconst 0, 1) := by decide +kernel
theorem zdX_variety_10 : decode zkX_variety 10 = .ok (.lstore_n 1, 1) := by decide +kernel
theorem zdX_variety_11 : decode zkX_variety 11 = .ok (.lconst 0, 1) := by decide +kernel
theorem zdX_variety_12 : decode zkX_variety 12 = .ok (.lstore_n 3, 1) := by decide +kernel
theorem zdX_variety_13 : decode zkX_variety 13 = .ok (.iconst 1, 1) := by decide +kernel
theorem zdX_variety_14 : decode zkX_variety 14 = .ok (.istore 5, 2) := by decide +kernel
theorem zdX_variety_16 : decode zkX_variety 16 = .ok (.iload 5, 2) := by decide +kernel
theorem zdX_variety_18 : decode zkX_variety 18 = .ok (.aload_n 0, 1) := by decide +kernel
theorem zdX_variety_19 : decode zkX_variety 19 = .ok (.getfield 41, 3) := by decide +kernel
theorem zdX_variety_22 : decode zkX_variety 22 = .ok (.getfield 74, 3) := by decide +kernel
theorem zdX_variety_25 : decode zkX_variety 25 = .ok (.getfield 88, 3) := by decide +kernel
theorem zdX_variety_28 : decode zkX_variety 28 = .ok (.if_icmp .gt 61, 3) := by decide +kernel
theorem zdX_variety_31 : decode zkX_variety 31 = .ok (.aload_n 0, 1) := by decide +kernel
theorem zdX_variety_32 : decode zkX_variety 32 = .ok (.iload 5, 2) := by decide +kernel
theorem zdX_variety_34 : decode zkX_variety 34 = .ok (.invokevirtual 114, 3) := by decide +kernel
theorem zdX_variety_37 : decode zkX_variety 37 = .ok (.ifCond .eq 46, 3) := by decide +kernel
theorem zdX_variety_40 : decode zkX_variety 40 = .ok (.aload_n 0, 1) := by decide +kernel
theorem zdX_variety_41 : decode zkX_variety 41 = .ok (.getfield 41, 3) := by decide +kernel
theorem zdX_variety_44 : decode zkX_variety 44 = .ok (.getfield 74, 3) := by decide +kernel
theorem zdX_variety_47 : decode zkX_variety 47 = .ok (.iload 5, 2) := by decide +kernel
theorem zdX_variety_49 : decode zkX_variety 49 = .ok (.iconst 1, 1) := by decide +kernel
theorem zdX_variety_50 : decode zkX_variety 50 = .ok (.isub, 1) := by decide +kernel
theorem zdX_variety_51 : decode zkX_variety 51 = .ok (.invokevirtual 94, 3) := by decide +kernel
theorem zdX_variety_54 : decode zkX_variety 54 = .ok (.istore 6, 2) := by decide +kernel
theorem zdX_variety_56 : decode zkX_variety 56 = .ok (.iload 6, 2) := by decide +kernel
theorem zdX_variety_58 : decode zkX_variety 58 = .ok (.bipush 64, 2) := by decide +kernel
theorem zdX_variety_60 : decode zkX_variety 60 = .ok (.if_icmp .ge 13, 3) := by decide +kernel
theorem zdX_variety_63 : decode zkX_variety 63 = .ok (.lload_n 1, 1) := by decide +kernel
theorem zdX_variety_64 : decode zkX_variety 64 = .ok (.lconst 1, 1) := by decide +kernel
theorem zdX_variety_65 : decode zkX_variety 65 = .ok (.iload 6, 2) := by decide +kernel
theorem zdX_variety_67 : decode zkX_variety 67 = .ok (.lshl, 1) := by decide +kernel
theorem zdX_variety_68 : decode zkX_variety 68 = .ok (.lor, 1) := by decide +kernel
theorem zdX_variety_69 : decode zkX_variety 69 = .ok (.lstore_n 1, 1) := by decide +kernel
theorem zdX_variety_70 : decode zkX_variety 70 = .ok (.goto 13, 3) := by decide +kernel
theorem zdX_variety_73 : decode zkX_variety 73 = .ok (.lload_n 3, 1) := by decide +kernel
theorem zdX_variety_74 : decode zkX_variety 74 = .ok (.lconst 1, 1) := by decide +kernel
theorem zdX_variety_75 : decode zkX_variety 75 = .ok (.iload 6, 2) := by decide +kernel
theorem zdX_variety_77 : decode zkX_variety 77 = .ok (.bipush 64, 2) := by decide +kernel
theorem zdX_variety_79 : decode zkX_variety 79 = .ok (.isub, 1) := by decide +kernel
theorem zdX_variety_80 : decode zkX_variety 80 = .ok (.lshl, 1) := by decide +kernel
theorem zdX_variety_81 : decode zkX_variety 81 = .ok (.lor, 1) := by decide +kernel
theorem zdX_variety_82 : decode zkX_variety 82 = .ok (.lstore_n 3, 1) := by decide +kernel
theorem zdX_variety_83 : decode zkX_variety 83 = .ok (.iinc 5 1, 3) := by decide +kernel
theorem zdX_variety_86 : decode zkX_variety 86 = .ok (.goto (-70), 3) := by decide +kernel
theorem zdX_variety_89 : decode zkX_variety 89 = .ok (.lload_n 1, 1) := by decide +kernel
theorem zdX_variety_90 : decode zkX_variety 90 = .ok (.invokestatic 117, 3) := by decide +kernel
theorem zdX_variety_93 : decode zkX_variety 93 = .ok (.lload_n 3, 1) := by decide +kernel
theorem zdX_variety_94 : decode zkX_variety 94 = .ok (.invokestatic 117, 3) := by decide +kernel
theorem zdX_variety_97 : decode zkX_variety 97 = .ok (.iadd, 1) := by decide +kernel
theorem zdX_variety_98 : decode zkX_variety 98 = .ok (.ireturn, 1) := by decide +kernel
theorem zdX_isWord_0 : decode zkX_isWord 0 = .ok (.iload_n 0, 1) := by decide +kernel
theorem zdX_isWord_1 : decode zkX_isWord 1 = .ok (.ifCond .lt 13, 3) := by decide +kernel
theorem zdX_isWord_4 : decode zkX_isWord 4 = .ok (.iload_n 0, 1) := by decide +kernel
theorem zdX_isWord_5 : decode zkX_isWord 5 = .ok (.bipush 23, 2) := by decide +kernel
theorem zdX_isWord_7 : decode zkX_isWord 7 = .ok (.if_icmp .ge 7, 3) := by decide +kernel
theorem zdX_isWord_10 : decode zkX_isWord 10 = .ok (.iconst 1, 1) := by decide +kernel
theorem zdX_isWord_11 : decode zkX_isWord 11 = .ok (.goto 4, 3) := by decide +kernel
theorem zdX_isWord_14 : decode zkX_isWord 14 = .ok (.iconst 0, 1) := by decide +kernel
theorem zdX_isWord_15 : decode zkX_isWord 15 = .ok (.ireturn, 1) := by decide +kernel
theorem zdX_isRate_0 : decode zkX_isRate 0 = .ok (.lload_n 0, 1) := by decide +kernel
theorem zdX_isRate_1 : decode zkX_isRate 1 = .ok (.lconst 1, 1) := by decide +kernel
theorem zdX_isRate_2 : decode zkX_isRate 2 = .ok (.lcmp, 1) := by decide +kernel
theorem zdX_isRate_3 : decode zkX_isRate 3 = .ok (.ifCond .lt 15, 3) := by decide +kernel
theorem zdX_isRate_6 : decode zkX_isRate 6 = .ok (.lload_n 0, 1) := by decide +kernel
theorem zdX_isRate_7 : decode zkX_isRate 7 = .ok (.ldc2_w 123, 3) := by decide +kernel
theorem zdX_isRate_10 : decode zkX_isRate 10 = .ok (.lcmp, 1) := by decide +kernel
theorem zdX_isRate_11 : decode zkX_isRate 11 = .ok (.ifCond .gt 7, 3) := by decide +kernel
theorem zdX_isRate_14 : decode zkX_isRate 14 = .ok (.iconst 1, 1) := by decide +kernel
theorem zdX_isRate_15 : decode zkX_isRate 15 = .ok (.goto 4, 3) := by decide +kernel
theorem zdX_isRate_18 : decode zkX_isRate 18 = .ok (.iconst 0, 1) := by decide +kernel
theorem zdX_isRate_19 : decode zkX_isRate 19 = .ok (.ireturn, 1) := by decide +kernel
theorem zdX_hasLoaded_0 : decode zkX_hasLoaded 0 = .ok (.aload_n 0, 1) := by decide +kernel
theorem zdX_hasLoaded_1 : decode zkX_hasLoaded 1 = .ok (.getfield 41, 3) := by decide +kernel
theorem zdX_hasLoaded_4 : decode zkX_hasLoaded 4 = .ok (.getfield 77, 3) := by decide +kernel
theorem zdX_hasLoaded_7 : decode zkX_hasLoaded 7 = .ok (.iconst (-1), 1) := by decide +kernel
theorem zdX_hasLoaded_8 : decode zkX_hasLoaded 8 = .ok (.if_icmp .eq 7, 3) := by decide +kernel
theorem zdX_hasLoaded_11 : decode zkX_hasLoaded 11 = .ok (.iconst 1, 1) := by decide +kernel
theorem zdX_hasLoaded_12 : decode zkX_hasLoaded 12 = .ok (.goto 4, 3) := by decide +kernel
theorem zdX_hasLoaded_15 : decode zkX_hasLoaded 15 = .ok (.iconst 0, 1) := by decide +kernel
theorem zdX_hasLoaded_16 : decode zkX_hasLoaded 16 = .ok (.ireturn, 1) := by decide +kernel
theorem zdX_isLoadedPlace_0 : decode zkX_isLoadedPlace 0 = .ok (.aload_n 0, 1) := by decide +kernel
theorem zdX_isLoadedPlace_1 : decode zkX_isLoadedPlace 1 = .ok (.invokevirtual 85, 3) := by decide +kernel
theorem zdX_isLoadedPlace_4 : decode zkX_isLoadedPlace 4 = .ok (.ifCond .eq 25, 3) := by decide +kernel
theorem zdX_isLoadedPlace_7 : decode zkX_isLoadedPlace 7 = .ok (.iload_n 1, 1) := by decide +kernel
theorem zdX_isLoadedPlace_8 : decode zkX_isLoadedPlace 8 = .ok (.ifCond .lt 21, 3) := by decide +kernel
theorem zdX_isLoadedPlace_11 : decode zkX_isLoadedPlace 11 = .ok (.iload_n 1, 1) := by decide +kernel
theorem zdX_isLoadedPlace_12 : decode zkX_isLoadedPlace 12 = .ok (.aload_n 0, 1) := by decide +kernel
theorem zdX_isLoadedPlace_13 : decode zkX_isLoadedPlace 13 = .ok (.getfield 41, 3) := by decide +kernel
theorem zdX_isLoadedPlace_16 : decode zkX_isLoadedPlace 16 = .ok (.getfield 74, 3) := by decide +kernel
theorem zdX_isLoadedPlace_19 : decode zkX_isLoadedPlace 19 = .ok (.getfield 88, 3) := by decide +kernel
theorem zdX_isLoadedPlace_22 : decode zkX_isLoadedPlace 22 = .ok (.if_icmp .gt 7, 3) := by decide +kernel
theorem zdX_isLoadedPlace_25 : decode zkX_isLoadedPlace 25 = .ok (.iconst 1, 1) := by decide +kernel
theorem zdX_isLoadedPlace_26 : decode zkX_isLoadedPlace 26 = .ok (.goto 4, 3) := by decide +kernel
theorem zdX_isLoadedPlace_29 : decode zkX_isLoadedPlace 29 = .ok (.iconst 0, 1) := by decide +kernel
theorem zdX_isLoadedPlace_30 : decode zkX_isLoadedPlace 30 = .ok (.ireturn, 1) := by decide +kernel
theorem zdX_occursAt_0 : decode zkX_occursAt 0 = .ok (.aload_n 0, 1) := by decide +kernel
theorem zdX_occursAt_1 : decode zkX_occursAt 1 = .ok (.getfield 41, 3) := by decide +kernel
theorem zdX_occursAt_4 : decode zkX_occursAt 4 = .ok (.getfield 74, 3) := by decide +kernel
theorem zdX_occursAt_7 : decode zkX_occursAt 7 = .ok (.aload_n 0, 1) := by decide +kernel
theorem zdX_occursAt_8 : decode zkX_occursAt 8 = .ok (.getfield 18, 3) := by decide +kernel
theorem zdX_occursAt_11 : decode zkX_occursAt 11 = .ok (.iload_n 1, 1) := by decide +kernel
theorem zdX_occursAt_12 : decode zkX_occursAt 12 = .ok (.invokevirtual 125, 3) := by decide +kernel
theorem zdX_occursAt_15 : decode zkX_occursAt 15 = .ok (.ireturn, 1) := by decide +kernel
theorem zdX_draw_0 : decode zkX_draw 0 = .ok (.aload_n 0, 1) := by decide +kernel
theorem zdX_draw_1 : decode zkX_draw 1 = .ok (.getfield 45, 3) := by decide +kernel
theorem zdX_draw_4 : decode zkX_draw 4 = .ok (.getfield 98, 3) := by decide +kernel
theorem zdX_draw_7 : decode zkX_draw 7 = .ok (.aload_n 1, 1) := by decide +kernel
theorem zdX_draw_8 : decode zkX_draw 8 = .ok (.invokevirtual 129, 3) := by decide +kernel
theorem zdX_draw_11 : decode zkX_draw 11 = .ok (.aload_n 0, 1) := by decide +kernel
theorem zdX_draw_12 : decode zkX_draw 12 = .ok (.getfield 34, 3) := by decide +kernel
theorem zdX_draw_15 : decode zkX_draw 15 = .ok (.aload_n 1, 1) := by decide +kernel
theorem zdX_draw_16 : decode zkX_draw 16 = .ok (.aload_n 0, 1) := by decide +kernel
theorem zdX_draw_17 : decode zkX_draw 17 = .ok (.getfield 45, 3) := by decide +kernel
theorem zdX_draw_20 : decode zkX_draw 20 = .ok (.getfield 98, 3) := by decide +kernel
theorem zdX_draw_23 : decode zkX_draw 23 = .ok (.invokevirtual 133, 3) := by decide +kernel
theorem zdX_draw_26 : decode zkX_draw 26 = .ok (.aload_n 3, 1) := by decide +kernel
theorem zdX_draw_27 : decode zkX_draw 27 = .ok (.aload_n 0, 1) := by decide +kernel
theorem zdX_draw_28 : decode zkX_draw 28 = .ok (.getfield 34, 3) := by decide +kernel
theorem zdX_draw_31 : decode zkX_draw 31 = .ok (.aload_n 0, 1) := by decide +kernel
theorem zdX_draw_32 : decode zkX_draw 32 = .ok (.getfield 45, 3) := by decide +kernel
theorem zdX_draw_35 : decode zkX_draw 35 = .ok (.getfield 98, 3) := by decide +kernel
theorem zdX_draw_38 : decode zkX_draw 38 = .ok (.iload_n 2, 1) := by decide +kernel
theorem zdX_draw_39 : decode zkX_draw 39 = .ok (.invokevirtual 137, 3) := by decide +kernel
theorem zdX_draw_42 : decode zkX_draw 42 = .ok (.return_, 1) := by decide +kernel
theorem zdX_readDesk_0 : decode zkX_readDesk 0 = .ok (.aload_n 0, 1) := by decide +kernel
theorem zdX_readDesk_1 : decode zkX_readDesk 1 = .ok (.getfield 24, 3) := by decide +kernel
theorem zdX_readDesk_4 : decode zkX_readDesk 4 = .ok (.getfield 66, 3) := by decide +kernel
theorem zdX_readDesk_7 : decode zkX_readDesk 7 = .ok (.iconst 0, 1) := by decide +kernel
theorem zdX_readDesk_8 : decode zkX_readDesk 8 = .ok (.laload, 1) := by decide +kernel
theorem zdX_readDesk_9 : decode zkX_readDesk 9 = .ok (.lstore_n 1, 1) := by decide +kernel
theorem zdX_readDesk_10 : decode zkX_readDesk 10 = .ok (.lload_n 1, 1) := by decide +kernel
theorem zdX_readDesk_11 : decode zkX_readDesk 11 = .ok (.ldc2_w 140, 3) := by decide +kernel
theorem zdX_readDesk_14 : decode zkX_readDesk 14 = .ok (.land, 1) := by decide +kernel
theorem zdX_readDesk_15 : decode zkX_readDesk 15 = .ok (.lstore_n 3, 1) := by decide +kernel
theorem zdX_readDesk_16 : decode zkX_readDesk 16 = .ok (.lload_n 1, 1) := by decide +kernel
theorem zdX_readDesk_17 : decode zkX_readDesk 17 = .ok (.ldc2_w 142, 3) := by decide +kernel
theorem zdX_readDesk_20 : decode zkX_readDesk 20 = .ok (.ldiv, 1) := by decide +kernel
theorem zdX_readDesk_21 : decode zkX_readDesk 21 = .ok (.lstore 5, 2) := by decide +kernel
theorem zdX_readDesk_23 : decode zkX_readDesk 23 = .ok (.lload_n 3, 1) := by decide +kernel
theorem zdX_readDesk_24 : decode zkX_readDesk 24 = .ok (.ldc2_w 144, 3) := by decide +kernel
theorem zdX_readDesk_27 : decode zkX_readDesk 27 = .ok (.lcmp, 1) := by decide +kernel
theorem zdX_readDesk_28 : decode zkX_readDesk 28 = .ok (.ifCond .gt 11, 3) := by decide +kernel
theorem zdX_readDesk_31 : decode zkX_readDesk 31 = .ok (.lload 5, 2) := by decide +kernel
theorem zdX_readDesk_33 : decode zkX_readDesk 33 = .ok (.invokestatic 55, 3) := by decide +kernel
theorem zdX_readDesk_36 : decode zkX_readDesk 36 = .ok (.ifCond .ne 5, 3) := by decide +kernel
theorem zdX_readDesk_39 : decode zkX_readDesk 39 = .ok (.iconst 0, 1) := by decide +kernel
theorem zdX_readDesk_40 : decode zkX_readDesk 40 = .ok (.ireturn, 1) := by decide +kernel
theorem zdX_readDesk_41 : decode zkX_readDesk 41 = .ok (.aload_n 0, 1) := by decide +kernel
theorem zdX_readDesk_42 : decode zkX_readDesk 42 = .ok (.getfield 34, 3) := by decide +kernel
theorem zdX_readDesk_45 : decode zkX_readDesk 45 = .ok (.aload_n 0, 1) := by decide +kernel
theorem zdX_readDesk_46 : decode zkX_readDesk 46 = .ok (.getfield 24, 3) := by decide +kernel
theorem zdX_readDesk_49 : decode zkX_readDesk 49 = .ok (.lload_n 3, 1) := by decide +kernel
theorem zdX_readDesk_50 : decode zkX_readDesk 50 = .ok (.l2i, 1) := by decide +kernel
theorem zdX_readDesk_51 : decode zkX_readDesk 51 = .ok (.invokevirtual 146, 3) := by decide +kernel
theorem zdX_readDesk_54 : decode zkX_readDesk 54 = .ok (.aload_n 0, 1) := by decide +kernel
theorem zdX_readDesk_55 : decode zkX_readDesk 55 = .ok (.getfield 45, 3) := by decide +kernel
theorem zdX_readDesk_58 : decode zkX_readDesk 58 = .ok (.lload 5, 2) := by decide +kernel
theorem zdX_readDesk_60 : decode zkX_readDesk 60 = .ok (.l2i, 1) := by decide +kernel
theorem zdX_readDesk_61 : decode zkX_readDesk 61 = .ok (.putfield 77, 3) := by decide +kernel
theorem zdX_readDesk_64 : decode zkX_readDesk 64 = .ok (.aload_n 0, 1) := by decide +kernel
theorem zdX_readDesk_65 : decode zkX_readDesk 65 = .ok (.getfield 34, 3) := by decide +kernel
theorem zdX_readDesk_68 : decode zkX_readDesk 68 = .ok (.aload_n 0, 1) := by decide +kernel
theorem zdX_readDesk_69 : decode zkX_readDesk 69 = .ok (.getfield 45, 3) := by decide +kernel
theorem zdX_readDesk_72 : decode zkX_readDesk 72 = .ok (.getfield 74, 3) := by decide +kernel
theorem zdX_readDesk_75 : decode zkX_readDesk 75 = .ok (.invokevirtual 150, 3) := by decide +kernel
theorem zdX_readDesk_78 : decode zkX_readDesk 78 = .ok (.ireturn, 1) := by decide +kernel
theorem zdB_init_0 : decode zkB_init 0 = .ok (.aload_n 0, 1) := by decide +kernel
theorem zdB_init_1 : decode zkB_init 1 = .ok (.invokespecial 3, 3) := by decide +kernel
theorem zdB_init_4 : decode zkB_init 4 = .ok (.aload_n 0, 1) := by decide +kernel
theorem zdB_init_5 : decode zkB_init 5 = .ok (.bipush 61, 2) := by decide +kernel
theorem zdB_init_7 : decode zkB_init 7 = .ok (.newarray .int, 2) := by decide +kernel
theorem zdB_init_9 : decode zkB_init 9 = .ok (.putfield 9, 3) := by decide +kernel
theorem zdB_init_12 : decode zkB_init 12 = .ok (.aload_n 0, 1) := by decide +kernel
theorem zdB_init_13 : decode zkB_init 13 = .ok (.bipush 61, 2) := by decide +kernel
theorem zdB_init_15 : decode zkB_init 15 = .ok (.newarray .int, 2) := by decide +kernel
theorem zdB_init_17 : decode zkB_init 17 = .ok (.putfield 15, 3) := by decide +kernel
theorem zdB_init_20 : decode zkB_init 20 = .ok (.aload_n 0, 1) := by decide +kernel
theorem zdB_init_21 : decode zkB_init 21 = .ok (.bipush 61, 2) := by decide +kernel
theorem zdB_init_23 : decode zkB_init 23 = .ok (.newarray .int, 2) := by decide +kernel
theorem zdB_init_25 : decode zkB_init 25 = .ok (.putfield 18, 3) := by decide +kernel
theorem zdB_init_28 : decode zkB_init 28 = .ok (.aload_n 0, 1) := by decide +kernel
theorem zdB_init_29 : decode zkB_init 29 = .ok (.bipush 61, 2) := by decide +kernel
theorem zdB_init_31 : decode zkB_init 31 = .ok (.newarray .int, 2) := by decide +kernel
theorem zdB_init_33 : decode zkB_init 33 = .ok (.putfield 21, 3) := by decide +kernel
theorem zdB_init_36 : decode zkB_init 36 = .ok (.aload_n 0, 1) := by decide +kernel
theorem zdB_init_37 : decode zkB_init 37 = .ok (.iconst 0, 1) := by decide +kernel
theorem zdB_init_38 : decode zkB_init 38 = .ok (.putfield 24, 3) := by decide +kernel
theorem zdB_init_41 : decode zkB_init 41 = .ok (.return_, 1) := by decide +kernel
theorem zdB_takeFrom_0 : decode zkB_takeFrom 0 = .ok (.aload_n 0, 1) := by decide +kernel
theorem zdB_takeFrom_1 : decode zkB_takeFrom 1 = .ok (.aload_n 2, 1) := by decide +kernel
theorem zdB_takeFrom_2 : decode zkB_takeFrom 2 = .ok (.getfield 28, 3) := by decide +kernel
theorem zdB_takeFrom_5 : decode zkB_takeFrom 5 = .ok (.putfield 24, 3) := by decide +kernel
theorem zdB_takeFrom_8 : decode zkB_takeFrom 8 = .ok (.iconst 0, 1) := by decide +kernel
theorem zdB_takeFrom_9 : decode zkB_takeFrom 9 = .ok (.istore_n 3, 1) := by decide +kernel
theorem zdB_takeFrom_10 : decode zkB_takeFrom 10 = .ok (.iload_n 3, 1) := by decide +kernel
theorem zdB_takeFrom_11 : decode zkB_takeFrom 11 = .ok (.aload_n 0, 1) := by decide +kernel
theorem zdB_takeFrom_12 : decode zkB_takeFrom 12 = .ok (.getfield 24, 3) := by decide +kernel
theorem zdB_takeFrom_15 : decode zkB_takeFrom 15 = .ok (.if_icmp .gt 27, 3) := by decide +kernel
theorem zdB_takeFrom_18 : decode zkB_takeFrom 18 = .ok (.aload_n 0, 1) := by decide +kernel
theorem zdB_takeFrom_19 : decode zkB_takeFrom 19 = .ok (.getfield 9, 3) := by decide +kernel
theorem zdB_takeFrom_22 : decode zkB_takeFrom 22 = .ok (.iload_n 3, 1) := by decide +kernel
theorem zdB_takeFrom_23 : decode zkB_takeFrom 23 = .ok (.aload_n 1, 1) := by decide +kernel
theorem zdB_takeFrom_24 : decode zkB_takeFrom 24 = .ok (.aload_n 2, 1) := by decide +kernel
theorem zdB_takeFrom_25 : decode zkB_takeFrom 25 = .ok (.getfield 31, 3) := by decide +kernel
theorem zdB_takeFrom_28 : decode zkB_takeFrom 28 = .ok (.iload_n 3, 1) := by decide +kernel
theorem zdB_takeFrom_29 : decode zkB_takeFrom 29 = .ok (.iaload, 1) := by decide +kernel
theorem zdB_takeFrom_30 : decode zkB_takeFrom 30 = .ok (.iconst 1, 1) := by decide +kernel
theorem zdB_takeFrom_31 : decode zkB_takeFrom 31 = .ok (.isub, 1) := by decide +kernel
theorem zdB_takeFrom_32 : decode zkB_takeFrom 32 = .ok (.invokevirtual 34, 3) := by decide +kernel
theorem zdB_takeFrom_35 : decode zkB_takeFrom 35 = .ok (.iastore, 1) := by decide +kernel
theorem zdB_takeFrom_36 : decode zkB_takeFrom 36 = .ok (.iinc 3 1, 3) := by decide +kernel
theorem zdB_takeFrom_39 : decode zkB_takeFrom 39 = .ok (.goto (-29), 3) := by decide +kernel
theorem zdB_takeFrom_42 : decode zkB_takeFrom 42 = .ok (.return_, 1) := by decide +kernel
theorem zdB_drawLevels_0 : decode zkB_drawLevels 0 = .ok (.aload_n 0, 1) := by decide +kernel
theorem zdB_drawLevels_1 : decode zkB_drawLevels 1 = .ok (.invokevirtual 40, 3) := by decide +kernel
theorem zdB_drawLevels_4 : decode zkB_drawLevels 4 = .ok (.iconst 0, 1) := by decide +kernel
theorem zdB_drawLevels_5 : decode zkB_drawLevels 5 = .ok (.istore_n 2, 1) := by decide +kernel
theorem zdB_drawLevels_6 : decode zkB_drawLevels 6 = .ok (.iload_n 2, 1) := by decide +kernel
theorem zdB_drawLevels_7 : decode zkB_drawLevels 7 = .ok (.bipush 7, 2) := by decide +kernel
theorem zdB_drawLevels_9 : decode zkB_drawLevels 9 = .ok (.if_icmp .ge 73, 3) := by decide +kernel
theorem zdB_drawLevels_12 : decode zkB_drawLevels 12 = .ok (.lconst 0, 1) := by decide +kernel
theorem zdB_drawLevels_13 : decode zkB_drawLevels 13 = .ok (.lstore_n 3, 1) := by decide +kernel
theorem zdB_drawLevels_14 : decode zkB_drawLevels 14 = .ok (.iconst 0, 1) := by decide +kernel
theorem zdB_drawLevels_15 : decode zkB_drawLevels 15 = .ok (.istore 5, 2) := by decide +kernel
theorem zdB_drawLevels_17 : decode zkB_drawLevels 17 = .ok (.iload 5, 2) := by decide +kernel
theorem zdB_drawLevels_19 : decode zkB_drawLevels 19 = .ok (.aload_n 0, 1) := by decide +kernel
theorem zdB_drawLevels_20 : decode zkB_drawLevels 20 = .ok (.getfield 24, 3) := by decide +kernel
theorem zdB_drawLevels_23 : decode zkB_drawLevels 23 = .ok (.if_icmp .gt 39, 3) := by decide +kernel
theorem zdB_drawLevels_26 : decode zkB_drawLevels 26 = .ok (.aload_n 0, 1) := by decide +kernel
theorem zdB_drawLevels_27 : decode zkB_drawLevels 27 = .ok (.getfield 9, 3) := by decide +kernel
theorem zdB_drawLevels_30 : decode zkB_drawLevels 30 = .ok (.aload_n 0, 1) := by decide +kernel
theorem zdB_drawLevels_31 : decode zkB_drawLevels 31 = .ok (.getfield 15, 3) := by decide +kernel
theorem zdB_drawLevels_34 : decode zkB_drawLevels 34 = .ok (.iload 5, 2) := by decide +kernel
theorem zdB_drawLevels_36 : decode zkB_drawLevels 36 = .ok (.iaload, 1) := by decide +kernel
theorem zdB_drawLevels_37 : decode zkB_drawLevels 37 = .ok (.iaload, 1) := by decide +kernel
theorem zdB_drawLevels_38 : decode zkB_drawLevels 38 = .ok (.bipush 6, 2) := by decide +kernel
theorem zdB_drawLevels_40 : decode zkB_drawLevels 40 = .ok (.iload_n 2, 1) := by decide +kernel
theorem zdB_drawLevels_41 : decode zkB_drawLevels 41 = .ok (.isub, 1) := by decide +kernel
theorem zdB_drawLevels_42 : decode zkB_drawLevels 42 = .ok (.ishr, 1) := by decide +kernel
theorem zdB_drawLevels_43 : decode zkB_drawLevels 43 = .ok (.iconst 1, 1) := by decide +kernel
theorem zdB_drawLevels_44 : decode zkB_drawLevels 44 = .ok (.iand, 1) := by decide +kernel
theorem zdB_drawLevels_45 : decode zkB_drawLevels 45 = .ok (.i2l, 1) := by decide +kernel
theorem zdB_drawLevels_46 : decode zkB_drawLevels 46 = .ok (.lstore 6, 2) := by decide +kernel
theorem zdB_drawLevels_48 : decode zkB_drawLevels 48 = .ok (.lload_n 3, 1) := by decide +kernel
theorem zdB_drawLevels_49 : decode zkB_drawLevels 49 = .ok (.lload 6, 2) := by decide +kernel
theorem zdB_drawLevels_51 : decode zkB_drawLevels 51 = .ok (.iload 5, 2) := by decide +kernel
theorem zdB_drawLevels_53 : decode zkB_drawLevels 53 = .ok (.lshl, 1) := by decide +kernel
theorem zdB_drawLevels_54 : decode zkB_drawLevels 54 = .ok (.lor, 1) := by decide +kernel
theorem zdB_drawLevels_55 : decode zkB_drawLevels 55 = .ok (.lstore_n 3, 1) := by decide +kernel
theorem zdB_drawLevels_56 : decode zkB_drawLevels 56 = .ok (.iinc 5 1, 3) := by decide +kernel
theorem zdB_drawLevels_59 : decode zkB_drawLevels 59 = .ok (.goto (-42), 3) := by decide +kernel
theorem zdB_drawLevels_62 : decode zkB_drawLevels 62 = .ok (.aload_n 1, 1) := by decide +kernel
theorem zdB_drawLevels_63 : decode zkB_drawLevels 63 = .ok (.getfield 43, 3) := by decide +kernel
theorem zdB_drawLevels_66 : decode zkB_drawLevels 66 = .ok (.iconst 1, 1) := by decide +kernel
theorem zdB_drawLevels_67 : decode zkB_drawLevels 67 = .ok (.iload_n 2, 1) := by decide +kernel
theorem zdB_drawLevels_68 : decode zkB_drawLevels 68 = .ok (.iadd, 1) := by decide +kernel
theorem zdB_drawLevels_69 : decode zkB_drawLevels 69 = .ok (.lload_n 3, 1) := by decide +kernel
theorem zdB_drawLevels_70 : decode zkB_drawLevels 70 = .ok (.lastore, 1) := by decide +kernel
theorem zdB_drawLevels_71 : decode zkB_drawLevels 71 = .ok (.aload_n 0, 1) := by decide +kernel
theorem zdB_drawLevels_72 : decode zkB_drawLevels 72 = .ok (.lload_n 3, 1) := by decide +kernel
theorem zdB_drawLevels_73 : decode zkB_drawLevels 73 = .ok (.invokevirtual 49, 3) := by decide +kernel
theorem zdB_drawLevels_76 : decode zkB_drawLevels 76 = .ok (.iinc 2 1, 3) := by decide +kernel
theorem zdB_drawLevels_79 : decode zkB_drawLevels 79 = .ok (.goto (-73), 3) := by decide +kernel
theorem zdB_drawLevels_82 : decode zkB_drawLevels 82 = .ok (.return_, 1) := by decide +kernel
theorem zdB_readLevels_0 : decode zkB_readLevels 0 = .ok (.aload_n 0, 1) := by decide +kernel
theorem zdB_readLevels_1 : decode zkB_readLevels 1 = .ok (.iload_n 2, 1) := by decide +kernel
theorem zdB_readLevels_2 : decode zkB_readLevels 2 = .ok (.putfield 24, 3) := by decide +kernel
theorem zdB_readLevels_5 : decode zkB_readLevels 5 = .ok (.aload_n 0, 1) := by decide +kernel
theorem zdB_readLevels_6 : decode zkB_readLevels 6 = .ok (.invokevirtual 40, 3) := by decide +kernel
theorem zdB_readLevels_9 : decode zkB_readLevels 9 = .ok (.iconst 0, 1) := by decide +kernel
theorem zdB_readLevels_10 : decode zkB_readLevels 10 = .ok (.istore_n 3, 1) := by decide +kernel
theorem zdB_readLevels_11 : decode zkB_readLevels 11 = .ok (.iload_n 3, 1) := by decide +kernel
theorem zdB_readLevels_12 : decode zkB_readLevels 12 = .ok (.aload_n 0, 1) := by decide +kernel
theorem zdB_readLevels_13 : decode zkB_readLevels 13 = .ok (.getfield 24, 3) := by decide +kernel
theorem zdB_readLevels_16 : decode zkB_readLevels 16 = .ok (.if_icmp .gt 16, 3) := by decide +kernel
theorem zdB_readLevels_19 : decode zkB_readLevels 19 = .ok (.aload_n 0, 1) := by decide +kernel
theorem zdB_readLevels_20 : decode zkB_readLevels 20 = .ok (.getfield 9, 3) := by decide +kernel
theorem zdB_readLevels_23 : decode zkB_readLevels 23 = .ok (.iload_n 3, 1) := by decide +kernel
theorem zdB_readLevels_24 : decode zkB_readLevels 24 = .ok (.iconst 0, 1) := by decide +kernel
theorem zdB_readLevels_25 : decode zkB_readLevels 25 = .ok (.iastore, 1) := by decide +kernel
theorem zdB_readLevels_26 : decode zkB_readLevels 26 = .ok (.iinc 3 1, 3) := by decide +kernel
theorem zdB_readLevels_29 : decode zkB_readLevels 29 = .ok (.goto (-18), 3) := by decide +kernel
theorem zdB_readLevels_32 : decode zkB_readLevels 32 = .ok (.iconst 0, 1) := by decide +kernel
theorem zdB_readLevels_33 : decode zkB_readLevels 33 = .ok (.istore_n 3, 1) := by decide +kernel
theorem zdB_readLevels_34 : decode zkB_readLevels 34 = .ok (.iload_n 3, 1) := by decide +kernel
theorem zdB_readLevels_35 : decode zkB_readLevels 35 = .ok (.bipush 7, 2) := by decide +kernel
theorem zdB_readLevels_37 : decode zkB_readLevels 37 = .ok (.if_icmp .ge 82, 3) := by decide +kernel
theorem zdB_readLevels_40 : decode zkB_readLevels 40 = .ok (.aload_n 1, 1) := by decide +kernel
theorem zdB_readLevels_41 : decode zkB_readLevels 41 = .ok (.getfield 43, 3) := by decide +kernel
theorem zdB_readLevels_44 : decode zkB_readLevels 44 = .ok (.iconst 1, 1) := by decide +kernel
theorem zdB_readLevels_45 : decode zkB_readLevels 45 = .ok (.iload_n 3, 1) := by decide +kernel
theorem zdB_readLevels_46 : decode zkB_readLevels 46 = .ok (.iadd, 1) := by decide +kernel
theorem zdB_readLevels_47 : decode zkB_readLevels 47 = .ok (.laload, 1) := by decide +kernel
theorem zdB_readLevels_48 : decode zkB_readLevels 48 = .ok (.lstore 4, 2) := by decide +kernel
theorem zdB_readLevels_50 : decode zkB_readLevels 50 = .ok (.iconst 0, 1) := by decide +kernel
theorem zdB_readLevels_51 : decode zkB_readLevels 51 = .ok (.istore 6, 2) := by decide +kernel
theorem zdB_readLevels_53 : decode zkB_readLevels 53 = .ok (.iload 6, 2) := by decide +kernel
theorem zdB_readLevels_55 : decode zkB_readLevels 55 = .ok (.aload_n 0, 1) := by decide +kernel
theorem zdB_readLevels_56 : decode zkB_readLevels 56 = .ok (.getfield 24, 3) := by decide +kernel
theorem zdB_readLevels_59 : decode zkB_readLevels 59 = .ok (.if_icmp .gt 48, 3) := by decide +kernel
theorem zdB_readLevels_62 : decode zkB_readLevels 62 = .ok (.lload 4, 2) := by decide +kernel
theorem zdB_readLevels_64 : decode zkB_readLevels 64 = .ok (.iload 6, 2) := by decide +kernel
theorem zdB_readLevels_66 : decode zkB_readLevels 66 = .ok (.lushr, 1) := by decide +kernel
theorem zdB_readLevels_67 : decode zkB_readLevels 67 = .ok (.lconst 1, 1) := by decide +kernel
theorem zdB_readLevels_68 : decode zkB_readLevels 68 = .ok (.land, 1) := by decide +kernel
theorem zdB_readLevels_69 : decode zkB_readLevels 69 = .ok (.l2i, 1) := by decide +kernel
theorem zdB_readLevels_70 : decode zkB_readLevels 70 = .ok (.istore 7, 2) := by decide +kernel
theorem zdB_readLevels_72 : decode zkB_readLevels 72 = .ok (.aload_n 0, 1) := by decide +kernel
theorem zdB_readLevels_73 : decode zkB_readLevels 73 = .ok (.getfield 9, 3) := by decide +kernel
theorem zdB_readLevels_76 : decode zkB_readLevels 76 = .ok (.aload_n 0, 1) := by decide +kernel
theorem zdB_readLevels_77 : decode zkB_readLevels 77 = .ok (.getfield 15, 3) := by decide +kernel
theorem zdB_readLevels_80 : decode zkB_readLevels 80 = .ok (.iload 6, 2) := by decide +kernel
theorem zdB_readLevels_82 : decode zkB_readLevels 82 = .ok (.iaload, 1) := by decide +kernel
theorem zdB_readLevels_83 : decode zkB_readLevels 83 = .ok (.iconst 2, 1) := by decide +kernel
theorem zdB_readLevels_84 : decode zkB_readLevels 84 = .ok (.aload_n 0, 1) := by decide +kernel
theorem zdB_readLevels_85 : decode zkB_readLevels 85 = .ok (.getfield 9, 3) := by decide +kernel
theorem zdB_readLevels_88 : decode zkB_readLevels 88 = .ok (.aload_n 0, 1) := by decide +kernel
theorem zdB_readLevels_89 : decode zkB_readLevels 89 = .ok (.getfield 15, 3) := by decide +kernel
theorem zdB_readLevels_92 : decode zkB_readLevels 92 = .ok (.iload 6, 2) := by decide +kernel
theorem zdB_readLevels_94 : decode zkB_readLevels 94 = .ok (.iaload, 1) := by decide +kernel
theorem zdB_readLevels_95 : decode zkB_readLevels 95 = .ok (.iaload, 1) := by decide +kernel
theorem zdB_readLevels_96 : decode zkB_readLevels 96 = .ok (.imul, 1) := by decide +kernel
theorem zdB_readLevels_97 : decode zkB_readLevels 97 = .ok (.iload 7, 2) := by decide +kernel
theorem zdB_readLevels_99 : decode zkB_readLevels 99 = .ok (.iadd, 1) := by decide +kernel
theorem zdB_readLevels_100 : decode zkB_readLevels 100 = .ok (.iastore, 1) := by decide +kernel
theorem zdB_readLevels_101 : decode zkB_readLevels 101 = .ok (.iinc 6 1, 3) := by decide +kernel
theorem zdB_readLevels_104 : decode zkB_readLevels 104 = .ok (.goto (-51), 3) := by decide +kernel
theorem zdB_readLevels_107 : decode zkB_readLevels 107 = .ok (.aload_n 0, 1) := by decide +kernel
theorem zdB_readLevels_108 : decode zkB_readLevels 108 = .ok (.lload 4, 2) := by decide +kernel
theorem zdB_readLevels_110 : decode zkB_readLevels 110 = .ok (.invokevirtual 49, 3) := by decide +kernel
theorem zdB_readLevels_113 : decode zkB_readLevels 113 = .ok (.iinc 3 1, 3) := by decide +kernel
theorem zdB_readLevels_116 : decode zkB_readLevels 116 = .ok (.goto (-82), 3) := by decide +kernel
theorem zdB_readLevels_119 : decode zkB_readLevels 119 = .ok (.return_, 1) := by decide +kernel
theorem zdB_spell_0 : decode zkB_spell 0 = .ok (.iconst 0, 1) := by decide +kernel
theorem zdB_spell_1 : decode zkB_spell 1 = .ok (.istore_n 2, 1) := by decide +kernel
theorem zdB_spell_2 : decode zkB_spell 2 = .ok (.iload_n 2, 1) := by decide +kernel
theorem zdB_spell_3 : decode zkB_spell 3 = .ok (.aload_n 0, 1) := by decide +kernel
theorem zdB_spell_4 : decode zkB_spell 4 = .ok (.getfield 24, 3) := by decide +kernel
theorem zdB_spell_7 : decode zkB_spell 7 = .ok (.if_icmp .gt 20, 3) := by decide +kernel
theorem zdB_spell_10 : decode zkB_spell 10 = .ok (.aload_n 0, 1) := by decide +kernel
theorem zdB_spell_11 : decode zkB_spell 11 = .ok (.getfield 21, 3) := by decide +kernel
theorem zdB_spell_14 : decode zkB_spell 14 = .ok (.aload_n 0, 1) := by decide +kernel
theorem zdB_spell_15 : decode zkB_spell 15 = .ok (.iload_n 2, 1) := by decide +kernel
theorem zdB_spell_16 : decode zkB_spell 16 = .ok (.invokevirtual 53, 3) := by decide +kernel
theorem zdB_spell_19 : decode zkB_spell 19 = .ok (.iload_n 2, 1) := by decide +kernel
theorem zdB_spell_20 : decode zkB_spell 20 = .ok (.iastore, 1) := by decide +kernel
theorem zdB_spell_21 : decode zkB_spell 21 = .ok (.iinc 2 1, 3) := by decide +kernel
theorem zdB_spell_24 : decode zkB_spell 24 = .ok (.goto (-22), 3) := by decide +kernel
theorem zdB_spell_27 : decode zkB_spell 27 = .ok (.aload_n 1, 1) := by decide +kernel
theorem zdB_spell_28 : decode zkB_spell 28 = .ok (.invokevirtual 56, 3) := by decide +kernel
theorem zdB_spell_31 : decode zkB_spell 31 = .ok (.aload_n 0, 1) := by decide +kernel
theorem zdB_spell_32 : decode zkB_spell 32 = .ok (.getfield 21, 3) := by decide +kernel
theorem zdB_spell_35 : decode zkB_spell 35 = .ok (.iconst 0, 1) := by decide +kernel
theorem zdB_spell_36 : decode zkB_spell 36 = .ok (.iaload, 1) := by decide +kernel
theorem zdB_spell_37 : decode zkB_spell 37 = .ok (.istore_n 2, 1) := by decide +kernel
theorem zdB_spell_38 : decode zkB_spell 38 = .ok (.iconst 0, 1) := by decide +kernel
theorem zdB_spell_39 : decode zkB_spell 39 = .ok (.istore_n 3, 1) := by decide +kernel
theorem zdB_spell_40 : decode zkB_spell 40 = .ok (.iload_n 3, 1) := by decide +kernel
theorem zdB_spell_41 : decode zkB_spell 41 = .ok (.aload_n 0, 1) := by decide +kernel
theorem zdB_spell_42 : decode zkB_spell 42 = .ok (.getfield 24, 3) := by decide +kernel
theorem zdB_spell_45 : decode zkB_spell 45 = .ok (.if_icmp .ge 31, 3) := by decide +kernel
theorem zdB_spell_48 : decode zkB_spell 48 = .ok (.aload_n 0, 1) := by decide +kernel
theorem zdB_spell_49 : decode zkB_spell 49 = .ok (.getfield 21, 3) := by decide +kernel
theorem zdB_spell_52 : decode zkB_spell 52 = .ok (.iload_n 2, 1) := by decide +kernel
theorem zdB_spell_53 : decode zkB_spell 53 = .ok (.iaload, 1) := by decide +kernel
theorem zdB_spell_54 : decode zkB_spell 54 = .ok (.istore_n 2, 1) := by decide +kernel
theorem zdB_spell_55 : decode zkB_spell 55 = .ok (.aload_n 1, 1) := by decide +kernel
theorem zdB_spell_56 : decode zkB_spell 56 = .ok (.aload_n 0, 1) := by decide +kernel
theorem zdB_spell_57 : decode zkB_spell 57 = .ok (.getfield 9, 3) := by decide +kernel
theorem zdB_spell_60 : decode zkB_spell 60 = .ok (.iload_n 2, 1) := by decide +kernel
theorem zdB_spell_61 : decode zkB_spell 61 = .ok (.iaload, 1) := by decide +kernel
theorem zdB_spell_62 : decode zkB_spell 62 = .ok (.invokevirtual 59, 3) := by decide +kernel
theorem zdB_spell_65 : decode zkB_spell 65 = .ok (.ifCond .ne 5, 3) := by decide +kernel
theorem zdB_spell_68 : decode zkB_spell 68 = .ok (.iconst 0, 1) := by decide +kernel
theorem zdB_spell_69 : decode zkB_spell 69 = .ok (.ireturn, 1) := by decide +kernel
theorem zdB_spell_70 : decode zkB_spell 70 = .ok (.iinc 3 1, 3) := by decide +kernel
theorem zdB_spell_73 : decode zkB_spell 73 = .ok (.goto (-33), 3) := by decide +kernel
theorem zdB_spell_76 : decode zkB_spell 76 = .ok (.iconst 1, 1) := by decide +kernel
theorem zdB_spell_77 : decode zkB_spell 77 = .ok (.ireturn, 1) := by decide +kernel
theorem zdB_rowBefore_0 : decode zkB_rowBefore 0 = .ok (.iconst 0, 1) := by decide +kernel
theorem zdB_rowBefore_1 : decode zkB_rowBefore 1 = .ok (.istore_n 2, 1) := by decide +kernel
theorem zdB_rowBefore_2 : decode zkB_rowBefore 2 = .ok (.iconst 0, 1) := by decide +kernel
theorem zdB_rowBefore_3 : decode zkB_rowBefore 3 = .ok (.istore_n 3, 1) := by decide +kernel
theorem zdB_rowBefore_4 : decode zkB_rowBefore 4 = .ok (.iload_n 3, 1) := by decide +kernel
theorem zdB_rowBefore_5 : decode zkB_rowBefore 5 = .ok (.aload_n 0, 1) := by decide +kernel
theorem zdB_rowBefore_6 : decode zkB_rowBefore 6 = .ok (.getfield 24, 3) := by decide +kernel
theorem zdB_rowBefore_9 : decode zkB_rowBefore 9 = .ok (.if_icmp .gt 47, 3) := by decide +kernel
theorem zdB_rowBefore_12 : decode zkB_rowBefore 12 = .ok (.aload_n 0, 1) := by decide +kernel
theorem zdB_rowBefore_13 : decode zkB_rowBefore 13 = .ok (.getfield 9, 3) := by decide +kernel
theorem zdB_rowBefore_16 : decode zkB_rowBefore 16 = .ok (.iload_n 3, 1) := by decide +kernel
theorem zdB_rowBefore_17 : decode zkB_rowBefore 17 = .ok (.iaload, 1) := by decide +kernel
theorem zdB_rowBefore_18 : decode zkB_rowBefore 18 = .ok (.aload_n 0, 1) := by decide +kernel
theorem zdB_rowBefore_19 : decode zkB_rowBefore 19 = .ok (.getfield 9, 3) := by decide +kernel
theorem zdB_rowBefore_22 : decode zkB_rowBefore 22 = .ok (.iload_n 1, 1) := by decide +kernel
theorem zdB_rowBefore_23 : decode zkB_rowBefore 23 = .ok (.iaload, 1) := by decide +kernel
theorem zdB_rowBefore_24 : decode zkB_rowBefore 24 = .ok (.if_icmp .lt 23, 3) := by decide +kernel
theorem zdB_rowBefore_27 : decode zkB_rowBefore 27 = .ok (.aload_n 0, 1) := by decide +kernel
theorem zdB_rowBefore_28 : decode zkB_rowBefore 28 = .ok (.getfield 9, 3) := by decide +kernel
theorem zdB_rowBefore_31 : decode zkB_rowBefore 31 = .ok (.iload_n 3, 1) := by decide +kernel
theorem zdB_rowBefore_32 : decode zkB_rowBefore 32 = .ok (.iaload, 1) := by decide +kernel
theorem zdB_rowBefore_33 : decode zkB_rowBefore 33 = .ok (.aload_n 0, 1) := by decide +kernel
theorem zdB_rowBefore_34 : decode zkB_rowBefore 34 = .ok (.getfield 9, 3) := by decide +kernel
theorem zdB_rowBefore_37 : decode zkB_rowBefore 37 = .ok (.iload_n 1, 1) := by decide +kernel
theorem zdB_rowBefore_38 : decode zkB_rowBefore 38 = .ok (.iaload, 1) := by decide +kernel
theorem zdB_rowBefore_39 : decode zkB_rowBefore 39 = .ok (.if_icmp .ne 11, 3) := by decide +kernel
theorem zdB_rowBefore_42 : decode zkB_rowBefore 42 = .ok (.iload_n 3, 1) := by decide +kernel
theorem zdB_rowBefore_43 : decode zkB_rowBefore 43 = .ok (.iload_n 1, 1) := by decide +kernel
theorem zdB_rowBefore_44 : decode zkB_rowBefore 44 = .ok (.if_icmp .ge 6, 3) := by decide +kernel
theorem zdB_rowBefore_47 : decode zkB_rowBefore 47 = .ok (.iinc 2 1, 3) := by decide +kernel
theorem zdB_rowBefore_50 : decode zkB_rowBefore 50 = .ok (.iinc 3 1, 3) := by decide +kernel
theorem zdB_rowBefore_53 : decode zkB_rowBefore 53 = .ok (.goto (-49), 3) := by decide +kernel
theorem zdB_rowBefore_56 : decode zkB_rowBefore 56 = .ok (.iload_n 2, 1) := by decide +kernel
theorem zdB_rowBefore_57 : decode zkB_rowBefore 57 = .ok (.ireturn, 1) := by decide +kernel
theorem zdB_startOrder_0 : decode zkB_startOrder 0 = .ok (.iconst 0, 1) := by decide +kernel
theorem zdB_startOrder_1 : decode zkB_startOrder 1 = .ok (.istore_n 1, 1) := by decide +kernel
theorem zdB_startOrder_2 : decode zkB_startOrder 2 = .ok (.iload_n 1, 1) := by decide +kernel
theorem zdB_startOrder_3 : decode zkB_startOrder 3 = .ok (.aload_n 0, 1) := by decide +kernel
theorem zdB_startOrder_4 : decode zkB_startOrder 4 = .ok (.getfield 24, 3) := by decide +kernel
theorem zdB_startOrder_7 : decode zkB_startOrder 7 = .ok (.if_icmp .gt 16, 3) := by decide +kernel
theorem zdB_startOrder_10 : decode zkB_startOrder 10 = .ok (.aload_n 0, 1) := by decide +kernel
theorem zdB_startOrder_11 : decode zkB_startOrder 11 = .ok (.getfield 15, 3) := by decide +kernel
theorem zdB_startOrder_14 : decode zkB_startOrder 14 = .ok (.iload_n 1, 1) := by decide +kernel
theorem zdB_startOrder_15 : decode zkB_startOrder 15 = .ok (.iload_n 1, 1) := by decide +kernel
theorem zdB_startOrder_16 : decode zkB_startOrder 16 = .ok (.iastore, 1) := by decide +kernel
theorem zdB_startOrder_17 : decode zkB_startOrder 17 = .ok (.iinc 1 1, 3) := by decide +kernel
theorem zdB_startOrder_20 : decode zkB_startOrder 20 = .ok (.goto (-18), 3) := by decide +kernel
theorem zdB_startOrder_23 : decode zkB_startOrder 23 = .ok (.return_, 1) := by decide +kernel
theorem zdB_partOrder_0 : decode zkB_partOrder 0 = .ok (.iconst 0, 1) := by decide +kernel
theorem zdB_partOrder_1 : decode zkB_partOrder 1 = .ok (.istore_n 3, 1) := by decide +kernel
theorem zdB_partOrder_2 : decode zkB_partOrder 2 = .ok (.iconst 0, 1) := by decide +kernel
theorem zdB_partOrder_3 : decode zkB_partOrder 3 = .ok (.istore 4, 2) := by decide +kernel
theorem zdB_partOrder_5 : decode zkB_partOrder 5 = .ok (.iconst 0, 1) := by decide +kernel
theorem zdB_partOrder_6 : decode zkB_partOrder 6 = .ok (.istore 5, 2) := by decide +kernel
theorem zdB_partOrder_8 : decode zkB_partOrder 8 = .ok (.iload 5, 2) := by decide +kernel
theorem zdB_partOrder_10 : decode zkB_partOrder 10 = .ok (.aload_n 0, 1) := by decide +kernel
theorem zdB_partOrder_11 : decode zkB_partOrder 11 = .ok (.getfield 24, 3) := by decide +kernel
theorem zdB_partOrder_14 : decode zkB_partOrder 14 = .ok (.if_icmp .gt 56, 3) := by decide +kernel
theorem zdB_partOrder_17 : decode zkB_partOrder 17 = .ok (.lload_n 1, 1) := by decide +kernel
theorem zdB_partOrder_18 : decode zkB_partOrder 18 = .ok (.iload 5, 2) := by decide +kernel
theorem zdB_partOrder_20 : decode zkB_partOrder 20 = .ok (.lushr, 1) := by decide +kernel
theorem zdB_partOrder_21 : decode zkB_partOrder 21 = .ok (.lconst 1, 1) := by decide +kernel
theorem zdB_partOrder_22 : decode zkB_partOrder 22 = .ok (.land, 1) := by decide +kernel
theorem zdB_partOrder_23 : decode zkB_partOrder 23 = .ok (.lconst 0, 1) := by decide +kernel
theorem zdB_partOrder_24 : decode zkB_partOrder 24 = .ok (.lcmp, 1) := by decide +kernel
theorem zdB_partOrder_25 : decode zkB_partOrder 25 = .ok (.ifCond .ne 22, 3) := by decide +kernel
theorem zdB_partOrder_28 : decode zkB_partOrder 28 = .ok (.aload_n 0, 1) := by decide +kernel
theorem zdB_partOrder_29 : decode zkB_partOrder 29 = .ok (.getfield 15, 3) := by decide +kernel
theorem zdB_partOrder_32 : decode zkB_partOrder 32 = .ok (.iload_n 3, 1) := by decide +kernel
theorem zdB_partOrder_33 : decode zkB_partOrder 33 = .ok (.aload_n 0, 1) := by decide +kernel
theorem zdB_partOrder_34 : decode zkB_partOrder 34 = .ok (.getfield 15, 3) := by decide +kernel
theorem zdB_partOrder_37 : decode zkB_partOrder 37 = .ok (.iload 5, 2) := by decide +kernel
theorem zdB_partOrder_39 : decode zkB_partOrder 39 = .ok (.iaload, 1) := by decide +kernel
theorem zdB_partOrder_40 : decode zkB_partOrder 40 = .ok (.iastore, 1) := by decide +kernel
theorem zdB_partOrder_41 : decode zkB_partOrder 41 = .ok (.iinc 3 1, 3) := by decide +kernel
theorem zdB_partOrder_44 : decode zkB_partOrder 44 = .ok (.goto 20, 3) := by decide +kernel
theorem zdB_partOrder_47 : decode zkB_partOrder 47 = .ok (.aload_n 0, 1) := by decide +kernel
theorem zdB_partOrder_48 : decode zkB_partOrder 48 = .ok (.getfield 18, 3) := by decide +kernel
theorem zdB_partOrder_51 : decode zkB_partOrder 51 = .ok (.iload 4, 2) := by decide +kernel
theorem zdB_partOrder_53 : decode zkB_partOrder 53 = .ok (.aload_n 0, 1) := by decide +kernel
theorem zdB_partOrder_54 : decode zkB_partOrder 54 = .ok (.getfield 15, 3) := by decide +kernel
theorem zdB_partOrder_57 : decode zkB_partOrder 57 = .ok (.iload 5, 2) := by decide +kernel
theorem zdB_partOrder_59 : decode zkB_partOrder 59 = .ok (.iaload, 1) := by decide +kernel
theorem zdB_partOrder_60 : decode zkB_partOrder 60 = .ok (.iastore, 1) := by decide +kernel
theorem zdB_partOrder_61 : decode zkB_partOrder 61 = .ok (.iinc 4 1, 3) := by decide +kernel
theorem zdB_partOrder_64 : decode zkB_partOrder 64 = .ok (.iinc 5 1, 3) := by decide +kernel
theorem zdB_partOrder_67 : decode zkB_partOrder 67 = .ok (.goto (-59), 3) := by decide +kernel
theorem zdB_partOrder_70 : decode zkB_partOrder 70 = .ok (.iconst 0, 1) := by decide +kernel
theorem zdB_partOrder_71 : decode zkB_partOrder 71 = .ok (.istore 5, 2) := by decide +kernel
theorem zdB_partOrder_73 : decode zkB_partOrder 73 = .ok (.iload 5, 2) := by decide +kernel
theorem zdB_partOrder_75 : decode zkB_partOrder 75 = .ok (.iload 4, 2) := by decide +kernel
theorem zdB_partOrder_77 : decode zkB_partOrder 77 = .ok (.if_icmp .ge 25, 3) := by decide +kernel
theorem zdB_partOrder_80 : decode zkB_partOrder 80 = .ok (.aload_n 0, 1) := by decide +kernel
theorem zdB_partOrder_81 : decode zkB_partOrder 81 = .ok (.getfield 15, 3) := by decide +kernel
theorem zdB_partOrder_84 : decode zkB_partOrder 84 = .ok (.iload_n 3, 1) := by decide +kernel
theorem zdB_partOrder_85 : decode zkB_partOrder 85 = .ok (.iload 5, 2) := by decide +kernel
theorem zdB_partOrder_87 : decode zkB_partOrder 87 = .ok (.iadd, 1) := by decide +kernel
theorem zdB_partOrder_88 : decode zkB_partOrder 88 = .ok (.aload_n 0, 1) := by decide +kernel
theorem zdB_partOrder_89 : decode zkB_partOrder 89 = .ok (.getfield 18, 3) := by decide +kernel
theorem zdB_partOrder_92 : decode zkB_partOrder 92 = .ok (.iload 5, 2) := by decide +kernel
theorem zdB_partOrder_94 : decode zkB_partOrder 94 = .ok (.iaload, 1) := by decide +kernel
theorem zdB_partOrder_95 : decode zkB_partOrder 95 = .ok (.iastore, 1) := by decide +kernel
theorem zdB_partOrder_96 : decode zkB_partOrder 96 = .ok (.iinc 5 1, 3) := by decide +kernel
theorem zdB_partOrder_99 : decode zkB_partOrder 99 = .ok (.goto (-26), 3) := by decide +kernel
theorem zdB_partOrder_102 : decode zkB_partOrder 102 = .ok (.return_, 1) := by decide +kernel
theorem zdI_init_0 : decode zkI_init 0 = .ok (.aload_n 0, 1) := by decide +kernel
theorem zdI_init_1 : decode zkI_init 1 = .ok (.invokespecial 3, 3) := by decide +kernel
theorem zdI_init_4 : decode zkI_init 4 = .ok (.aload_n 0, 1) := by decide +kernel
theorem zdI_init_5 : decode zkI_init 5 = .ok (.bipush 23, 2) := by decide +kernel
theorem zdI_init_7 : decode zkI_init 7 = .ok (.newarray .long, 2) := by decide +kernel
theorem zdI_init_9 : decode zkI_init 9 = .ok (.putfield 9, 3) := by decide +kernel
theorem zdI_init_12 : decode zkI_init 12 = .ok (.return_, 1) := by decide +kernel
theorem zdI_isSameAs_0 : decode zkI_isSameAs 0 = .ok (.iconst 0, 1) := by decide +kernel
theorem zdI_isSameAs_1 : decode zkI_isSameAs 1 = .ok (.istore_n 2, 1) := by decide +kernel
theorem zdI_isSameAs_2 : decode zkI_isSameAs 2 = .ok (.iload_n 2, 1) := by decide +kernel
theorem zdI_isSameAs_3 : decode zkI_isSameAs 3 = .ok (.bipush 23, 2) := by decide +kernel
theorem zdI_isSameAs_5 : decode zkI_isSameAs 5 = .ok (.if_icmp .ge 27, 3) := by decide +kernel
theorem zdI_isSameAs_8 : decode zkI_isSameAs 8 = .ok (.aload_n 0, 1) := by decide +kernel
theorem zdI_isSameAs_9 : decode zkI_isSameAs 9 = .ok (.getfield 9, 3) := by decide +kernel
theorem zdI_isSameAs_12 : decode zkI_isSameAs 12 = .ok (.iload_n 2, 1) := by decide +kernel
theorem zdI_isSameAs_13 : decode zkI_isSameAs 13 = .ok (.laload, 1) := by decide +kernel
theorem zdI_isSameAs_14 : decode zkI_isSameAs 14 = .ok (.aload_n 1, 1) := by decide +kernel
theorem zdI_isSameAs_15 : decode zkI_isSameAs 15 = .ok (.getfield 9, 3) := by decide +kernel
theorem zdI_isSameAs_18 : decode zkI_isSameAs 18 = .ok (.iload_n 2, 1) := by decide +kernel
theorem zdI_isSameAs_19 : decode zkI_isSameAs 19 = .ok (.laload, 1) := by decide +kernel
theorem zdI_isSameAs_20 : decode zkI_isSameAs 20 = .ok (.lcmp, 1) := by decide +kernel
theorem zdI_isSameAs_21 : decode zkI_isSameAs 21 = .ok (.ifCond .eq 5, 3) := by decide +kernel
theorem zdI_isSameAs_24 : decode zkI_isSameAs 24 = .ok (.iconst 0, 1) := by decide +kernel
theorem zdI_isSameAs_25 : decode zkI_isSameAs 25 = .ok (.ireturn, 1) := by decide +kernel
theorem zdI_isSameAs_26 : decode zkI_isSameAs 26 = .ok (.iinc 2 1, 3) := by decide +kernel
theorem zdI_isSameAs_29 : decode zkI_isSameAs 29 = .ok (.goto (-27), 3) := by decide +kernel
theorem zdI_isSameAs_32 : decode zkI_isSameAs 32 = .ok (.iconst 1, 1) := by decide +kernel
theorem zdI_isSameAs_33 : decode zkI_isSameAs 33 = .ok (.ireturn, 1) := by decide +kernel
theorem zdI_draw_0 : decode zkI_draw 0 = .ok (.iconst 0, 1) := by decide +kernel
theorem zdI_draw_1 : decode zkI_draw 1 = .ok (.istore 4, 2) := by decide +kernel
theorem zdI_draw_3 : decode zkI_draw 3 = .ok (.iload 4, 2) := by decide +kernel
theorem zdI_draw_5 : decode zkI_draw 5 = .ok (.bipush 23, 2) := by decide +kernel
theorem zdI_draw_7 : decode zkI_draw 7 = .ok (.if_icmp .ge 17, 3) := by decide +kernel
theorem zdI_draw_10 : decode zkI_draw 10 = .ok (.aload_n 0, 1) := by decide +kernel
theorem zdI_draw_11 : decode zkI_draw 11 = .ok (.getfield 9, 3) := by decide +kernel
theorem zdI_draw_14 : decode zkI_draw 14 = .ok (.iload 4, 2) := by decide +kernel
theorem zdI_draw_16 : decode zkI_draw 16 = .ok (.lconst 0, 1) := by decide +kernel
theorem zdI_draw_17 : decode zkI_draw 17 = .ok (.lastore, 1) := by decide +kernel
theorem zdI_draw_18 : decode zkI_draw 18 = .ok (.iinc 4 1, 3) := by decide +kernel
theorem zdI_draw_21 : decode zkI_draw 21 = .ok (.goto (-18), 3) := by decide +kernel
theorem zdI_draw_24 : decode zkI_draw 24 = .ok (.aload_n 0, 1) := by decide +kernel
theorem zdI_draw_25 : decode zkI_draw 25 = .ok (.getfield 9, 3) := by decide +kernel
theorem zdI_draw_28 : decode zkI_draw 28 = .ok (.iconst 0, 1) := by decide +kernel
theorem zdI_draw_29 : decode zkI_draw 29 = .ok (.aload_n 2, 1) := by decide +kernel
theorem zdI_draw_30 : decode zkI_draw 30 = .ok (.getfield 15, 3) := by decide +kernel
theorem zdI_draw_33 : decode zkI_draw 33 = .ok (.sipush 256, 3) := by decide +kernel
theorem zdI_draw_36 : decode zkI_draw 36 = .ok (.iload_n 3, 1) := by decide +kernel
theorem zdI_draw_37 : decode zkI_draw 37 = .ok (.imul, 1) := by decide +kernel
theorem zdI_draw_38 : decode zkI_draw 38 = .ok (.iadd, 1) := by decide +kernel
theorem zdI_draw_39 : decode zkI_draw 39 = .ok (.i2l, 1) := by decide +kernel
theorem zdI_draw_40 : decode zkI_draw 40 = .ok (.lastore, 1) := by decide +kernel
theorem zdI_draw_41 : decode zkI_draw 41 = .ok (.aload_n 1, 1) := by decide +kernel
theorem zdI_draw_42 : decode zkI_draw 42 = .ok (.aload_n 0, 1) := by decide +kernel
theorem zdI_draw_43 : decode zkI_draw 43 = .ok (.invokevirtual 21, 3) := by decide +kernel
theorem zdI_draw_46 : decode zkI_draw 46 = .ok (.aload_n 0, 1) := by decide +kernel
theorem zdI_draw_47 : decode zkI_draw 47 = .ok (.aload_n 2, 1) := by decide +kernel
theorem zdI_draw_48 : decode zkI_draw 48 = .ok (.iload_n 3, 1) := by decide +kernel
theorem zdI_draw_49 : decode zkI_draw 49 = .ok (.invokevirtual 27, 3) := by decide +kernel
theorem zdI_draw_52 : decode zkI_draw 52 = .ok (.aload_n 0, 1) := by decide +kernel
theorem zdI_draw_53 : decode zkI_draw 53 = .ok (.aload_n 2, 1) := by decide +kernel
theorem zdI_draw_54 : decode zkI_draw 54 = .ok (.iload_n 3, 1) := by decide +kernel
theorem zdI_draw_55 : decode zkI_draw 55 = .ok (.invokevirtual 31, 3) := by decide +kernel
theorem zdI_draw_58 : decode zkI_draw 58 = .ok (.return_, 1) := by decide +kernel
theorem zdI_drawMarkedRows_0 : decode zkI_drawMarkedRows 0 = .ok (.iconst 0, 1) := by decide +kernel
theorem zdI_drawMarkedRows_1 : decode zkI_drawMarkedRows 1 = .ok (.istore_n 3, 1) := by decide +kernel
theorem zdI_drawMarkedRows_2 : decode zkI_drawMarkedRows 2 = .ok (.iconst 0, 1) := by decide +kernel
theorem zdI_drawMarkedRows_3 : decode zkI_drawMarkedRows 3 = .ok (.istore 4, 2) := by decide +kernel
theorem zdI_drawMarkedRows_5 : decode zkI_drawMarkedRows 5 = .ok (.iload 4, 2) := by decide +kernel
theorem zdI_drawMarkedRows_7 : decode zkI_drawMarkedRows 7 = .ok (.aload_n 1, 1) := by decide +kernel
theorem zdI_drawMarkedRows_8 : decode zkI_drawMarkedRows 8 = .ok (.getfield 15, 3) := by decide +kernel
theorem zdI_drawMarkedRows_11 : decode zkI_drawMarkedRows 11 = .ok (.if_icmp .gt 54, 3) := by decide +kernel
theorem zdI_drawMarkedRows_14 : decode zkI_drawMarkedRows 14 = .ok (.aload_n 1, 1) := by decide +kernel
theorem zdI_drawMarkedRows_15 : decode zkI_drawMarkedRows 15 = .ok (.getfield 34, 3) := by decide +kernel
theorem zdI_drawMarkedRows_18 : decode zkI_drawMarkedRows 18 = .ok (.iload 4, 2) := by decide +kernel
theorem zdI_drawMarkedRows_20 : decode zkI_drawMarkedRows 20 = .ok (.iaload, 1) := by decide +kernel
theorem zdI_drawMarkedRows_21 : decode zkI_drawMarkedRows 21 = .ok (.istore 5, 2) := by decide +kernel
theorem zdI_drawMarkedRows_23 : decode zkI_drawMarkedRows 23 = .ok (.iload 5, 2) := by decide +kernel
theorem zdI_drawMarkedRows_25 : decode zkI_drawMarkedRows 25 = .ok (.iload_n 2, 1) := by decide +kernel
theorem zdI_drawMarkedRows_26 : decode zkI_drawMarkedRows 26 = .ok (.irem, 1) := by decide +kernel
theorem zdI_drawMarkedRows_27 : decode zkI_drawMarkedRows 27 = .ok (.ifCond .ne 32, 3) := by decide +kernel
theorem zdI_drawMarkedRows_30 : decode zkI_drawMarkedRows 30 = .ok (.aload_n 0, 1) := by decide +kernel
theorem zdI_drawMarkedRows_31 : decode zkI_drawMarkedRows 31 = .ok (.getfield 9, 3) := by decide +kernel
theorem zdI_drawMarkedRows_34 : decode zkI_drawMarkedRows 34 = .ok (.bipush 8, 2) := by decide +kernel
theorem zdI_drawMarkedRows_36 : decode zkI_drawMarkedRows 36 = .ok (.dup2, 1) := by decide +kernel
theorem zdI_drawMarkedRows_37 : decode zkI_drawMarkedRows 37 = .ok (.laload, 1) := by decide +kernel
theorem zdI_drawMarkedRows_38 : decode zkI_drawMarkedRows 38 = .ok (.lconst 1, 1) := by decide +kernel
theorem zdI_drawMarkedRows_39 : decode zkI_drawMarkedRows 39 = .ok (.iload 4, 2) := by decide +kernel
theorem zdI_drawMarkedRows_41 : decode zkI_drawMarkedRows 41 = .ok (.lshl, 1) := by decide +kernel
theorem zdI_drawMarkedRows_42 : decode zkI_drawMarkedRows 42 = .ok (.lor, 1) := by decide +kernel
theorem zdI_drawMarkedRows_43 : decode zkI_drawMarkedRows 43 = .ok (.lastore, 1) := by decide +kernel
theorem zdI_drawMarkedRows_44 : decode zkI_drawMarkedRows 44 = .ok (.aload_n 0, 1) := by decide +kernel
theorem zdI_drawMarkedRows_45 : decode zkI_drawMarkedRows 45 = .ok (.bipush 9, 2) := by decide +kernel
theorem zdI_drawMarkedRows_47 : decode zkI_drawMarkedRows 47 = .ok (.iload_n 3, 1) := by decide +kernel
theorem zdI_drawMarkedRows_48 : decode zkI_drawMarkedRows 48 = .ok (.iload 5, 2) := by decide +kernel
theorem zdI_drawMarkedRows_50 : decode zkI_drawMarkedRows 50 = .ok (.iload_n 2, 1) := by decide +kernel
theorem zdI_drawMarkedRows_51 : decode zkI_drawMarkedRows 51 = .ok (.idiv, 1) := by decide +kernel
theorem zdI_drawMarkedRows_52 : decode zkI_drawMarkedRows 52 = .ok (.i2l, 1) := by decide +kernel
theorem zdI_drawMarkedRows_53 : decode zkI_drawMarkedRows 53 = .ok (.invokevirtual 38, 3) := by decide +kernel
theorem zdI_drawMarkedRows_56 : decode zkI_drawMarkedRows 56 = .ok (.iinc 3 1, 3) := by decide +kernel
theorem zdI_drawMarkedRows_59 : decode zkI_drawMarkedRows 59 = .ok (.iinc 4 1, 3) := by decide +kernel
theorem zdI_drawMarkedRows_62 : decode zkI_drawMarkedRows 62 = .ok (.goto (-57), 3) := by decide +kernel
theorem zdI_drawMarkedRows_65 : decode zkI_drawMarkedRows 65 = .ok (.return_, 1) := by decide +kernel
theorem zdI_drawRowsOfPlaces_0 : decode zkI_drawRowsOfPlaces 0 = .ok (.aload_n 1, 1) := by decide +kernel
theorem zdI_drawRowsOfPlaces_1 : decode zkI_drawRowsOfPlaces 1 = .ok (.getfield 15, 3) := by decide +kernel
theorem zdI_drawRowsOfPlaces_4 : decode zkI_drawRowsOfPlaces 4 = .ok (.iload_n 2, 1) := by decide +kernel
theorem zdI_drawRowsOfPlaces_5 : decode zkI_drawRowsOfPlaces 5 = .ok (.idiv, 1) := by decide +kernel
theorem zdI_drawRowsOfPlaces_6 : decode zkI_drawRowsOfPlaces 6 = .ok (.istore_n 3, 1) := by decide +kernel
theorem zdI_drawRowsOfPlaces_7 : decode zkI_drawRowsOfPlaces 7 = .ok (.iconst 0, 1) := by decide +kernel
theorem zdI_drawRowsOfPlaces_8 : decode zkI_drawRowsOfPlaces 8 = .ok (.istore 4, 2) := by decide +kernel
theorem zdI_drawRowsOfPlaces_10 : decode zkI_drawRowsOfPlaces 10 = .ok (.iload 4, 2) := by decide +kernel
theorem zdI_drawRowsOfPlaces_12 : decode zkI_drawRowsOfPlaces 12 = .ok (.iload_n 3, 1) := by decide +kernel
theorem zdI_drawRowsOfPlaces_13 : decode zkI_drawRowsOfPlaces 13 = .ok (.if_icmp .gt 27, 3) := by decide +kernel
theorem zdI_drawRowsOfPlaces_16 : decode zkI_drawRowsOfPlaces 16 = .ok (.aload_n 0, 1) := by decide +kernel
theorem zdI_drawRowsOfPlaces_17 : decode zkI_drawRowsOfPlaces 17 = .ok (.bipush 16, 2) := by decide +kernel
theorem zdI_drawRowsOfPlaces_19 : decode zkI_drawRowsOfPlaces 19 = .ok (.iload 4, 2) := by decide +kernel
theorem zdI_drawRowsOfPlaces_21 : decode zkI_drawRowsOfPlaces 21 = .ok (.aload_n 1, 1) := by decide +kernel
theorem zdI_drawRowsOfPlaces_22 : decode zkI_drawRowsOfPlaces 22 = .ok (.getfield 42, 3) := by decide +kernel
theorem zdI_drawRowsOfPlaces_25 : decode zkI_drawRowsOfPlaces 25 = .ok (.iload 4, 2) := by decide +kernel
theorem zdI_drawRowsOfPlaces_27 : decode zkI_drawRowsOfPlaces 27 = .ok (.iload_n 2, 1) := by decide +kernel
theorem zdI_drawRowsOfPlaces_28 : decode zkI_drawRowsOfPlaces 28 = .ok (.imul, 1) := by decide +kernel
theorem zdI_drawRowsOfPlaces_29 : decode zkI_drawRowsOfPlaces 29 = .ok (.iaload, 1) := by decide +kernel
theorem zdI_drawRowsOfPlaces_30 : decode zkI_drawRowsOfPlaces 30 = .ok (.i2l, 1) := by decide +kernel
theorem zdI_drawRowsOfPlaces_31 : decode zkI_drawRowsOfPlaces 31 = .ok (.invokevirtual 38, 3) := by decide +kernel
theorem zdI_drawRowsOfPlaces_34 : decode zkI_drawRowsOfPlaces 34 = .ok (.iinc 4 1, 3) := by decide +kernel
theorem zdI_drawRowsOfPlaces_37 : decode zkI_drawRowsOfPlaces 37 = .ok (.goto (-27), 3) := by decide +kernel
theorem zdI_drawRowsOfPlaces_40 : decode zkI_drawRowsOfPlaces 40 = .ok (.return_, 1) := by decide +kernel
theorem zdI_drawNumber_0 : decode zkI_drawNumber 0 = .ok (.bipush 6, 2) := by decide +kernel
theorem zdI_drawNumber_2 : decode zkI_drawNumber 2 = .ok (.iload_n 2, 1) := by decide +kernel
theorem zdI_drawNumber_3 : decode zkI_drawNumber 3 = .ok (.bipush 10, 2) := by decide +kernel
theorem zdI_drawNumber_5 : decode zkI_drawNumber 5 = .ok (.irem, 1) := by decide +kernel
theorem zdI_drawNumber_6 : decode zkI_drawNumber 6 = .ok (.imul, 1) := by decide +kernel
theorem zdI_drawNumber_7 : decode zkI_drawNumber 7 = .ok (.istore 5, 2) := by decide +kernel
theorem zdI_drawNumber_9 : decode zkI_drawNumber 9 = .ok (.aload_n 0, 1) := by decide +kernel
theorem zdI_drawNumber_10 : decode zkI_drawNumber 10 = .ok (.getfield 9, 3) := by decide +kernel
theorem zdI_drawNumber_13 : decode zkI_drawNumber 13 = .ok (.iload_n 1, 1) := by decide +kernel
theorem zdI_drawNumber_14 : decode zkI_drawNumber 14 = .ok (.iload_n 2, 1) := by decide +kernel
theorem zdI_drawNumber_15 : decode zkI_drawNumber 15 = .ok (.bipush 10, 2) := by decide +kernel
theorem zdI_drawNumber_17 : decode zkI_drawNumber 17 = .ok (.idiv, 1) := by decide +kernel
theorem zdI_drawNumber_18 : decode zkI_drawNumber 18 = .ok (.iadd, 1) := by decide +kernel
theorem zdI_drawNumber_19 : decode zkI_drawNumber 19 = .ok (.dup2, 1) := by decide +kernel
theorem zdI_drawNumber_20 : decode zkI_drawNumber 20 = .ok (.laload, 1) := by decide +kernel
theorem zdI_drawNumber_21 : decode zkI_drawNumber 21 = .ok (.lload_n 3, 1) := by decide +kernel
theorem zdI_drawNumber_22 : decode zkI_drawNumber 22 = .ok (.iload 5, 2) := by decide +kernel
theorem zdI_drawNumber_24 : decode zkI_drawNumber 24 = .ok (.lshl, 1) := by decide +kernel
theorem zdI_drawNumber_25 : decode zkI_drawNumber 25 = .ok (.lor, 1) := by decide +kernel
theorem zdI_drawNumber_26 : decode zkI_drawNumber 26 = .ok (.lastore, 1) := by decide +kernel
theorem zdI_drawNumber_27 : decode zkI_drawNumber 27 = .ok (.return_, 1) := by decide +kernel
theorem zdL_init_0 : decode zkL_init 0 = .ok (.aload_n 0, 1) := by decide +kernel
theorem zdL_init_1 : decode zkL_init 1 = .ok (.invokespecial 3, 3) := by decide +kernel
theorem zdL_init_4 : decode zkL_init 4 = .ok (.aload_n 0, 1) := by decide +kernel
theorem zdL_init_5 : decode zkL_init 5 = .ok (.iload_n 1, 1) := by decide +kernel
theorem zdL_init_6 : decode zkL_init 6 = .ok (.newarray .int, 2) := by decide +kernel
theorem zdL_init_8 : decode zkL_init 8 = .ok (.putfield 9, 3) := by decide +kernel
theorem zdL_init_11 : decode zkL_init 11 = .ok (.aload_n 0, 1) := by decide +kernel
theorem zdL_init_12 : decode zkL_init 12 = .ok (.iconst 0, 1) := by decide +kernel
theorem zdL_init_13 : decode zkL_init 13 = .ok (.putfield 15, 3) := by decide +kernel
theorem zdL_init_16 : decode zkL_init 16 = .ok (.return_, 1) := by decide +kernel
theorem zdL_add_0 : decode zkL_add 0 = .ok (.iload_n 1, 1) := by decide +kernel
theorem zdL_add_1 : decode zkL_add 1 = .ok (.bipush 32, 2) := by decide +kernel
theorem zdL_add_3 : decode zkL_add 3 = .ok (.if_icmp .lt 21, 3) := by decide +kernel
theorem zdL_add_6 : decode zkL_add 6 = .ok (.iload_n 1, 1) := by decide +kernel
theorem zdL_add_7 : decode zkL_add 7 = .ok (.bipush 126, 2) := by decide +kernel
theorem zdL_add_9 : decode zkL_add 9 = .ok (.if_icmp .gt 15, 3) := by decide +kernel
theorem zdL_add_12 : decode zkL_add 12 = .ok (.aload_n 0, 1) := by decide +kernel
theorem zdL_add_13 : decode zkL_add 13 = .ok (.getfield 15, 3) := by decide +kernel
theorem zdL_add_16 : decode zkL_add 16 = .ok (.aload_n 0, 1) := by decide +kernel
theorem zdL_add_17 : decode zkL_add 17 = .ok (.getfield 9, 3) := by decide +kernel
theorem zdL_add_20 : decode zkL_add 20 = .ok (.arraylength, 1) := by decide +kernel
theorem zdL_add_21 : decode zkL_add 21 = .ok (.if_icmp .lt 5, 3) := by decide +kernel
theorem zdL_add_24 : decode zkL_add 24 = .ok (.iconst 0, 1) := by decide +kernel
theorem zdL_add_25 : decode zkL_add 25 = .ok (.ireturn, 1) := by decide +kernel
theorem zdL_add_26 : decode zkL_add 26 = .ok (.aload_n 0, 1) := by decide +kernel
theorem zdL_add_27 : decode zkL_add 27 = .ok (.getfield 9, 3) := by decide +kernel
theorem zdL_add_30 : decode zkL_add 30 = .ok (.aload_n 0, 1) := by decide +kernel
theorem zdL_add_31 : decode zkL_add 31 = .ok (.getfield 15, 3) := by decide +kernel
theorem zdL_add_34 : decode zkL_add 34 = .ok (.iload_n 1, 1) := by decide +kernel
theorem zdL_add_35 : decode zkL_add 35 = .ok (.iastore, 1) := by decide +kernel
theorem zdL_add_36 : decode zkL_add 36 = .ok (.aload_n 0, 1) := by decide +kernel
theorem zdL_add_37 : decode zkL_add 37 = .ok (.dup, 1) := by decide +kernel
theorem zdL_add_38 : decode zkL_add 38 = .ok (.getfield 15, 3) := by decide +kernel
theorem zdL_add_41 : decode zkL_add 41 = .ok (.iconst 1, 1) := by decide +kernel
theorem zdL_add_42 : decode zkL_add 42 = .ok (.iadd, 1) := by decide +kernel
theorem zdL_add_43 : decode zkL_add 43 = .ok (.putfield 15, 3) := by decide +kernel
theorem zdL_add_46 : decode zkL_add 46 = .ok (.iconst 1, 1) := by decide +kernel
theorem zdL_add_47 : decode zkL_add 47 = .ok (.ireturn, 1) := by decide +kernel
theorem zdL_dropLast_0 : decode zkL_dropLast 0 = .ok (.aload_n 0, 1) := by decide +kernel
theorem zdL_dropLast_1 : decode zkL_dropLast 1 = .ok (.getfield 15, 3) := by decide +kernel
theorem zdL_dropLast_4 : decode zkL_dropLast 4 = .ok (.ifCond .ne 5, 3) := by decide +kernel
theorem zdL_dropLast_7 : decode zkL_dropLast 7 = .ok (.iconst 0, 1) := by decide +kernel
theorem zdL_dropLast_8 : decode zkL_dropLast 8 = .ok (.ireturn, 1) := by decide +kernel
theorem zdL_dropLast_9 : decode zkL_dropLast 9 = .ok (.aload_n 0, 1) := by decide +kernel
theorem zdL_dropLast_10 : decode zkL_dropLast 10 = .ok (.dup, 1) := by decide +kernel
theorem zdL_dropLast_11 : decode zkL_dropLast 11 = .ok (.getfield 15, 3) := by decide +kernel
theorem zdL_dropLast_14 : decode zkL_dropLast 14 = .ok (.iconst 1, 1) := by decide +kernel
theorem zdL_dropLast_15 : decode zkL_dropLast 15 = .ok (.isub, 1) := by decide +kernel
theorem zdL_dropLast_16 : decode zkL_dropLast 16 = .ok (.putfield 15, 3) := by decide +kernel
theorem zdL_dropLast_19 : decode zkL_dropLast 19 = .ok (.iconst 1, 1) := by decide +kernel
theorem zdL_dropLast_20 : decode zkL_dropLast 20 = .ok (.ireturn, 1) := by decide +kernel
theorem zdL_clear_0 : decode zkL_clear 0 = .ok (.aload_n 0, 1) := by decide +kernel
theorem zdL_clear_1 : decode zkL_clear 1 = .ok (.iconst 0, 1) := by decide +kernel
theorem zdL_clear_2 : decode zkL_clear 2 = .ok (.putfield 15, 3) := by decide +kernel
theorem zdL_clear_5 : decode zkL_clear 5 = .ok (.return_, 1) := by decide +kernel
theorem zdL_codeAt_0 : decode zkL_codeAt 0 = .ok (.iload_n 1, 1) := by decide +kernel
theorem zdL_codeAt_1 : decode zkL_codeAt 1 = .ok (.ifCond .lt 20, 3) := by decide +kernel
theorem zdL_codeAt_4 : decode zkL_codeAt 4 = .ok (.iload_n 1, 1) := by decide +kernel
theorem zdL_codeAt_5 : decode zkL_codeAt 5 = .ok (.aload_n 0, 1) := by decide +kernel
theorem zdL_codeAt_6 : decode zkL_codeAt 6 = .ok (.getfield 15, 3) := by decide +kernel
theorem zdL_codeAt_9 : decode zkL_codeAt 9 = .ok (.if_icmp .ge 12, 3) := by decide +kernel
theorem zdL_codeAt_12 : decode zkL_codeAt 12 = .ok (.aload_n 0, 1) := by decide +kernel
theorem zdL_codeAt_13 : decode zkL_codeAt 13 = .ok (.getfield 9, 3) := by decide +kernel
theorem zdL_codeAt_16 : decode zkL_codeAt 16 = .ok (.iload_n 1, 1) := by decide +kernel
theorem zdL_codeAt_17 : decode zkL_codeAt 17 = .ok (.iaload, 1) := by decide +kernel
theorem zdL_codeAt_18 : decode zkL_codeAt 18 = .ok (.goto 4, 3) := by decide +kernel
theorem zdL_codeAt_21 : decode zkL_codeAt 21 = .ok (.iconst 0, 1) := by decide +kernel
theorem zdL_codeAt_22 : decode zkL_codeAt 22 = .ok (.ireturn, 1) := by decide +kernel
theorem zdL_hasAt_0 : decode zkL_hasAt 0 = .ok (.iconst 0, 1) := by decide +kernel
theorem zdL_hasAt_1 : decode zkL_hasAt 1 = .ok (.istore_n 3, 1) := by decide +kernel
theorem zdL_hasAt_2 : decode zkL_hasAt 2 = .ok (.iload_n 3, 1) := by decide +kernel
theorem zdL_hasAt_3 : decode zkL_hasAt 3 = .ok (.aload_n 1, 1) := by decide +kernel
theorem zdL_hasAt_4 : decode zkL_hasAt 4 = .ok (.getfield 15, 3) := by decide +kernel
theorem zdL_hasAt_7 : decode zkL_hasAt 7 = .ok (.if_icmp .ge 26, 3) := by decide +kernel
theorem zdL_hasAt_10 : decode zkL_hasAt 10 = .ok (.aload_n 0, 1) := by decide +kernel
theorem zdL_hasAt_11 : decode zkL_hasAt 11 = .ok (.iload_n 2, 1) := by decide +kernel
theorem zdL_hasAt_12 : decode zkL_hasAt 12 = .ok (.iload_n 3, 1) := by decide +kernel
theorem zdL_hasAt_13 : decode zkL_hasAt 13 = .ok (.iadd, 1) := by decide +kernel
theorem zdL_hasAt_14 : decode zkL_hasAt 14 = .ok (.invokevirtual 19, 3) := by decide +kernel
theorem zdL_hasAt_17 : decode zkL_hasAt 17 = .ok (.aload_n 1, 1) := by decide +kernel
theorem zdL_hasAt_18 : decode zkL_hasAt 18 = .ok (.iload_n 3, 1) := by decide +kernel
theorem zdL_hasAt_19 : decode zkL_hasAt 19 = .ok (.invokevirtual 19, 3) := by decide +kernel
theorem zdL_hasAt_22 : decode zkL_hasAt 22 = .ok (.if_icmp .eq 5, 3) := by decide +kernel
theorem zdL_hasAt_25 : decode zkL_hasAt 25 = .ok (.iconst 0, 1) := by decide +kernel
theorem zdL_hasAt_26 : decode zkL_hasAt 26 = .ok (.ireturn, 1) := by decide +kernel
theorem zdL_hasAt_27 : decode zkL_hasAt 27 = .ok (.iinc 3 1, 3) := by decide +kernel
theorem zdL_hasAt_30 : decode zkL_hasAt 30 = .ok (.goto (-28), 3) := by decide +kernel
theorem zdL_hasAt_33 : decode zkL_hasAt 33 = .ok (.iconst 1, 1) := by decide +kernel
theorem zdL_hasAt_34 : decode zkL_hasAt 34 = .ok (.ireturn, 1) := by decide +kernel
theorem zdR_init_0 : decode zkR_init 0 = .ok (.aload_n 0, 1) := by decide +kernel
theorem zdR_init_1 : decode zkR_init 1 = .ok (.invokespecial 3, 3) := by decide +kernel
theorem zdR_init_4 : decode zkR_init 4 = .ok (.aload_n 0, 1) := by decide +kernel
theorem zdR_init_5 : decode zkR_init 5 = .ok (.new 9, 3) := by decide +kernel
theorem zdR_init_8 : decode zkR_init 8 = .ok (.dup, 1) := by decide +kernel
theorem zdR_init_9 : decode zkR_init 9 = .ok (.bipush 60, 2) := by decide +kernel
theorem zdR_init_11 : decode zkR_init 11 = .ok (.invokespecial 11, 3) := by decide +kernel
theorem zdR_init_14 : decode zkR_init 14 = .ok (.putfield 14, 3) := by decide +kernel
theorem zdR_init_17 : decode zkR_init 17 = .ok (.aload_n 0, 1) := by decide +kernel
theorem zdR_init_18 : decode zkR_init 18 = .ok (.new 20, 3) := by decide +kernel
theorem zdR_init_21 : decode zkR_init 21 = .ok (.dup, 1) := by decide +kernel
theorem zdR_init_22 : decode zkR_init 22 = .ok (.invokespecial 22, 3) := by decide +kernel
theorem zdR_init_25 : decode zkR_init 25 = .ok (.putfield 23, 3) := by decide +kernel
theorem zdR_init_28 : decode zkR_init 28 = .ok (.aload_n 0, 1) := by decide +kernel
theorem zdR_init_29 : decode zkR_init 29 = .ok (.iconst (-1), 1) := by decide +kernel
theorem zdR_init_30 : decode zkR_init 30 = .ok (.putfield 27, 3) := by decide +kernel
theorem zdR_init_33 : decode zkR_init 33 = .ok (.return_, 1) := by decide +kernel
theorem zdS_init_0 : decode zkS_init 0 = .ok (.aload_n 0, 1) := by decide +kernel
theorem zdS_init_1 : decode zkS_init 1 = .ok (.invokespecial 3, 3) := by decide +kernel
theorem zdS_init_4 : decode zkS_init 4 = .ok (.aload_n 0, 1) := by decide +kernel
theorem zdS_init_5 : decode zkS_init 5 = .ok (.bipush 61, 2) := by decide +kernel
theorem zdS_init_7 : decode zkS_init 7 = .ok (.newarray .int, 2) := by decide +kernel
theorem zdS_init_9 : decode zkS_init 9 = .ok (.putfield 9, 3) := by decide +kernel
theorem zdS_init_12 : decode zkS_init 12 = .ok (.aload_n 0, 1) := by decide +kernel
theorem zdS_init_13 : decode zkS_init 13 = .ok (.bipush 61, 2) := by decide +kernel
theorem zdS_init_15 : decode zkS_init 15 = .ok (.newarray .int, 2) := by decide +kernel
theorem zdS_init_17 : decode zkS_init 17 = .ok (.putfield 15, 3) := by decide +kernel
theorem zdS_init_20 : decode zkS_init 20 = .ok (.aload_n 0, 1) := by decide +kernel
theorem zdS_init_21 : decode zkS_init 21 = .ok (.iconst 0, 1) := by decide +kernel
theorem zdS_init_22 : decode zkS_init 22 = .ok (.putfield 18, 3) := by decide +kernel
theorem zdS_init_25 : decode zkS_init 25 = .ok (.return_, 1) := by decide +kernel
theorem zdS_sort_0 : decode zkS_sort 0 = .ok (.aload_n 0, 1) := by decide +kernel
theorem zdS_sort_1 : decode zkS_sort 1 = .ok (.aload_n 1, 1) := by decide +kernel
theorem zdS_sort_2 : decode zkS_sort 2 = .ok (.getfield 22, 3) := by decide +kernel
theorem zdS_sort_5 : decode zkS_sort 5 = .ok (.putfield 18, 3) := by decide +kernel
theorem zdS_sort_8 : decode zkS_sort 8 = .ok (.aload_n 0, 1) := by decide +kernel
theorem zdS_sort_9 : decode zkS_sort 9 = .ok (.getfield 18, 3) := by decide +kernel
theorem zdS_sort_12 : decode zkS_sort 12 = .ok (.istore_n 2, 1) := by decide +kernel
theorem zdS_sort_13 : decode zkS_sort 13 = .ok (.iload_n 2, 1) := by decide +kernel
theorem zdS_sort_14 : decode zkS_sort 14 = .ok (.ifCond .lt 15, 3) := by decide +kernel
theorem zdS_sort_17 : decode zkS_sort 17 = .ok (.aload_n 0, 1) := by decide +kernel
theorem zdS_sort_18 : decode zkS_sort 18 = .ok (.aload_n 1, 1) := by decide +kernel
theorem zdS_sort_19 : decode zkS_sort 19 = .ok (.iload_n 2, 1) := by decide +kernel
theorem zdS_sort_20 : decode zkS_sort 20 = .ok (.invokevirtual 27, 3) := by decide +kernel
theorem zdS_sort_23 : decode zkS_sort 23 = .ok (.iinc 2 (-1), 3) := by decide +kernel
theorem zdS_sort_26 : decode zkS_sort 26 = .ok (.goto (-13), 3) := by decide +kernel
theorem zdS_sort_29 : decode zkS_sort 29 = .ok (.iconst 0, 1) := by decide +kernel
theorem zdS_sort_30 : decode zkS_sort 30 = .ok (.istore_n 2, 1) := by decide +kernel
theorem zdS_sort_31 : decode zkS_sort 31 = .ok (.iload_n 2, 1) := by decide +kernel
theorem zdS_sort_32 : decode zkS_sort 32 = .ok (.aload_n 0, 1) := by decide +kernel
theorem zdS_sort_33 : decode zkS_sort 33 = .ok (.getfield 18, 3) := by decide +kernel
theorem zdS_sort_36 : decode zkS_sort 36 = .ok (.if_icmp .gt 21, 3) := by decide +kernel
theorem zdS_sort_39 : decode zkS_sort 39 = .ok (.aload_n 0, 1) := by decide +kernel
theorem zdS_sort_40 : decode zkS_sort 40 = .ok (.getfield 15, 3) := by decide +kernel
theorem zdS_sort_43 : decode zkS_sort 43 = .ok (.aload_n 0, 1) := by decide +kernel
theorem zdS_sort_44 : decode zkS_sort 44 = .ok (.getfield 9, 3) := by decide +kernel
theorem zdS_sort_47 : decode zkS_sort 47 = .ok (.iload_n 2, 1) := by decide +kernel
theorem zdS_sort_48 : decode zkS_sort 48 = .ok (.iaload, 1) := by decide +kernel
theorem zdS_sort_49 : decode zkS_sort 49 = .ok (.iload_n 2, 1) := by decide +kernel
theorem zdS_sort_50 : decode zkS_sort 50 = .ok (.iastore, 1) := by decide +kernel
theorem zdS_sort_51 : decode zkS_sort 51 = .ok (.iinc 2 1, 3) := by decide +kernel
theorem zdS_sort_54 : decode zkS_sort 54 = .ok (.goto (-23), 3) := by decide +kernel
theorem zdS_sort_57 : decode zkS_sort 57 = .ok (.return_, 1) := by decide +kernel
theorem zdS_insert_0 : decode zkS_insert 0 = .ok (.iconst 0, 1) := by decide +kernel
theorem zdS_insert_1 : decode zkS_insert 1 = .ok (.istore_n 3, 1) := by decide +kernel
theorem zdS_insert_2 : decode zkS_insert 2 = .ok (.iload_n 2, 1) := by decide +kernel
theorem zdS_insert_3 : decode zkS_insert 3 = .ok (.iconst 1, 1) := by decide +kernel
theorem zdS_insert_4 : decode zkS_insert 4 = .ok (.iadd, 1) := by decide +kernel
theorem zdS_insert_5 : decode zkS_insert 5 = .ok (.istore 4, 2) := by decide +kernel
theorem zdS_insert_7 : decode zkS_insert 7 = .ok (.iload 4, 2) := by decide +kernel
theorem zdS_insert_9 : decode zkS_insert 9 = .ok (.aload_n 0, 1) := by decide +kernel
theorem zdS_insert_10 : decode zkS_insert 10 = .ok (.getfield 18, 3) := by decide +kernel
theorem zdS_insert_13 : decode zkS_insert 13 = .ok (.if_icmp .gt 23, 3) := by decide +kernel
theorem zdS_insert_16 : decode zkS_insert 16 = .ok (.aload_n 0, 1) := by decide +kernel
theorem zdS_insert_17 : decode zkS_insert 17 = .ok (.aload_n 1, 1) := by decide +kernel
theorem zdS_insert_18 : decode zkS_insert 18 = .ok (.iload 4, 2) := by decide +kernel
theorem zdS_insert_20 : decode zkS_insert 20 = .ok (.iload_n 2, 1) := by decide +kernel
theorem zdS_insert_21 : decode zkS_insert 21 = .ok (.invokevirtual 31, 3) := by decide +kernel
theorem zdS_insert_24 : decode zkS_insert 24 = .ok (.ifCond .eq 6, 3) := by decide +kernel
theorem zdS_insert_27 : decode zkS_insert 27 = .ok (.iinc 3 1, 3) := by decide +kernel
theorem zdS_insert_30 : decode zkS_insert 30 = .ok (.iinc 4 1, 3) := by decide +kernel
theorem zdS_insert_33 : decode zkS_insert 33 = .ok (.goto (-26), 3) := by decide +kernel
theorem zdS_insert_36 : decode zkS_insert 36 = .ok (.iload_n 2, 1) := by decide +kernel
theorem zdS_insert_37 : decode zkS_insert 37 = .ok (.iconst 1, 1) := by decide +kernel
theorem zdS_insert_38 : decode zkS_insert 38 = .ok (.iadd, 1) := by decide +kernel
theorem zdS_insert_39 : decode zkS_insert 39 = .ok (.istore 4, 2) := by decide +kernel
theorem zdS_insert_41 : decode zkS_insert 41 = .ok (.iload 4, 2) := by decide +kernel
theorem zdS_insert_43 : decode zkS_insert 43 = .ok (.aload_n 0, 1) := by decide +kernel
theorem zdS_insert_44 : decode zkS_insert 44 = .ok (.getfield 18, 3) := by decide +kernel
theorem zdS_insert_47 : decode zkS_insert 47 = .ok (.if_icmp .gt 31, 3) := by decide +kernel
theorem zdS_insert_50 : decode zkS_insert 50 = .ok (.aload_n 0, 1) := by decide +kernel
theorem zdS_insert_51 : decode zkS_insert 51 = .ok (.getfield 9, 3) := by decide +kernel
theorem zdS_insert_54 : decode zkS_insert 54 = .ok (.iload 4, 2) := by decide +kernel
theorem zdS_insert_56 : decode zkS_insert 56 = .ok (.iaload, 1) := by decide +kernel
theorem zdS_insert_57 : decode zkS_insert 57 = .ok (.iload_n 3, 1) := by decide +kernel
theorem zdS_insert_58 : decode zkS_insert 58 = .ok (.if_icmp .lt 14, 3) := by decide +kernel
theorem zdS_insert_61 : decode zkS_insert 61 = .ok (.aload_n 0, 1) := by decide +kernel
theorem zdS_insert_62 : decode zkS_insert 62 = .ok (.getfield 9, 3) := by decide +kernel
theorem zdS_insert_65 : decode zkS_insert 65 = .ok (.iload 4, 2) := by decide +kernel
theorem zdS_insert_67 : decode zkS_insert 67 = .ok (.dup2, 1) := by decide +kernel
theorem zdS_insert_68 : decode zkS_insert 68 = .ok (.iaload, 1) := by decide +kernel
theorem zdS_insert_69 : decode zkS_insert 69 = .ok (.iconst 1, 1) := by decide +kernel
theorem zdS_insert_70 : decode zkS_insert 70 = .ok (.iadd, 1) := by decide +kernel
theorem zdS_insert_71 : decode zkS_insert 71 = .ok (.iastore, 1) := by decide +kernel
theorem zdS_insert_72 : decode zkS_insert 72 = .ok (.iinc 4 1, 3) := by decide +kernel
theorem zdS_insert_75 : decode zkS_insert 75 = .ok (.goto (-34), 3) := by decide +kernel
theorem zdS_insert_78 : decode zkS_insert 78 = .ok (.aload_n 0, 1) := by decide +kernel
theorem zdS_insert_79 : decode zkS_insert 79 = .ok (.getfield 9, 3) := by decide +kernel
theorem zdS_insert_82 : decode zkS_insert 82 = .ok (.iload_n 2, 1) := by decide +kernel
theorem zdS_insert_83 : decode zkS_insert 83 = .ok (.iload_n 3, 1) := by decide +kernel
theorem zdS_insert_84 : decode zkS_insert 84 = .ok (.iastore, 1) := by decide +kernel
theorem zdS_insert_85 : decode zkS_insert 85 = .ok (.return_, 1) := by decide +kernel
theorem zdS_isSmaller_0 : decode zkS_isSmaller 0 = .ok (.aload_n 1, 1) := by decide +kernel
theorem zdS_isSmaller_1 : decode zkS_isSmaller 1 = .ok (.iload_n 2, 1) := by decide +kernel
theorem zdS_isSmaller_2 : decode zkS_isSmaller 2 = .ok (.invokevirtual 35, 3) := by decide +kernel
theorem zdS_isSmaller_5 : decode zkS_isSmaller 5 = .ok (.istore 4, 2) := by decide +kernel
theorem zdS_isSmaller_7 : decode zkS_isSmaller 7 = .ok (.aload_n 1, 1) := by decide +kernel
theorem zdS_isSmaller_8 : decode zkS_isSmaller 8 = .ok (.iload_n 3, 1) := by decide +kernel
theorem zdS_isSmaller_9 : decode zkS_isSmaller 9 = .ok (.invokevirtual 35, 3) := by decide +kernel
theorem zdS_isSmaller_12 : decode zkS_isSmaller 12 = .ok (.istore 5, 2) := by decide +kernel
theorem zdS_isSmaller_14 : decode zkS_isSmaller 14 = .ok (.iload 4, 2) := by decide +kernel
theorem zdS_isSmaller_16 : decode zkS_isSmaller 16 = .ok (.iload 5, 2) := by decide +kernel
theorem zdS_isSmaller_18 : decode zkS_isSmaller 18 = .ok (.if_icmp .ne 30, 3) := by decide +kernel
theorem zdS_isSmaller_21 : decode zkS_isSmaller 21 = .ok (.aload_n 0, 1) := by decide +kernel
theorem zdS_isSmaller_22 : decode zkS_isSmaller 22 = .ok (.getfield 9, 3) := by decide +kernel
theorem zdS_isSmaller_25 : decode zkS_isSmaller 25 = .ok (.iload_n 2, 1) := by decide +kernel
theorem zdS_isSmaller_26 : decode zkS_isSmaller 26 = .ok (.iconst 1, 1) := by decide +kernel
theorem zdS_isSmaller_27 : decode zkS_isSmaller 27 = .ok (.iadd, 1) := by decide +kernel
theorem zdS_isSmaller_28 : decode zkS_isSmaller 28 = .ok (.iaload, 1) := by decide +kernel
theorem zdS_isSmaller_29 : decode zkS_isSmaller 29 = .ok (.aload_n 0, 1) := by decide +kernel
theorem zdS_isSmaller_30 : decode zkS_isSmaller 30 = .ok (.getfield 9, 3) := by decide +kernel
theorem zdS_isSmaller_33 : decode zkS_isSmaller 33 = .ok (.iload_n 3, 1) := by decide +kernel
theorem zdS_isSmaller_34 : decode zkS_isSmaller 34 = .ok (.iconst 1, 1) := by decide +kernel
theorem zdS_isSmaller_35 : decode zkS_isSmaller 35 = .ok (.iadd, 1) := by decide +kernel
theorem zdS_isSmaller_36 : decode zkS_isSmaller 36 = .ok (.iaload, 1) := by decide +kernel
theorem zdS_isSmaller_37 : decode zkS_isSmaller 37 = .ok (.if_icmp .ge 7, 3) := by decide +kernel
theorem zdS_isSmaller_40 : decode zkS_isSmaller 40 = .ok (.iconst 1, 1) := by decide +kernel
theorem zdS_isSmaller_41 : decode zkS_isSmaller 41 = .ok (.goto 19, 3) := by decide +kernel
theorem zdS_isSmaller_44 : decode zkS_isSmaller 44 = .ok (.iconst 0, 1) := by decide +kernel
theorem zdS_isSmaller_45 : decode zkS_isSmaller 45 = .ok (.goto 15, 3) := by decide +kernel
theorem zdS_isSmaller_48 : decode zkS_isSmaller 48 = .ok (.iload 4, 2) := by decide +kernel
theorem zdS_isSmaller_50 : decode zkS_isSmaller 50 = .ok (.iload 5, 2) := by decide +kernel
theorem zdS_isSmaller_52 : decode zkS_isSmaller 52 = .ok (.if_icmp .ge 7, 3) := by decide +kernel
theorem zdS_isSmaller_55 : decode zkS_isSmaller 55 = .ok (.iconst 1, 1) := by decide +kernel
theorem zdS_isSmaller_56 : decode zkS_isSmaller 56 = .ok (.goto 4, 3) := by decide +kernel
theorem zdS_isSmaller_59 : decode zkS_isSmaller 59 = .ok (.iconst 0, 1) := by decide +kernel
theorem zdS_isSmaller_60 : decode zkS_isSmaller 60 = .ok (.ireturn, 1) := by decide +kernel
theorem zdJ_bitCount_0 : decode zkJ_bitCount 0 = .ok (.lload_n 0, 1) := by decide +kernel
theorem zdJ_bitCount_1 : decode zkJ_bitCount 1 = .ok (.lload_n 0, 1) := by decide +kernel
theorem zdJ_bitCount_2 : decode zkJ_bitCount 2 = .ok (.iconst 1, 1) := by decide +kernel
theorem zdJ_bitCount_3 : decode zkJ_bitCount 3 = .ok (.lushr, 1) := by decide +kernel
theorem zdJ_bitCount_4 : decode zkJ_bitCount 4 = .ok (.ldc2_w 314, 3) := by decide +kernel
theorem zdJ_bitCount_7 : decode zkJ_bitCount 7 = .ok (.land, 1) := by decide +kernel
theorem zdJ_bitCount_8 : decode zkJ_bitCount 8 = .ok (.lsub, 1) := by decide +kernel
theorem zdJ_bitCount_9 : decode zkJ_bitCount 9 = .ok (.lstore_n 0, 1) := by decide +kernel
theorem zdJ_bitCount_10 : decode zkJ_bitCount 10 = .ok (.lload_n 0, 1) := by decide +kernel
theorem zdJ_bitCount_11 : decode zkJ_bitCount 11 = .ok (.ldc2_w 316, 3) := by decide +kernel
theorem zdJ_bitCount_14 : decode zkJ_bitCount 14 = .ok (.land, 1) := by decide +kernel
theorem zdJ_bitCount_15 : decode zkJ_bitCount 15 = .ok (.lload_n 0, 1) := by decide +kernel
theorem zdJ_bitCount_16 : decode zkJ_bitCount 16 = .ok (.iconst 2, 1) := by decide +kernel
theorem zdJ_bitCount_17 : decode zkJ_bitCount 17 = .ok (.lushr, 1) := by decide +kernel
theorem zdJ_bitCount_18 : decode zkJ_bitCount 18 = .ok (.ldc2_w 316, 3) := by decide +kernel
theorem zdJ_bitCount_21 : decode zkJ_bitCount 21 = .ok (.land, 1) := by decide +kernel
theorem zdJ_bitCount_22 : decode zkJ_bitCount 22 = .ok (.ladd, 1) := by decide +kernel
theorem zdJ_bitCount_23 : decode zkJ_bitCount 23 = .ok (.lstore_n 0, 1) := by decide +kernel
theorem zdJ_bitCount_24 : decode zkJ_bitCount 24 = .ok (.lload_n 0, 1) := by decide +kernel
theorem zdJ_bitCount_25 : decode zkJ_bitCount 25 = .ok (.lload_n 0, 1) := by decide +kernel
theorem zdJ_bitCount_26 : decode zkJ_bitCount 26 = .ok (.iconst 4, 1) := by decide +kernel
theorem zdJ_bitCount_27 : decode zkJ_bitCount 27 = .ok (.lushr, 1) := by decide +kernel
theorem zdJ_bitCount_28 : decode zkJ_bitCount 28 = .ok (.ladd, 1) := by decide +kernel
theorem zdJ_bitCount_29 : decode zkJ_bitCount 29 = .ok (.ldc2_w 318, 3) := by decide +kernel
theorem zdJ_bitCount_32 : decode zkJ_bitCount 32 = .ok (.land, 1) := by decide +kernel
theorem zdJ_bitCount_33 : decode zkJ_bitCount 33 = .ok (.lstore_n 0, 1) := by decide +kernel
theorem zdJ_bitCount_34 : decode zkJ_bitCount 34 = .ok (.lload_n 0, 1) := by decide +kernel
theorem zdJ_bitCount_35 : decode zkJ_bitCount 35 = .ok (.lload_n 0, 1) := by decide +kernel
theorem zdJ_bitCount_36 : decode zkJ_bitCount 36 = .ok (.bipush 8, 2) := by decide +kernel
theorem zdJ_bitCount_38 : decode zkJ_bitCount 38 = .ok (.lushr, 1) := by decide +kernel
theorem zdJ_bitCount_39 : decode zkJ_bitCount 39 = .ok (.ladd, 1) := by decide +kernel
theorem zdJ_bitCount_40 : decode zkJ_bitCount 40 = .ok (.lstore_n 0, 1) := by decide +kernel
theorem zdJ_bitCount_41 : decode zkJ_bitCount 41 = .ok (.lload_n 0, 1) := by decide +kernel
theorem zdJ_bitCount_42 : decode zkJ_bitCount 42 = .ok (.lload_n 0, 1) := by decide +kernel
theorem zdJ_bitCount_43 : decode zkJ_bitCount 43 = .ok (.bipush 16, 2) := by decide +kernel
theorem zdJ_bitCount_45 : decode zkJ_bitCount 45 = .ok (.lushr, 1) := by decide +kernel
theorem zdJ_bitCount_46 : decode zkJ_bitCount 46 = .ok (.ladd, 1) := by decide +kernel
theorem zdJ_bitCount_47 : decode zkJ_bitCount 47 = .ok (.lstore_n 0, 1) := by decide +kernel
theorem zdJ_bitCount_48 : decode zkJ_bitCount 48 = .ok (.lload_n 0, 1) := by decide +kernel
theorem zdJ_bitCount_49 : decode zkJ_bitCount 49 = .ok (.lload_n 0, 1) := by decide +kernel
theorem zdJ_bitCount_50 : decode zkJ_bitCount 50 = .ok (.bipush 32, 2) := by decide +kernel
theorem zdJ_bitCount_52 : decode zkJ_bitCount 52 = .ok (.lushr, 1) := by decide +kernel
theorem zdJ_bitCount_53 : decode zkJ_bitCount 53 = .ok (.ladd, 1) := by decide +kernel
theorem zdJ_bitCount_54 : decode zkJ_bitCount 54 = .ok (.lstore_n 0, 1) := by decide +kernel
theorem zdJ_bitCount_55 : decode zkJ_bitCount 55 = .ok (.lload_n 0, 1) := by decide +kernel
theorem zdJ_bitCount_56 : decode zkJ_bitCount 56 = .ok (.l2i, 1) := by decide +kernel
theorem zdJ_bitCount_57 : decode zkJ_bitCount 57 = .ok (.bipush 127, 2) := by decide +kernel
theorem zdJ_bitCount_59 : decode zkJ_bitCount 59 = .ok (.iand, 1) := by decide +kernel
theorem zdJ_bitCount_60 : decode zkJ_bitCount 60 = .ok (.ireturn, 1) := by decide +kernel
end
section
/-! Decode rows. Written by wip/draft/gen_names.py -/
theorem zdM_init_0 : decode zkM_init 0 = .ok (.aload_n 0, 1) := by decide +kernel
theorem zdM_init_1 : decode zkM_init 1 = .ok (.invokespecial 1, 3) := by decide +kernel
theorem zdM_init_4 : decode zkM_init 4 = .ok (.aload_n 0, 1) := by decide +kernel
theorem zdM_init_5 : decode zkM_init 5 = .ok (.bipush 60, 2) := by decide +kernel
theorem zdM_init_7 : decode zkM_init 7 = .ok (.newarray .int, 2) := by decide +kernel
theorem zdM_init_9 : decode zkM_init 9 = .ok (.putfield 7, 3) := by decide +kernel
theorem zdM_init_12 : decode zkM_init 12 = .ok (.aload_n 0, 1) := by decide +kernel
theorem zdM_init_13 : decode zkM_init 13 = .ok (.bipush 23, 2) := by decide +kernel
theorem zdM_init_15 : decode zkM_init 15 = .ok (.newarray .long, 2) := by decide +kernel
theorem zdM_init_17 : decode zkM_init 17 = .ok (.putfield 13, 3) := by decide +kernel
theorem zdM_init_20 : decode zkM_init 20 = .ok (.aload_n 0, 1) := by decide +kernel
theorem zdM_init_21 : decode zkM_init 21 = .ok (.bipush 61, 2) := by decide +kernel
theorem zdM_init_23 : decode zkM_init 23 = .ok (.newarray .int, 2) := by decide +kernel
theorem zdM_init_25 : decode zkM_init 25 = .ok (.putfield 17, 3) := by decide +kernel
theorem zdM_init_28 : decode zkM_init 28 = .ok (.aload_n 0, 1) := by decide +kernel
theorem zdM_init_29 : decode zkM_init 29 = .ok (.bipush 61, 2) := by decide +kernel
theorem zdM_init_31 : decode zkM_init 31 = .ok (.newarray .int, 2) := by decide +kernel
theorem zdM_init_33 : decode zkM_init 33 = .ok (.putfield 20, 3) := by decide +kernel
theorem zdM_init_36 : decode zkM_init 36 = .ok (.aload_n 0, 1) := by decide +kernel
theorem zdM_init_37 : decode zkM_init 37 = .ok (.bipush 61, 2) := by decide +kernel
theorem zdM_init_39 : decode zkM_init 39 = .ok (.newarray .int, 2) := by decide +kernel
theorem zdM_init_41 : decode zkM_init 41 = .ok (.putfield 23, 3) := by decide +kernel
theorem zdM_init_44 : decode zkM_init 44 = .ok (.aload_n 0, 1) := by decide +kernel
theorem zdM_init_45 : decode zkM_init 45 = .ok (.bipush 20, 2) := by decide +kernel
theorem zdM_init_47 : decode zkM_init 47 = .ok (.newarray .int, 2) := by decide +kernel
theorem zdM_init_49 : decode zkM_init 49 = .ok (.putfield 26, 3) := by decide +kernel
theorem zdM_init_52 : decode zkM_init 52 = .ok (.aload_n 0, 1) := by decide +kernel
theorem zdM_init_53 : decode zkM_init 53 = .ok (.bipush 61, 2) := by decide +kernel
theorem zdM_init_55 : decode zkM_init 55 = .ok (.newarray .int, 2) := by decide +kernel
theorem zdM_init_57 : decode zkM_init 57 = .ok (.putfield 29, 3) := by decide +kernel
theorem zdM_init_60 : decode zkM_init 60 = .ok (.aload_n 0, 1) := by decide +kernel
theorem zdM_init_61 : decode zkM_init 61 = .ok (.bipush 61, 2) := by decide +kernel
theorem zdM_init_63 : decode zkM_init 63 = .ok (.newarray .int, 2) := by decide +kernel
theorem zdM_init_65 : decode zkM_init 65 = .ok (.putfield 32, 3) := by decide +kernel
theorem zdM_init_68 : decode zkM_init 68 = .ok (.aload_n 0, 1) := by decide +kernel
theorem zdM_init_69 : decode zkM_init 69 = .ok (.bipush 61, 2) := by decide +kernel
theorem zdM_init_71 : decode zkM_init 71 = .ok (.newarray .int, 2) := by decide +kernel
theorem zdM_init_73 : decode zkM_init 73 = .ok (.putfield 35, 3) := by decide +kernel
theorem zdM_init_76 : decode zkM_init 76 = .ok (.aload_n 0, 1) := by decide +kernel
theorem zdM_init_77 : decode zkM_init 77 = .ok (.bipush 23, 2) := by decide +kernel
theorem zdM_init_79 : decode zkM_init 79 = .ok (.newarray .long, 2) := by decide +kernel
theorem zdM_init_81 : decode zkM_init 81 = .ok (.putfield 38, 3) := by decide +kernel
theorem zdM_init_84 : decode zkM_init 84 = .ok (.aload_n 0, 1) := by decide +kernel
theorem zdM_init_85 : decode zkM_init 85 = .ok (.bipush 61, 2) := by decide +kernel
theorem zdM_init_87 : decode zkM_init 87 = .ok (.newarray .int, 2) := by decide +kernel
theorem zdM_init_89 : decode zkM_init 89 = .ok (.putfield 41, 3) := by decide +kernel
theorem zdM_init_92 : decode zkM_init 92 = .ok (.aload_n 0, 1) := by decide +kernel
theorem zdM_init_93 : decode zkM_init 93 = .ok (.bipush 61, 2) := by decide +kernel
theorem zdM_init_95 : decode zkM_init 95 = .ok (.newarray .int, 2) := by decide +kernel
theorem zdM_init_97 : decode zkM_init 97 = .ok (.putfield 44, 3) := by decide +kernel
theorem zdM_init_100 : decode zkM_init 100 = .ok (.aload_n 0, 1) := by decide +kernel
theorem zdM_init_101 : decode zkM_init 101 = .ok (.bipush 61, 2) := by decide +kernel
theorem zdM_init_103 : decode zkM_init 103 = .ok (.newarray .int, 2) := by decide +kernel
theorem zdM_init_105 : decode zkM_init 105 = .ok (.putfield 47, 3) := by decide +kernel
theorem zdM_init_108 : decode zkM_init 108 = .ok (.return_, 1) := by decide +kernel
theorem zdM_write_0 : decode zkM_write 0 = .ok (.iload_n 1, 1) := by decide +kernel
theorem zdM_write_1 : decode zkM_write 1 = .ok (.bipush 32, 2) := by decide +kernel
theorem zdM_write_3 : decode zkM_write 3 = .ok (.if_icmp .lt 18, 3) := by decide +kernel
theorem zdM_write_6 : decode zkM_write 6 = .ok (.iload_n 1, 1) := by decide +kernel
theorem zdM_write_7 : decode zkM_write 7 = .ok (.bipush 126, 2) := by decide +kernel
theorem zdM_write_9 : decode zkM_write 9 = .ok (.if_icmp .gt 12, 3) := by decide +kernel
theorem zdM_write_12 : decode zkM_write 12 = .ok (.aload_n 0, 1) := by decide +kernel
theorem zdM_write_13 : decode zkM_write 13 = .ok (.getfield 50, 3) := by decide +kernel
theorem zdM_write_16 : decode zkM_write 16 = .ok (.bipush 60, 2) := by decide +kernel
theorem zdM_write_18 : decode zkM_write 18 = .ok (.if_icmp .ne 5, 3) := by decide +kernel
theorem zdM_write_21 : decode zkM_write 21 = .ok (.iconst 0, 1) := by decide +kernel
theorem zdM_write_22 : decode zkM_write 22 = .ok (.ireturn, 1) := by decide +kernel
theorem zdM_write_23 : decode zkM_write 23 = .ok (.aload_n 0, 1) := by decide +kernel
theorem zdM_write_24 : decode zkM_write 24 = .ok (.getfield 7, 3) := by decide +kernel
theorem zdM_write_27 : decode zkM_write 27 = .ok (.aload_n 0, 1) := by decide +kernel
theorem zdM_write_28 : decode zkM_write 28 = .ok (.getfield 50, 3) := by decide +kernel
theorem zdM_write_31 : decode zkM_write 31 = .ok (.iload_n 1, 1) := by decide +kernel
theorem zdM_write_32 : decode zkM_write 32 = .ok (.iastore, 1) := by decide +kernel
theorem zdM_write_33 : decode zkM_write 33 = .ok (.aload_n 0, 1) := by decide +kernel
theorem zdM_write_34 : decode zkM_write 34 = .ok (.dup, 1) := by decide +kernel
theorem zdM_write_35 : decode zkM_write 35 = .ok (.getfield 50, 3) := by decide +kernel
theorem zdM_write_38 : decode zkM_write 38 = .ok (.iconst 1, 1) := by decide +kernel
theorem zdM_write_39 : decode zkM_write 39 = .ok (.iadd, 1) := by decide +kernel
theorem zdM_write_40 : decode zkM_write 40 = .ok (.putfield 50, 3) := by decide +kernel
theorem zdM_write_43 : decode zkM_write 43 = .ok (.iconst 1, 1) := by decide +kernel
theorem zdM_write_44 : decode zkM_write 44 = .ok (.ireturn, 1) := by decide +kernel
theorem zdM_erase_0 : decode zkM_erase 0 = .ok (.aload_n 0, 1) := by decide +kernel
theorem zdM_erase_1 : decode zkM_erase 1 = .ok (.iconst 0, 1) := by decide +kernel
theorem zdM_erase_2 : decode zkM_erase 2 = .ok (.putfield 50, 3) := by decide +kernel
theorem zdM_erase_5 : decode zkM_erase 5 = .ok (.return_, 1) := by decide +kernel
theorem zdM_word_0 : decode zkM_word 0 = .ok (.iload_n 1, 1) := by decide +kernel
theorem zdM_word_1 : decode zkM_word 1 = .ok (.ifCond .lt 9, 3) := by decide +kernel
theorem zdM_word_4 : decode zkM_word 4 = .ok (.iload_n 1, 1) := by decide +kernel
theorem zdM_word_5 : decode zkM_word 5 = .ok (.bipush 22, 2) := by decide +kernel
theorem zdM_word_7 : decode zkM_word 7 = .ok (.if_icmp .le 7, 3) := by decide +kernel
theorem zdM_word_10 : decode zkM_word 10 = .ok (.lconst 0, 1) := by decide +kernel
theorem zdM_word_11 : decode zkM_word 11 = .ok (.goto 9, 3) := by decide +kernel
theorem zdM_word_14 : decode zkM_word 14 = .ok (.aload_n 0, 1) := by decide +kernel
theorem zdM_word_15 : decode zkM_word 15 = .ok (.getfield 13, 3) := by decide +kernel
theorem zdM_word_18 : decode zkM_word 18 = .ok (.iload_n 1, 1) := by decide +kernel
theorem zdM_word_19 : decode zkM_word 19 = .ok (.laload, 1) := by decide +kernel
theorem zdM_word_20 : decode zkM_word 20 = .ok (.lreturn, 1) := by decide +kernel
theorem zdM_put_0 : decode zkM_put 0 = .ok (.iload_n 1, 1) := by decide +kernel
theorem zdM_put_1 : decode zkM_put 1 = .ok (.ifCond .lt 9, 3) := by decide +kernel
theorem zdM_put_4 : decode zkM_put 4 = .ok (.iload_n 1, 1) := by decide +kernel
theorem zdM_put_5 : decode zkM_put 5 = .ok (.bipush 22, 2) := by decide +kernel
theorem zdM_put_7 : decode zkM_put 7 = .ok (.if_icmp .le 5, 3) := by decide +kernel
theorem zdM_put_10 : decode zkM_put 10 = .ok (.iconst 0, 1) := by decide +kernel
theorem zdM_put_11 : decode zkM_put 11 = .ok (.ireturn, 1) := by decide +kernel
theorem zdM_put_12 : decode zkM_put 12 = .ok (.aload_n 0, 1) := by decide +kernel
theorem zdM_put_13 : decode zkM_put 13 = .ok (.getfield 13, 3) := by decide +kernel
theorem zdM_put_16 : decode zkM_put 16 = .ok (.iload_n 1, 1) := by decide +kernel
theorem zdM_put_17 : decode zkM_put 17 = .ok (.lload_n 2, 1) := by decide +kernel
theorem zdM_put_18 : decode zkM_put 18 = .ok (.lastore, 1) := by decide +kernel
theorem zdM_put_19 : decode zkM_put 19 = .ok (.iconst 1, 1) := by decide +kernel
theorem zdM_put_20 : decode zkM_put 20 = .ok (.ireturn, 1) := by decide +kernel
theorem zdM_flip_0 : decode zkM_flip 0 = .ok (.iload_n 1, 1) := by decide +kernel
theorem zdM_flip_1 : decode zkM_flip 1 = .ok (.ifCond .lt 19, 3) := by decide +kernel
theorem zdM_flip_4 : decode zkM_flip 4 = .ok (.iload_n 1, 1) := by decide +kernel
theorem zdM_flip_5 : decode zkM_flip 5 = .ok (.bipush 22, 2) := by decide +kernel
theorem zdM_flip_7 : decode zkM_flip 7 = .ok (.if_icmp .gt 13, 3) := by decide +kernel
theorem zdM_flip_10 : decode zkM_flip 10 = .ok (.iload_n 2, 1) := by decide +kernel
theorem zdM_flip_11 : decode zkM_flip 11 = .ok (.ifCond .lt 9, 3) := by decide +kernel
theorem zdM_flip_14 : decode zkM_flip 14 = .ok (.iload_n 2, 1) := by decide +kernel
theorem zdM_flip_15 : decode zkM_flip 15 = .ok (.bipush 63, 2) := by decide +kernel
theorem zdM_flip_17 : decode zkM_flip 17 = .ok (.if_icmp .le 5, 3) := by decide +kernel
theorem zdM_flip_20 : decode zkM_flip 20 = .ok (.iconst 0, 1) := by decide +kernel
theorem zdM_flip_21 : decode zkM_flip 21 = .ok (.ireturn, 1) := by decide +kernel
theorem zdM_flip_22 : decode zkM_flip 22 = .ok (.aload_n 0, 1) := by decide +kernel
theorem zdM_flip_23 : decode zkM_flip 23 = .ok (.getfield 13, 3) := by decide +kernel
theorem zdM_flip_26 : decode zkM_flip 26 = .ok (.iload_n 1, 1) := by decide +kernel
theorem zdM_flip_27 : decode zkM_flip 27 = .ok (.aload_n 0, 1) := by decide +kernel
theorem zdM_flip_28 : decode zkM_flip 28 = .ok (.getfield 13, 3) := by decide +kernel
theorem zdM_flip_31 : decode zkM_flip 31 = .ok (.iload_n 1, 1) := by decide +kernel
theorem zdM_flip_32 : decode zkM_flip 32 = .ok (.laload, 1) := by decide +kernel
theorem zdM_flip_33 : decode zkM_flip 33 = .ok (.lconst 1, 1) := by decide +kernel
theorem zdM_flip_34 : decode zkM_flip 34 = .ok (.iload_n 2, 1) := by decide +kernel
theorem zdM_flip_35 : decode zkM_flip 35 = .ok (.lshl, 1) := by decide +kernel
theorem zdM_flip_36 : decode zkM_flip 36 = .ok (.lxor, 1) := by decide +kernel
theorem zdM_flip_37 : decode zkM_flip 37 = .ok (.lastore, 1) := by decide +kernel
theorem zdM_flip_38 : decode zkM_flip 38 = .ok (.iconst 1, 1) := by decide +kernel
theorem zdM_flip_39 : decode zkM_flip 39 = .ok (.ireturn, 1) := by decide +kernel
theorem zdM_earlier_0 : decode zkM_earlier 0 = .ok (.iload_n 1, 1) := by decide +kernel
theorem zdM_earlier_1 : decode zkM_earlier 1 = .ok (.istore_n 3, 1) := by decide +kernel
theorem zdM_earlier_2 : decode zkM_earlier 2 = .ok (.iload_n 2, 1) := by decide +kernel
theorem zdM_earlier_3 : decode zkM_earlier 3 = .ok (.istore 4, 2) := by decide +kernel
theorem zdM_earlier_5 : decode zkM_earlier 5 = .ok (.iload_n 3, 1) := by decide +kernel
theorem zdM_earlier_6 : decode zkM_earlier 6 = .ok (.aload_n 0, 1) := by decide +kernel
theorem zdM_earlier_7 : decode zkM_earlier 7 = .ok (.getfield 54, 3) := by decide +kernel
theorem zdM_earlier_10 : decode zkM_earlier 10 = .ok (.if_icmp .ge 37, 3) := by decide +kernel
theorem zdM_earlier_13 : decode zkM_earlier 13 = .ok (.iload 4, 2) := by decide +kernel
theorem zdM_earlier_15 : decode zkM_earlier 15 = .ok (.aload_n 0, 1) := by decide +kernel
theorem zdM_earlier_16 : decode zkM_earlier 16 = .ok (.getfield 54, 3) := by decide +kernel
theorem zdM_earlier_19 : decode zkM_earlier 19 = .ok (.if_icmp .ge 28, 3) := by decide +kernel
theorem zdM_earlier_22 : decode zkM_earlier 22 = .ok (.aload_n 0, 1) := by decide +kernel
theorem zdM_earlier_23 : decode zkM_earlier 23 = .ok (.getfield 29, 3) := by decide +kernel
theorem zdM_earlier_26 : decode zkM_earlier 26 = .ok (.iload_n 3, 1) := by decide +kernel
theorem zdM_earlier_27 : decode zkM_earlier 27 = .ok (.iaload, 1) := by decide +kernel
theorem zdM_earlier_28 : decode zkM_earlier 28 = .ok (.aload_n 0, 1) := by decide +kernel
theorem zdM_earlier_29 : decode zkM_earlier 29 = .ok (.getfield 29, 3) := by decide +kernel
theorem zdM_earlier_32 : decode zkM_earlier 32 = .ok (.iload 4, 2) := by decide +kernel
theorem zdM_earlier_34 : decode zkM_earlier 34 = .ok (.iaload, 1) := by decide +kernel
theorem zdM_earlier_35 : decode zkM_earlier 35 = .ok (.if_icmp .ne 12, 3) := by decide +kernel
theorem zdM_earlier_38 : decode zkM_earlier 38 = .ok (.iinc 3 1, 3) := by decide +kernel
theorem zdM_earlier_41 : decode zkM_earlier 41 = .ok (.iinc 4 1, 3) := by decide +kernel
theorem zdM_earlier_44 : decode zkM_earlier 44 = .ok (.goto (-39), 3) := by decide +kernel
theorem zdM_earlier_47 : decode zkM_earlier 47 = .ok (.aload_n 0, 1) := by decide +kernel
theorem zdM_earlier_48 : decode zkM_earlier 48 = .ok (.getfield 29, 3) := by decide +kernel
theorem zdM_earlier_51 : decode zkM_earlier 51 = .ok (.iload_n 3, 1) := by decide +kernel
theorem zdM_earlier_52 : decode zkM_earlier 52 = .ok (.iaload, 1) := by decide +kernel
theorem zdM_earlier_53 : decode zkM_earlier 53 = .ok (.aload_n 0, 1) := by decide +kernel
theorem zdM_earlier_54 : decode zkM_earlier 54 = .ok (.getfield 29, 3) := by decide +kernel
theorem zdM_earlier_57 : decode zkM_earlier 57 = .ok (.iload 4, 2) := by decide +kernel
theorem zdM_earlier_59 : decode zkM_earlier 59 = .ok (.iaload, 1) := by decide +kernel
theorem zdM_earlier_60 : decode zkM_earlier 60 = .ok (.if_icmp .ge 7, 3) := by decide +kernel
theorem zdM_earlier_63 : decode zkM_earlier 63 = .ok (.iconst 1, 1) := by decide +kernel
theorem zdM_earlier_64 : decode zkM_earlier 64 = .ok (.goto 4, 3) := by decide +kernel
theorem zdM_earlier_67 : decode zkM_earlier 67 = .ok (.iconst 0, 1) := by decide +kernel
theorem zdM_earlier_68 : decode zkM_earlier 68 = .ok (.ireturn, 1) := by decide +kernel
theorem zdM_sort_0 : decode zkM_sort 0 = .ok (.aload_n 0, 1) := by decide +kernel
theorem zdM_sort_1 : decode zkM_sort 1 = .ok (.getfield 29, 3) := by decide +kernel
theorem zdM_sort_4 : decode zkM_sort 4 = .ok (.aload_n 0, 1) := by decide +kernel
theorem zdM_sort_5 : decode zkM_sort 5 = .ok (.getfield 54, 3) := by decide +kernel
theorem zdM_sort_8 : decode zkM_sort 8 = .ok (.iconst 0, 1) := by decide +kernel
theorem zdM_sort_9 : decode zkM_sort 9 = .ok (.iastore, 1) := by decide +kernel
theorem zdM_sort_10 : decode zkM_sort 10 = .ok (.iconst 0, 1) := by decide +kernel
theorem zdM_sort_11 : decode zkM_sort 11 = .ok (.istore_n 1, 1) := by decide +kernel
theorem zdM_sort_12 : decode zkM_sort 12 = .ok (.iload_n 1, 1) := by decide +kernel
theorem zdM_sort_13 : decode zkM_sort 13 = .ok (.aload_n 0, 1) := by decide +kernel
theorem zdM_sort_14 : decode zkM_sort 14 = .ok (.getfield 54, 3) := by decide +kernel
theorem zdM_sort_17 : decode zkM_sort 17 = .ok (.if_icmp .gt 63, 3) := by decide +kernel
theorem zdM_sort_20 : decode zkM_sort 20 = .ok (.iconst 0, 1) := by decide +kernel
theorem zdM_sort_21 : decode zkM_sort 21 = .ok (.istore_n 2, 1) := by decide +kernel
theorem zdM_sort_22 : decode zkM_sort 22 = .ok (.iconst 0, 1) := by decide +kernel
theorem zdM_sort_23 : decode zkM_sort 23 = .ok (.istore_n 3, 1) := by decide +kernel
theorem zdM_sort_24 : decode zkM_sort 24 = .ok (.iload_n 3, 1) := by decide +kernel
theorem zdM_sort_25 : decode zkM_sort 25 = .ok (.aload_n 0, 1) := by decide +kernel
theorem zdM_sort_26 : decode zkM_sort 26 = .ok (.getfield 54, 3) := by decide +kernel
theorem zdM_sort_29 : decode zkM_sort 29 = .ok (.if_icmp .gt 31, 3) := by decide +kernel
theorem zdM_sort_32 : decode zkM_sort 32 = .ok (.iload_n 3, 1) := by decide +kernel
theorem zdM_sort_33 : decode zkM_sort 33 = .ok (.iload_n 1, 1) := by decide +kernel
theorem zdM_sort_34 : decode zkM_sort 34 = .ok (.if_icmp .eq 18, 3) := by decide +kernel
theorem zdM_sort_37 : decode zkM_sort 37 = .ok (.aload_n 0, 1) := by decide +kernel
theorem zdM_sort_38 : decode zkM_sort 38 = .ok (.iload_n 3, 1) := by decide +kernel
theorem zdM_sort_39 : decode zkM_sort 39 = .ok (.iload_n 1, 1) := by decide +kernel
theorem zdM_sort_40 : decode zkM_sort 40 = .ok (.invokevirtual 57, 3) := by decide +kernel
theorem zdM_sort_43 : decode zkM_sort 43 = .ok (.ifCond .eq 9, 3) := by decide +kernel
theorem zdM_sort_46 : decode zkM_sort 46 = .ok (.iload_n 2, 1) := by decide +kernel
theorem zdM_sort_47 : decode zkM_sort 47 = .ok (.iconst 1, 1) := by decide +kernel
theorem zdM_sort_48 : decode zkM_sort 48 = .ok (.iadd, 1) := by decide +kernel
theorem zdM_sort_49 : decode zkM_sort 49 = .ok (.goto 4, 3) := by decide +kernel
theorem zdM_sort_52 : decode zkM_sort 52 = .ok (.iload_n 2, 1) := by decide +kernel
theorem zdM_sort_53 : decode zkM_sort 53 = .ok (.istore_n 2, 1) := by decide +kernel
theorem zdM_sort_54 : decode zkM_sort 54 = .ok (.iinc 3 1, 3) := by decide +kernel
theorem zdM_sort_57 : decode zkM_sort 57 = .ok (.goto (-33), 3) := by decide +kernel
theorem zdM_sort_60 : decode zkM_sort 60 = .ok (.aload_n 0, 1) := by decide +kernel
theorem zdM_sort_61 : decode zkM_sort 61 = .ok (.getfield 35, 3) := by decide +kernel
theorem zdM_sort_64 : decode zkM_sort 64 = .ok (.iload_n 1, 1) := by decide +kernel
theorem zdM_sort_65 : decode zkM_sort 65 = .ok (.iload_n 2, 1) := by decide +kernel
theorem zdM_sort_66 : decode zkM_sort 66 = .ok (.iastore, 1) := by decide +kernel
theorem zdM_sort_67 : decode zkM_sort 67 = .ok (.aload_n 0, 1) := by decide +kernel
theorem zdM_sort_68 : decode zkM_sort 68 = .ok (.getfield 32, 3) := by decide +kernel
theorem zdM_sort_71 : decode zkM_sort 71 = .ok (.iload_n 2, 1) := by decide +kernel
theorem zdM_sort_72 : decode zkM_sort 72 = .ok (.iload_n 1, 1) := by decide +kernel
theorem zdM_sort_73 : decode zkM_sort 73 = .ok (.iastore, 1) := by decide +kernel
theorem zdM_sort_74 : decode zkM_sort 74 = .ok (.iinc 1 1, 3) := by decide +kernel
theorem zdM_sort_77 : decode zkM_sort 77 = .ok (.goto (-65), 3) := by decide +kernel
theorem zdM_sort_80 : decode zkM_sort 80 = .ok (.return_, 1) := by decide +kernel
theorem zdM_levels_0 : decode zkM_levels 0 = .ok (.iconst 0, 1) := by decide +kernel
theorem zdM_levels_1 : decode zkM_levels 1 = .ok (.istore_n 1, 1) := by decide +kernel
theorem zdM_levels_2 : decode zkM_levels 2 = .ok (.iload_n 1, 1) := by decide +kernel
theorem zdM_levels_3 : decode zkM_levels 3 = .ok (.aload_n 0, 1) := by decide +kernel
theorem zdM_levels_4 : decode zkM_levels 4 = .ok (.getfield 54, 3) := by decide +kernel
theorem zdM_levels_7 : decode zkM_levels 7 = .ok (.if_icmp .gt 41, 3) := by decide +kernel
theorem zdM_levels_10 : decode zkM_levels 10 = .ok (.aload_n 0, 1) := by decide +kernel
theorem zdM_levels_11 : decode zkM_levels 11 = .ok (.getfield 41, 3) := by decide +kernel
theorem zdM_levels_14 : decode zkM_levels 14 = .ok (.iload_n 1, 1) := by decide +kernel
theorem zdM_levels_15 : decode zkM_levels 15 = .ok (.aload_n 0, 1) := by decide +kernel
theorem zdM_levels_16 : decode zkM_levels 16 = .ok (.getfield 32, 3) := by decide +kernel
theorem zdM_levels_19 : decode zkM_levels 19 = .ok (.iload_n 1, 1) := by decide +kernel
theorem zdM_levels_20 : decode zkM_levels 20 = .ok (.iaload, 1) := by decide +kernel
theorem zdM_levels_21 : decode zkM_levels 21 = .ok (.ifCond .ne 7, 3) := by decide +kernel
theorem zdM_levels_24 : decode zkM_levels 24 = .ok (.iconst 0, 1) := by decide +kernel
theorem zdM_levels_25 : decode zkM_levels 25 = .ok (.goto 16, 3) := by decide +kernel
theorem zdM_levels_28 : decode zkM_levels 28 = .ok (.aload_n 0, 1) := by decide +kernel
theorem zdM_levels_29 : decode zkM_levels 29 = .ok (.getfield 29, 3) := by decide +kernel
theorem zdM_levels_32 : decode zkM_levels 32 = .ok (.aload_n 0, 1) := by decide +kernel
theorem zdM_levels_33 : decode zkM_levels 33 = .ok (.getfield 32, 3) := by decide +kernel
theorem zdM_levels_36 : decode zkM_levels 36 = .ok (.iload_n 1, 1) := by decide +kernel
theorem zdM_levels_37 : decode zkM_levels 37 = .ok (.iaload, 1) := by decide +kernel
theorem zdM_levels_38 : decode zkM_levels 38 = .ok (.iconst 1, 1) := by decide +kernel
theorem zdM_levels_39 : decode zkM_levels 39 = .ok (.isub, 1) := by decide +kernel
theorem zdM_levels_40 : decode zkM_levels 40 = .ok (.iaload, 1) := by decide +kernel
theorem zdM_levels_41 : decode zkM_levels 41 = .ok (.iastore, 1) := by decide +kernel
theorem zdM_levels_42 : decode zkM_levels 42 = .ok (.iinc 1 1, 3) := by decide +kernel
theorem zdM_levels_45 : decode zkM_levels 45 = .ok (.goto (-43), 3) := by decide +kernel
theorem zdM_levels_48 : decode zkM_levels 48 = .ok (.iconst 0, 1) := by decide +kernel
theorem zdM_levels_49 : decode zkM_levels 49 = .ok (.istore_n 1, 1) := by decide +kernel
theorem zdM_levels_50 : decode zkM_levels 50 = .ok (.iload_n 1, 1) := by decide +kernel
theorem zdM_levels_51 : decode zkM_levels 51 = .ok (.bipush 7, 2) := by decide +kernel
theorem zdM_levels_53 : decode zkM_levels 53 = .ok (.if_icmp .ge 126, 3) := by decide +kernel
theorem zdM_levels_56 : decode zkM_levels 56 = .ok (.iconst 0, 1) := by decide +kernel
theorem zdM_levels_57 : decode zkM_levels 57 = .ok (.istore_n 2, 1) := by decide +kernel
theorem zdM_levels_58 : decode zkM_levels 58 = .ok (.iconst 0, 1) := by decide +kernel
theorem zdM_levels_59 : decode zkM_levels 59 = .ok (.istore_n 3, 1) := by decide +kernel
theorem zdM_levels_60 : decode zkM_levels 60 = .ok (.iload_n 3, 1) := by decide +kernel
theorem zdM_levels_61 : decode zkM_levels 61 = .ok (.iconst 2, 1) := by decide +kernel
theorem zdM_levels_62 : decode zkM_levels 62 = .ok (.if_icmp .ge 83, 3) := by decide +kernel
theorem zdM_levels_65 : decode zkM_levels 65 = .ok (.iconst 0, 1) := by decide +kernel
theorem zdM_levels_66 : decode zkM_levels 66 = .ok (.istore 4, 2) := by decide +kernel
theorem zdM_levels_68 : decode zkM_levels 68 = .ok (.iload 4, 2) := by decide +kernel
theorem zdM_levels_70 : decode zkM_levels 70 = .ok (.aload_n 0, 1) := by decide +kernel
theorem zdM_levels_71 : decode zkM_levels 71 = .ok (.getfield 54, 3) := by decide +kernel
theorem zdM_levels_74 : decode zkM_levels 74 = .ok (.if_icmp .gt 65, 3) := by decide +kernel
theorem zdM_levels_77 : decode zkM_levels 77 = .ok (.aload_n 0, 1) := by decide +kernel
theorem zdM_levels_78 : decode zkM_levels 78 = .ok (.getfield 41, 3) := by decide +kernel
theorem zdM_levels_81 : decode zkM_levels 81 = .ok (.iload 4, 2) := by decide +kernel
theorem zdM_levels_83 : decode zkM_levels 83 = .ok (.iaload, 1) := by decide +kernel
theorem zdM_levels_84 : decode zkM_levels 84 = .ok (.bipush 6, 2) := by decide +kernel
theorem zdM_levels_86 : decode zkM_levels 86 = .ok (.iload_n 1, 1) := by decide +kernel
theorem zdM_levels_87 : decode zkM_levels 87 = .ok (.isub, 1) := by decide +kernel
theorem zdM_levels_88 : decode zkM_levels 88 = .ok (.ishr, 1) := by decide +kernel
theorem zdM_levels_89 : decode zkM_levels 89 = .ok (.iconst 1, 1) := by decide +kernel
theorem zdM_levels_90 : decode zkM_levels 90 = .ok (.iand, 1) := by decide +kernel
theorem zdM_levels_91 : decode zkM_levels 91 = .ok (.iload_n 3, 1) := by decide +kernel
theorem zdM_levels_92 : decode zkM_levels 92 = .ok (.if_icmp .ne 41, 3) := by decide +kernel
theorem zdM_levels_95 : decode zkM_levels 95 = .ok (.aload_n 0, 1) := by decide +kernel
theorem zdM_levels_96 : decode zkM_levels 96 = .ok (.getfield 44, 3) := by decide +kernel
theorem zdM_levels_99 : decode zkM_levels 99 = .ok (.iload_n 2, 1) := by decide +kernel
theorem zdM_levels_100 : decode zkM_levels 100 = .ok (.aload_n 0, 1) := by decide +kernel
theorem zdM_levels_101 : decode zkM_levels 101 = .ok (.getfield 41, 3) := by decide +kernel
theorem zdM_levels_104 : decode zkM_levels 104 = .ok (.iload 4, 2) := by decide +kernel
theorem zdM_levels_106 : decode zkM_levels 106 = .ok (.iaload, 1) := by decide +kernel
theorem zdM_levels_107 : decode zkM_levels 107 = .ok (.iastore, 1) := by decide +kernel
theorem zdM_levels_108 : decode zkM_levels 108 = .ok (.iinc 2 1, 3) := by decide +kernel
theorem zdM_levels_111 : decode zkM_levels 111 = .ok (.aload_n 0, 1) := by decide +kernel
theorem zdM_levels_112 : decode zkM_levels 112 = .ok (.getfield 38, 3) := by decide +kernel
theorem zdM_levels_115 : decode zkM_levels 115 = .ok (.iconst 1, 1) := by decide +kernel
theorem zdM_levels_116 : decode zkM_levels 116 = .ok (.iload_n 1, 1) := by decide +kernel
theorem zdM_levels_117 : decode zkM_levels 117 = .ok (.iadd, 1) := by decide +kernel
theorem zdM_levels_118 : decode zkM_levels 118 = .ok (.aload_n 0, 1) := by decide +kernel
theorem zdM_levels_119 : decode zkM_levels 119 = .ok (.getfield 38, 3) := by decide +kernel
theorem zdM_levels_122 : decode zkM_levels 122 = .ok (.iconst 1, 1) := by decide +kernel
theorem zdM_levels_123 : decode zkM_levels 123 = .ok (.iload_n 1, 1) := by decide +kernel
theorem zdM_levels_124 : decode zkM_levels 124 = .ok (.iadd, 1) := by decide +kernel
theorem zdM_levels_125 : decode zkM_levels 125 = .ok (.laload, 1) := by decide +kernel
theorem zdM_levels_126 : decode zkM_levels 126 = .ok (.iload_n 3, 1) := by decide +kernel
theorem zdM_levels_127 : decode zkM_levels 127 = .ok (.i2l, 1) := by decide +kernel
theorem zdM_levels_128 : decode zkM_levels 128 = .ok (.iload 4, 2) := by decide +kernel
theorem zdM_levels_130 : decode zkM_levels 130 = .ok (.lshl, 1) := by decide +kernel
theorem zdM_levels_131 : decode zkM_levels 131 = .ok (.lor, 1) := by decide +kernel
theorem zdM_levels_132 : decode zkM_levels 132 = .ok (.lastore, 1) := by decide +kernel
theorem zdM_levels_133 : decode zkM_levels 133 = .ok (.iinc 4 1, 3) := by decide +kernel
theorem zdM_levels_136 : decode zkM_levels 136 = .ok (.goto (-68), 3) := by decide +kernel
theorem zdM_levels_139 : decode zkM_levels 139 = .ok (.iinc 3 1, 3) := by decide +kernel
theorem zdM_levels_142 : decode zkM_levels 142 = .ok (.goto (-82), 3) := by decide +kernel
theorem zdM_levels_145 : decode zkM_levels 145 = .ok (.iconst 0, 1) := by decide +kernel
theorem zdM_levels_146 : decode zkM_levels 146 = .ok (.istore_n 3, 1) := by decide +kernel
theorem zdM_levels_147 : decode zkM_levels 147 = .ok (.iload_n 3, 1) := by decide +kernel
theorem zdM_levels_148 : decode zkM_levels 148 = .ok (.aload_n 0, 1) := by decide +kernel
theorem zdM_levels_149 : decode zkM_levels 149 = .ok (.getfield 54, 3) := by decide +kernel
theorem zdM_levels_152 : decode zkM_levels 152 = .ok (.if_icmp .gt 21, 3) := by decide +kernel
theorem zdM_levels_155 : decode zkM_levels 155 = .ok (.aload_n 0, 1) := by decide +kernel
theorem zdM_levels_156 : decode zkM_levels 156 = .ok (.getfield 41, 3) := by decide +kernel
theorem zdM_levels_159 : decode zkM_levels 159 = .ok (.iload_n 3, 1) := by decide +kernel
theorem zdM_levels_160 : decode zkM_levels 160 = .ok (.aload_n 0, 1) := by decide +kernel
theorem zdM_levels_161 : decode zkM_levels 161 = .ok (.getfield 44, 3) := by decide +kernel
theorem zdM_levels_164 : decode zkM_levels 164 = .ok (.iload_n 3, 1) := by decide +kernel
theorem zdM_levels_165 : decode zkM_levels 165 = .ok (.iaload, 1) := by decide +kernel
theorem zdM_levels_166 : decode zkM_levels 166 = .ok (.iastore, 1) := by decide +kernel
theorem zdM_levels_167 : decode zkM_levels 167 = .ok (.iinc 3 1, 3) := by decide +kernel
theorem zdM_levels_170 : decode zkM_levels 170 = .ok (.goto (-23), 3) := by decide +kernel
theorem zdM_levels_173 : decode zkM_levels 173 = .ok (.iinc 1 1, 3) := by decide +kernel
theorem zdM_levels_176 : decode zkM_levels 176 = .ok (.goto (-126), 3) := by decide +kernel
theorem zdM_levels_179 : decode zkM_levels 179 = .ok (.return_, 1) := by decide +kernel
theorem zdM_picture_0 : decode zkM_picture 0 = .ok (.iconst 0, 1) := by decide +kernel
theorem zdM_picture_1 : decode zkM_picture 1 = .ok (.istore_n 2, 1) := by decide +kernel
theorem zdM_picture_2 : decode zkM_picture 2 = .ok (.iload_n 2, 1) := by decide +kernel
theorem zdM_picture_3 : decode zkM_picture 3 = .ok (.bipush 23, 2) := by decide +kernel
theorem zdM_picture_5 : decode zkM_picture 5 = .ok (.if_icmp .ge 16, 3) := by decide +kernel
theorem zdM_picture_8 : decode zkM_picture 8 = .ok (.aload_n 0, 1) := by decide +kernel
theorem zdM_picture_9 : decode zkM_picture 9 = .ok (.getfield 38, 3) := by decide +kernel
theorem zdM_picture_12 : decode zkM_picture 12 = .ok (.iload_n 2, 1) := by decide +kernel
theorem zdM_picture_13 : decode zkM_picture 13 = .ok (.lconst 0, 1) := by decide +kernel
theorem zdM_picture_14 : decode zkM_picture 14 = .ok (.lastore, 1) := by decide +kernel
theorem zdM_picture_15 : decode zkM_picture 15 = .ok (.iinc 2 1, 3) := by decide +kernel
theorem zdM_picture_18 : decode zkM_picture 18 = .ok (.goto (-16), 3) := by decide +kernel
theorem zdM_picture_21 : decode zkM_picture 21 = .ok (.aload_n 0, 1) := by decide +kernel
theorem zdM_picture_22 : decode zkM_picture 22 = .ok (.invokevirtual 61, 3) := by decide +kernel
theorem zdM_picture_25 : decode zkM_picture 25 = .ok (.aload_n 0, 1) := by decide +kernel
theorem zdM_picture_26 : decode zkM_picture 26 = .ok (.getfield 38, 3) := by decide +kernel
theorem zdM_picture_29 : decode zkM_picture 29 = .ok (.iconst 0, 1) := by decide +kernel
theorem zdM_picture_30 : decode zkM_picture 30 = .ok (.aload_n 0, 1) := by decide +kernel
theorem zdM_picture_31 : decode zkM_picture 31 = .ok (.getfield 54, 3) := by decide +kernel
theorem zdM_picture_34 : decode zkM_picture 34 = .ok (.i2l, 1) := by decide +kernel
theorem zdM_picture_35 : decode zkM_picture 35 = .ok (.ldc2_w 64, 3) := by decide +kernel
theorem zdM_picture_38 : decode zkM_picture 38 = .ok (.iload_n 1, 1) := by decide +kernel
theorem zdM_picture_39 : decode zkM_picture 39 = .ok (.i2l, 1) := by decide +kernel
theorem zdM_picture_40 : decode zkM_picture 40 = .ok (.lmul, 1) := by decide +kernel
theorem zdM_picture_41 : decode zkM_picture 41 = .ok (.ladd, 1) := by decide +kernel
theorem zdM_picture_42 : decode zkM_picture 42 = .ok (.lastore, 1) := by decide +kernel
theorem zdM_picture_43 : decode zkM_picture 43 = .ok (.aload_n 0, 1) := by decide +kernel
theorem zdM_picture_44 : decode zkM_picture 44 = .ok (.invokevirtual 66, 3) := by decide +kernel
theorem zdM_picture_47 : decode zkM_picture 47 = .ok (.iconst 0, 1) := by decide +kernel
theorem zdM_picture_48 : decode zkM_picture 48 = .ok (.istore_n 2, 1) := by decide +kernel
theorem zdM_picture_49 : decode zkM_picture 49 = .ok (.iconst 0, 1) := by decide +kernel
theorem zdM_picture_50 : decode zkM_picture 50 = .ok (.istore_n 3, 1) := by decide +kernel
theorem zdM_picture_51 : decode zkM_picture 51 = .ok (.iload_n 3, 1) := by decide +kernel
theorem zdM_picture_52 : decode zkM_picture 52 = .ok (.aload_n 0, 1) := by decide +kernel
theorem zdM_picture_53 : decode zkM_picture 53 = .ok (.getfield 54, 3) := by decide +kernel
theorem zdM_picture_56 : decode zkM_picture 56 = .ok (.if_icmp .gt 83, 3) := by decide +kernel
theorem zdM_picture_59 : decode zkM_picture 59 = .ok (.aload_n 0, 1) := by decide +kernel
theorem zdM_picture_60 : decode zkM_picture 60 = .ok (.getfield 32, 3) := by decide +kernel
theorem zdM_picture_63 : decode zkM_picture 63 = .ok (.iload_n 3, 1) := by decide +kernel
theorem zdM_picture_64 : decode zkM_picture 64 = .ok (.iaload, 1) := by decide +kernel
theorem zdM_picture_65 : decode zkM_picture 65 = .ok (.iload_n 1, 1) := by decide +kernel
theorem zdM_picture_66 : decode zkM_picture 66 = .ok (.irem, 1) := by decide +kernel
theorem zdM_picture_67 : decode zkM_picture 67 = .ok (.ifCond .ne 66, 3) := by decide +kernel
theorem zdM_picture_70 : decode zkM_picture 70 = .ok (.aload_n 0, 1) := by decide +kernel
theorem zdM_picture_71 : decode zkM_picture 71 = .ok (.getfield 38, 3) := by decide +kernel
theorem zdM_picture_74 : decode zkM_picture 74 = .ok (.bipush 8, 2) := by decide +kernel
theorem zdM_picture_76 : decode zkM_picture 76 = .ok (.aload_n 0, 1) := by decide +kernel
theorem zdM_picture_77 : decode zkM_picture 77 = .ok (.getfield 38, 3) := by decide +kernel
theorem zdM_picture_80 : decode zkM_picture 80 = .ok (.bipush 8, 2) := by decide +kernel
theorem zdM_picture_82 : decode zkM_picture 82 = .ok (.laload, 1) := by decide +kernel
theorem zdM_picture_83 : decode zkM_picture 83 = .ok (.lconst 1, 1) := by decide +kernel
theorem zdM_picture_84 : decode zkM_picture 84 = .ok (.iload_n 3, 1) := by decide +kernel
theorem zdM_picture_85 : decode zkM_picture 85 = .ok (.lshl, 1) := by decide +kernel
theorem zdM_picture_86 : decode zkM_picture 86 = .ok (.lor, 1) := by decide +kernel
theorem zdM_picture_87 : decode zkM_picture 87 = .ok (.lastore, 1) := by decide +kernel
theorem zdM_picture_88 : decode zkM_picture 88 = .ok (.aload_n 0, 1) := by decide +kernel
theorem zdM_picture_89 : decode zkM_picture 89 = .ok (.getfield 38, 3) := by decide +kernel
theorem zdM_picture_92 : decode zkM_picture 92 = .ok (.bipush 9, 2) := by decide +kernel
theorem zdM_picture_94 : decode zkM_picture 94 = .ok (.iload_n 2, 1) := by decide +kernel
theorem zdM_picture_95 : decode zkM_picture 95 = .ok (.bipush 10, 2) := by decide +kernel
theorem zdM_picture_97 : decode zkM_picture 97 = .ok (.idiv, 1) := by decide +kernel
theorem zdM_picture_98 : decode zkM_picture 98 = .ok (.iadd, 1) := by decide +kernel
theorem zdM_picture_99 : decode zkM_picture 99 = .ok (.aload_n 0, 1) := by decide +kernel
theorem zdM_picture_100 : decode zkM_picture 100 = .ok (.getfield 38, 3) := by decide +kernel
theorem zdM_picture_103 : decode zkM_picture 103 = .ok (.bipush 9, 2) := by decide +kernel
theorem zdM_picture_105 : decode zkM_picture 105 = .ok (.iload_n 2, 1) := by decide +kernel
theorem zdM_picture_106 : decode zkM_picture 106 = .ok (.bipush 10, 2) := by decide +kernel
theorem zdM_picture_108 : decode zkM_picture 108 = .ok (.idiv, 1) := by decide +kernel
theorem zdM_picture_109 : decode zkM_picture 109 = .ok (.iadd, 1) := by decide +kernel
theorem zdM_picture_110 : decode zkM_picture 110 = .ok (.laload, 1) := by decide +kernel
theorem zdM_picture_111 : decode zkM_picture 111 = .ok (.aload_n 0, 1) := by decide +kernel
theorem zdM_picture_112 : decode zkM_picture 112 = .ok (.getfield 32, 3) := by decide +kernel
theorem zdM_picture_115 : decode zkM_picture 115 = .ok (.iload_n 3, 1) := by decide +kernel
theorem zdM_picture_116 : decode zkM_picture 116 = .ok (.iaload, 1) := by decide +kernel
theorem zdM_picture_117 : decode zkM_picture 117 = .ok (.iload_n 1, 1) := by decide +kernel
theorem zdM_picture_118 : decode zkM_picture 118 = .ok (.idiv, 1) := by decide +kernel
theorem zdM_picture_119 : decode zkM_picture 119 = .ok (.i2l, 1) := by decide +kernel
theorem zdM_picture_120 : decode zkM_picture 120 = .ok (.bipush 6, 2) := by decide +kernel
theorem zdM_picture_122 : decode zkM_picture 122 = .ok (.iload_n 2, 1) := by decide +kernel
theorem zdM_picture_123 : decode zkM_picture 123 = .ok (.bipush 10, 2) := by decide +kernel
theorem zdM_picture_125 : decode zkM_picture 125 = .ok (.irem, 1) := by decide +kernel
theorem zdM_picture_126 : decode zkM_picture 126 = .ok (.imul, 1) := by decide +kernel
theorem zdM_picture_127 : decode zkM_picture 127 = .ok (.lshl, 1) := by decide +kernel
theorem zdM_picture_128 : decode zkM_picture 128 = .ok (.lor, 1) := by decide +kernel
theorem zdM_picture_129 : decode zkM_picture 129 = .ok (.lastore, 1) := by decide +kernel
theorem zdM_picture_130 : decode zkM_picture 130 = .ok (.iinc 2 1, 3) := by decide +kernel
theorem zdM_picture_133 : decode zkM_picture 133 = .ok (.iinc 3 1, 3) := by decide +kernel
theorem zdM_picture_136 : decode zkM_picture 136 = .ok (.goto (-85), 3) := by decide +kernel
theorem zdM_picture_139 : decode zkM_picture 139 = .ok (.iconst 0, 1) := by decide +kernel
theorem zdM_picture_140 : decode zkM_picture 140 = .ok (.istore_n 3, 1) := by decide +kernel
theorem zdM_picture_141 : decode zkM_picture 141 = .ok (.iload_n 3, 1) := by decide +kernel
theorem zdM_picture_142 : decode zkM_picture 142 = .ok (.iload_n 1, 1) := by decide +kernel
theorem zdM_picture_143 : decode zkM_picture 143 = .ok (.imul, 1) := by decide +kernel
theorem zdM_picture_144 : decode zkM_picture 144 = .ok (.aload_n 0, 1) := by decide +kernel
theorem zdM_picture_145 : decode zkM_picture 145 = .ok (.getfield 54, 3) := by decide +kernel
theorem zdM_picture_148 : decode zkM_picture 148 = .ok (.if_icmp .gt 51, 3) := by decide +kernel
theorem zdM_picture_151 : decode zkM_picture 151 = .ok (.aload_n 0, 1) := by decide +kernel
theorem zdM_picture_152 : decode zkM_picture 152 = .ok (.getfield 38, 3) := by decide +kernel
theorem zdM_picture_155 : decode zkM_picture 155 = .ok (.bipush 16, 2) := by decide +kernel
theorem zdM_picture_157 : decode zkM_picture 157 = .ok (.iload_n 3, 1) := by decide +kernel
theorem zdM_picture_158 : decode zkM_picture 158 = .ok (.bipush 10, 2) := by decide +kernel
theorem zdM_picture_160 : decode zkM_picture 160 = .ok (.idiv, 1) := by decide +kernel
theorem zdM_picture_161 : decode zkM_picture 161 = .ok (.iadd, 1) := by decide +kernel
theorem zdM_picture_162 : decode zkM_picture 162 = .ok (.aload_n 0, 1) := by decide +kernel
theorem zdM_picture_163 : decode zkM_picture 163 = .ok (.getfield 38, 3) := by decide +kernel
theorem zdM_picture_166 : decode zkM_picture 166 = .ok (.bipush 16, 2) := by decide +kernel
theorem zdM_picture_168 : decode zkM_picture 168 = .ok (.iload_n 3, 1) := by decide +kernel
theorem zdM_picture_169 : decode zkM_picture 169 = .ok (.bipush 10, 2) := by decide +kernel
theorem zdM_picture_171 : decode zkM_picture 171 = .ok (.idiv, 1) := by decide +kernel
theorem zdM_picture_172 : decode zkM_picture 172 = .ok (.iadd, 1) := by decide +kernel
theorem zdM_picture_173 : decode zkM_picture 173 = .ok (.laload, 1) := by decide +kernel
theorem zdM_picture_174 : decode zkM_picture 174 = .ok (.aload_n 0, 1) := by decide +kernel
theorem zdM_picture_175 : decode zkM_picture 175 = .ok (.getfield 35, 3) := by decide +kernel
theorem zdM_picture_178 : decode zkM_picture 178 = .ok (.iload_n 3, 1) := by decide +kernel
theorem zdM_picture_179 : decode zkM_picture 179 = .ok (.iload_n 1, 1) := by decide +kernel
theorem zdM_picture_180 : decode zkM_picture 180 = .ok (.imul, 1) := by decide +kernel
theorem zdM_picture_181 : decode zkM_picture 181 = .ok (.iaload, 1) := by decide +kernel
theorem zdM_picture_182 : decode zkM_picture 182 = .ok (.i2l, 1) := by decide +kernel
theorem zdM_picture_183 : decode zkM_picture 183 = .ok (.bipush 6, 2) := by decide +kernel
theorem zdM_picture_185 : decode zkM_picture 185 = .ok (.iload_n 3, 1) := by decide +kernel
theorem zdM_picture_186 : decode zkM_picture 186 = .ok (.bipush 10, 2) := by decide +kernel
theorem zdM_picture_188 : decode zkM_picture 188 = .ok (.irem, 1) := by decide +kernel
theorem zdM_picture_189 : decode zkM_picture 189 = .ok (.imul, 1) := by decide +kernel
theorem zdM_picture_190 : decode zkM_picture 190 = .ok (.lshl, 1) := by decide +kernel
theorem zdM_picture_191 : decode zkM_picture 191 = .ok (.lor, 1) := by decide +kernel
theorem zdM_picture_192 : decode zkM_picture 192 = .ok (.lastore, 1) := by decide +kernel
theorem zdM_picture_193 : decode zkM_picture 193 = .ok (.iinc 3 1, 3) := by decide +kernel
theorem zdM_picture_196 : decode zkM_picture 196 = .ok (.goto (-55), 3) := by decide +kernel
theorem zdM_picture_199 : decode zkM_picture 199 = .ok (.return_, 1) := by decide +kernel
theorem zdM_build_0 : decode zkM_build 0 = .ok (.iload_n 1, 1) := by decide +kernel
theorem zdM_build_1 : decode zkM_build 1 = .ok (.iconst 1, 1) := by decide +kernel
theorem zdM_build_2 : decode zkM_build 2 = .ok (.if_icmp .lt 9, 3) := by decide +kernel
theorem zdM_build_5 : decode zkM_build 5 = .ok (.iload_n 1, 1) := by decide +kernel
theorem zdM_build_6 : decode zkM_build 6 = .ok (.bipush 16, 2) := by decide +kernel
theorem zdM_build_8 : decode zkM_build 8 = .ok (.if_icmp .le 5, 3) := by decide +kernel
theorem zdM_build_11 : decode zkM_build 11 = .ok (.iconst 0, 1) := by decide +kernel
theorem zdM_build_12 : decode zkM_build 12 = .ok (.ireturn, 1) := by decide +kernel
theorem zdM_build_13 : decode zkM_build 13 = .ok (.aload_n 0, 1) := by decide +kernel
theorem zdM_build_14 : decode zkM_build 14 = .ok (.aload_n 0, 1) := by decide +kernel
theorem zdM_build_15 : decode zkM_build 15 = .ok (.getfield 50, 3) := by decide +kernel
theorem zdM_build_18 : decode zkM_build 18 = .ok (.putfield 54, 3) := by decide +kernel
theorem zdM_build_21 : decode zkM_build 21 = .ok (.iconst 0, 1) := by decide +kernel
theorem zdM_build_22 : decode zkM_build 22 = .ok (.istore_n 2, 1) := by decide +kernel
theorem zdM_build_23 : decode zkM_build 23 = .ok (.iload_n 2, 1) := by decide +kernel
theorem zdM_build_24 : decode zkM_build 24 = .ok (.aload_n 0, 1) := by decide +kernel
theorem zdM_build_25 : decode zkM_build 25 = .ok (.getfield 50, 3) := by decide +kernel
theorem zdM_build_28 : decode zkM_build 28 = .ok (.if_icmp .ge 21, 3) := by decide +kernel
theorem zdM_build_31 : decode zkM_build 31 = .ok (.aload_n 0, 1) := by decide +kernel
theorem zdM_build_32 : decode zkM_build 32 = .ok (.getfield 29, 3) := by decide +kernel
theorem zdM_build_35 : decode zkM_build 35 = .ok (.iload_n 2, 1) := by decide +kernel
theorem zdM_build_36 : decode zkM_build 36 = .ok (.aload_n 0, 1) := by decide +kernel
theorem zdM_build_37 : decode zkM_build 37 = .ok (.getfield 7, 3) := by decide +kernel
theorem zdM_build_40 : decode zkM_build 40 = .ok (.iload_n 2, 1) := by decide +kernel
theorem zdM_build_41 : decode zkM_build 41 = .ok (.iaload, 1) := by decide +kernel
theorem zdM_build_42 : decode zkM_build 42 = .ok (.iastore, 1) := by decide +kernel
theorem zdM_build_43 : decode zkM_build 43 = .ok (.iinc 2 1, 3) := by decide +kernel
theorem zdM_build_46 : decode zkM_build 46 = .ok (.goto (-23), 3) := by decide +kernel
theorem zdM_build_49 : decode zkM_build 49 = .ok (.aload_n 0, 1) := by decide +kernel
theorem zdM_build_50 : decode zkM_build 50 = .ok (.iload_n 1, 1) := by decide +kernel
theorem zdM_build_51 : decode zkM_build 51 = .ok (.invokevirtual 69, 3) := by decide +kernel
theorem zdM_build_54 : decode zkM_build 54 = .ok (.iconst 0, 1) := by decide +kernel
theorem zdM_build_55 : decode zkM_build 55 = .ok (.istore_n 2, 1) := by decide +kernel
theorem zdM_build_56 : decode zkM_build 56 = .ok (.iload_n 2, 1) := by decide +kernel
theorem zdM_build_57 : decode zkM_build 57 = .ok (.bipush 23, 2) := by decide +kernel
theorem zdM_build_59 : decode zkM_build 59 = .ok (.if_icmp .ge 21, 3) := by decide +kernel
theorem zdM_build_62 : decode zkM_build 62 = .ok (.aload_n 0, 1) := by decide +kernel
theorem zdM_build_63 : decode zkM_build 63 = .ok (.getfield 13, 3) := by decide +kernel
theorem zdM_build_66 : decode zkM_build 66 = .ok (.iload_n 2, 1) := by decide +kernel
theorem zdM_build_67 : decode zkM_build 67 = .ok (.aload_n 0, 1) := by decide +kernel
theorem zdM_build_68 : decode zkM_build 68 = .ok (.getfield 38, 3) := by decide +kernel
theorem zdM_build_71 : decode zkM_build 71 = .ok (.iload_n 2, 1) := by decide +kernel
theorem zdM_build_72 : decode zkM_build 72 = .ok (.laload, 1) := by decide +kernel
theorem zdM_build_73 : decode zkM_build 73 = .ok (.lastore, 1) := by decide +kernel
theorem zdM_build_74 : decode zkM_build 74 = .ok (.iinc 2 1, 3) := by decide +kernel
theorem zdM_build_77 : decode zkM_build 77 = .ok (.goto (-21), 3) := by decide +kernel
theorem zdM_build_80 : decode zkM_build 80 = .ok (.iconst 1, 1) := by decide +kernel
theorem zdM_build_81 : decode zkM_build 81 = .ok (.ireturn, 1) := by decide +kernel
theorem zdM_readCodes_0 : decode zkM_readCodes 0 = .ok (.iconst 0, 1) := by decide +kernel
theorem zdM_readCodes_1 : decode zkM_readCodes 1 = .ok (.istore_n 1, 1) := by decide +kernel
theorem zdM_readCodes_2 : decode zkM_readCodes 2 = .ok (.iload_n 1, 1) := by decide +kernel
theorem zdM_readCodes_3 : decode zkM_readCodes 3 = .ok (.aload_n 0, 1) := by decide +kernel
theorem zdM_readCodes_4 : decode zkM_readCodes 4 = .ok (.getfield 54, 3) := by decide +kernel
theorem zdM_readCodes_7 : decode zkM_readCodes 7 = .ok (.if_icmp .gt 23, 3) := by decide +kernel
theorem zdM_readCodes_10 : decode zkM_readCodes 10 = .ok (.aload_n 0, 1) := by decide +kernel
theorem zdM_readCodes_11 : decode zkM_readCodes 11 = .ok (.getfield 41, 3) := by decide +kernel
theorem zdM_readCodes_14 : decode zkM_readCodes 14 = .ok (.iload_n 1, 1) := by decide +kernel
theorem zdM_readCodes_15 : decode zkM_readCodes 15 = .ok (.iload_n 1, 1) := by decide +kernel
theorem zdM_readCodes_16 : decode zkM_readCodes 16 = .ok (.iastore, 1) := by decide +kernel
theorem zdM_readCodes_17 : decode zkM_readCodes 17 = .ok (.aload_n 0, 1) := by decide +kernel
theorem zdM_readCodes_18 : decode zkM_readCodes 18 = .ok (.getfield 47, 3) := by decide +kernel
theorem zdM_readCodes_21 : decode zkM_readCodes 21 = .ok (.iload_n 1, 1) := by decide +kernel
theorem zdM_readCodes_22 : decode zkM_readCodes 22 = .ok (.iconst 0, 1) := by decide +kernel
theorem zdM_readCodes_23 : decode zkM_readCodes 23 = .ok (.iastore, 1) := by decide +kernel
theorem zdM_readCodes_24 : decode zkM_readCodes 24 = .ok (.iinc 1 1, 3) := by decide +kernel
theorem zdM_readCodes_27 : decode zkM_readCodes 27 = .ok (.goto (-25), 3) := by decide +kernel
theorem zdM_readCodes_30 : decode zkM_readCodes 30 = .ok (.iconst 0, 1) := by decide +kernel
theorem zdM_readCodes_31 : decode zkM_readCodes 31 = .ok (.istore_n 1, 1) := by decide +kernel
theorem zdM_readCodes_32 : decode zkM_readCodes 32 = .ok (.iload_n 1, 1) := by decide +kernel
theorem zdM_readCodes_33 : decode zkM_readCodes 33 = .ok (.bipush 7, 2) := by decide +kernel
theorem zdM_readCodes_35 : decode zkM_readCodes 35 = .ok (.if_icmp .ge 133, 3) := by decide +kernel
theorem zdM_readCodes_38 : decode zkM_readCodes 38 = .ok (.iconst 0, 1) := by decide +kernel
theorem zdM_readCodes_39 : decode zkM_readCodes 39 = .ok (.istore_n 2, 1) := by decide +kernel
theorem zdM_readCodes_40 : decode zkM_readCodes 40 = .ok (.iconst 0, 1) := by decide +kernel
theorem zdM_readCodes_41 : decode zkM_readCodes 41 = .ok (.istore_n 3, 1) := by decide +kernel
theorem zdM_readCodes_42 : decode zkM_readCodes 42 = .ok (.iload_n 3, 1) := by decide +kernel
theorem zdM_readCodes_43 : decode zkM_readCodes 43 = .ok (.iconst 2, 1) := by decide +kernel
theorem zdM_readCodes_44 : decode zkM_readCodes 44 = .ok (.if_icmp .ge 90, 3) := by decide +kernel
theorem zdM_readCodes_47 : decode zkM_readCodes 47 = .ok (.iconst 0, 1) := by decide +kernel
theorem zdM_readCodes_48 : decode zkM_readCodes 48 = .ok (.istore 4, 2) := by decide +kernel
theorem zdM_readCodes_50 : decode zkM_readCodes 50 = .ok (.iload 4, 2) := by decide +kernel
theorem zdM_readCodes_52 : decode zkM_readCodes 52 = .ok (.aload_n 0, 1) := by decide +kernel
theorem zdM_readCodes_53 : decode zkM_readCodes 53 = .ok (.getfield 54, 3) := by decide +kernel
theorem zdM_readCodes_56 : decode zkM_readCodes 56 = .ok (.if_icmp .gt 72, 3) := by decide +kernel
theorem zdM_readCodes_59 : decode zkM_readCodes 59 = .ok (.aload_n 0, 1) := by decide +kernel
theorem zdM_readCodes_60 : decode zkM_readCodes 60 = .ok (.getfield 13, 3) := by decide +kernel
theorem zdM_readCodes_63 : decode zkM_readCodes 63 = .ok (.iconst 1, 1) := by decide +kernel
theorem zdM_readCodes_64 : decode zkM_readCodes 64 = .ok (.iload_n 1, 1) := by decide +kernel
theorem zdM_readCodes_65 : decode zkM_readCodes 65 = .ok (.iadd, 1) := by decide +kernel
theorem zdM_readCodes_66 : decode zkM_readCodes 66 = .ok (.laload, 1) := by decide +kernel
theorem zdM_readCodes_67 : decode zkM_readCodes 67 = .ok (.iload 4, 2) := by decide +kernel
theorem zdM_readCodes_69 : decode zkM_readCodes 69 = .ok (.lshr, 1) := by decide +kernel
theorem zdM_readCodes_70 : decode zkM_readCodes 70 = .ok (.lconst 1, 1) := by decide +kernel
theorem zdM_readCodes_71 : decode zkM_readCodes 71 = .ok (.land, 1) := by decide +kernel
theorem zdM_readCodes_72 : decode zkM_readCodes 72 = .ok (.iload_n 3, 1) := by decide +kernel
theorem zdM_readCodes_73 : decode zkM_readCodes 73 = .ok (.i2l, 1) := by decide +kernel
theorem zdM_readCodes_74 : decode zkM_readCodes 74 = .ok (.lcmp, 1) := by decide +kernel
theorem zdM_readCodes_75 : decode zkM_readCodes 75 = .ok (.ifCond .ne 47, 3) := by decide +kernel
theorem zdM_readCodes_78 : decode zkM_readCodes 78 = .ok (.aload_n 0, 1) := by decide +kernel
theorem zdM_readCodes_79 : decode zkM_readCodes 79 = .ok (.getfield 47, 3) := by decide +kernel
theorem zdM_readCodes_82 : decode zkM_readCodes 82 = .ok (.aload_n 0, 1) := by decide +kernel
theorem zdM_readCodes_83 : decode zkM_readCodes 83 = .ok (.getfield 41, 3) := by decide +kernel
theorem zdM_readCodes_86 : decode zkM_readCodes 86 = .ok (.iload 4, 2) := by decide +kernel
theorem zdM_readCodes_88 : decode zkM_readCodes 88 = .ok (.iaload, 1) := by decide +kernel
theorem zdM_readCodes_89 : decode zkM_readCodes 89 = .ok (.iconst 2, 1) := by decide +kernel
theorem zdM_readCodes_90 : decode zkM_readCodes 90 = .ok (.aload_n 0, 1) := by decide +kernel
theorem zdM_readCodes_91 : decode zkM_readCodes 91 = .ok (.getfield 47, 3) := by decide +kernel
theorem zdM_readCodes_94 : decode zkM_readCodes 94 = .ok (.aload_n 0, 1) := by decide +kernel
theorem zdM_readCodes_95 : decode zkM_readCodes 95 = .ok (.getfield 41, 3) := by decide +kernel
theorem zdM_readCodes_98 : decode zkM_readCodes 98 = .ok (.iload 4, 2) := by decide +kernel
theorem zdM_readCodes_100 : decode zkM_readCodes 100 = .ok (.iaload, 1) := by decide +kernel
theorem zdM_readCodes_101 : decode zkM_readCodes 101 = .ok (.iaload, 1) := by decide +kernel
theorem zdM_readCodes_102 : decode zkM_readCodes 102 = .ok (.imul, 1) := by decide +kernel
theorem zdM_readCodes_103 : decode zkM_readCodes 103 = .ok (.iload_n 3, 1) := by decide +kernel
theorem zdM_readCodes_104 : decode zkM_readCodes 104 = .ok (.iadd, 1) := by decide +kernel
theorem zdM_readCodes_105 : decode zkM_readCodes 105 = .ok (.iastore, 1) := by decide +kernel
theorem zdM_readCodes_106 : decode zkM_readCodes 106 = .ok (.aload_n 0, 1) := by decide +kernel
theorem zdM_readCodes_107 : decode zkM_readCodes 107 = .ok (.getfield 44, 3) := by decide +kernel
theorem zdM_readCodes_110 : decode zkM_readCodes 110 = .ok (.iload_n 2, 1) := by decide +kernel
theorem zdM_readCodes_111 : decode zkM_readCodes 111 = .ok (.aload_n 0, 1) := by decide +kernel
theorem zdM_readCodes_112 : decode zkM_readCodes 112 = .ok (.getfield 41, 3) := by decide +kernel
theorem zdM_readCodes_115 : decode zkM_readCodes 115 = .ok (.iload 4, 2) := by decide +kernel
theorem zdM_readCodes_117 : decode zkM_readCodes 117 = .ok (.iaload, 1) := by decide +kernel
theorem zdM_readCodes_118 : decode zkM_readCodes 118 = .ok (.iastore, 1) := by decide +kernel
theorem zdM_readCodes_119 : decode zkM_readCodes 119 = .ok (.iinc 2 1, 3) := by decide +kernel
theorem zdM_readCodes_122 : decode zkM_readCodes 122 = .ok (.iinc 4 1, 3) := by decide +kernel
theorem zdM_readCodes_125 : decode zkM_readCodes 125 = .ok (.goto (-75), 3) := by decide +kernel
theorem zdM_readCodes_128 : decode zkM_readCodes 128 = .ok (.iinc 3 1, 3) := by decide +kernel
theorem zdM_readCodes_131 : decode zkM_readCodes 131 = .ok (.goto (-89), 3) := by decide +kernel
theorem zdM_readCodes_134 : decode zkM_readCodes 134 = .ok (.iconst 0, 1) := by decide +kernel
theorem zdM_readCodes_135 : decode zkM_readCodes 135 = .ok (.istore_n 3, 1) := by decide +kernel
theorem zdM_readCodes_136 : decode zkM_readCodes 136 = .ok (.iload_n 3, 1) := by decide +kernel
theorem zdM_readCodes_137 : decode zkM_readCodes 137 = .ok (.aload_n 0, 1) := by decide +kernel
theorem zdM_readCodes_138 : decode zkM_readCodes 138 = .ok (.getfield 54, 3) := by decide +kernel
theorem zdM_readCodes_141 : decode zkM_readCodes 141 = .ok (.if_icmp .gt 21, 3) := by decide +kernel
theorem zdM_readCodes_144 : decode zkM_readCodes 144 = .ok (.aload_n 0, 1) := by decide +kernel
theorem zdM_readCodes_145 : decode zkM_readCodes 145 = .ok (.getfield 41, 3) := by decide +kernel
theorem zdM_readCodes_148 : decode zkM_readCodes 148 = .ok (.iload_n 3, 1) := by decide +kernel
theorem zdM_readCodes_149 : decode zkM_readCodes 149 = .ok (.aload_n 0, 1) := by decide +kernel
theorem zdM_readCodes_150 : decode zkM_readCodes 150 = .ok (.getfield 44, 3) := by decide +kernel
theorem zdM_readCodes_153 : decode zkM_readCodes 153 = .ok (.iload_n 3, 1) := by decide +kernel
theorem zdM_readCodes_154 : decode zkM_readCodes 154 = .ok (.iaload, 1) := by decide +kernel
theorem zdM_readCodes_155 : decode zkM_readCodes 155 = .ok (.iastore, 1) := by decide +kernel
theorem zdM_readCodes_156 : decode zkM_readCodes 156 = .ok (.iinc 3 1, 3) := by decide +kernel
theorem zdM_readCodes_159 : decode zkM_readCodes 159 = .ok (.goto (-23), 3) := by decide +kernel
theorem zdM_readCodes_162 : decode zkM_readCodes 162 = .ok (.iinc 1 1, 3) := by decide +kernel
theorem zdM_readCodes_165 : decode zkM_readCodes 165 = .ok (.goto (-133), 3) := by decide +kernel
theorem zdM_readCodes_168 : decode zkM_readCodes 168 = .ok (.return_, 1) := by decide +kernel
theorem zdM_before_0 : decode zkM_before 0 = .ok (.iconst 0, 1) := by decide +kernel
theorem zdM_before_1 : decode zkM_before 1 = .ok (.istore_n 2, 1) := by decide +kernel
theorem zdM_before_2 : decode zkM_before 2 = .ok (.iconst 0, 1) := by decide +kernel
theorem zdM_before_3 : decode zkM_before 3 = .ok (.istore_n 3, 1) := by decide +kernel
theorem zdM_before_4 : decode zkM_before 4 = .ok (.iload_n 3, 1) := by decide +kernel
theorem zdM_before_5 : decode zkM_before 5 = .ok (.aload_n 0, 1) := by decide +kernel
theorem zdM_before_6 : decode zkM_before 6 = .ok (.getfield 54, 3) := by decide +kernel
theorem zdM_before_9 : decode zkM_before 9 = .ok (.if_icmp .gt 52, 3) := by decide +kernel
theorem zdM_before_12 : decode zkM_before 12 = .ok (.aload_n 0, 1) := by decide +kernel
theorem zdM_before_13 : decode zkM_before 13 = .ok (.getfield 47, 3) := by decide +kernel
theorem zdM_before_16 : decode zkM_before 16 = .ok (.iload_n 3, 1) := by decide +kernel
theorem zdM_before_17 : decode zkM_before 17 = .ok (.iaload, 1) := by decide +kernel
theorem zdM_before_18 : decode zkM_before 18 = .ok (.aload_n 0, 1) := by decide +kernel
theorem zdM_before_19 : decode zkM_before 19 = .ok (.getfield 47, 3) := by decide +kernel
theorem zdM_before_22 : decode zkM_before 22 = .ok (.iload_n 1, 1) := by decide +kernel
theorem zdM_before_23 : decode zkM_before 23 = .ok (.iaload, 1) := by decide +kernel
theorem zdM_before_24 : decode zkM_before 24 = .ok (.if_icmp .lt 23, 3) := by decide +kernel
theorem zdM_before_27 : decode zkM_before 27 = .ok (.aload_n 0, 1) := by decide +kernel
theorem zdM_before_28 : decode zkM_before 28 = .ok (.getfield 47, 3) := by decide +kernel
theorem zdM_before_31 : decode zkM_before 31 = .ok (.iload_n 3, 1) := by decide +kernel
theorem zdM_before_32 : decode zkM_before 32 = .ok (.iaload, 1) := by decide +kernel
theorem zdM_before_33 : decode zkM_before 33 = .ok (.aload_n 0, 1) := by decide +kernel
theorem zdM_before_34 : decode zkM_before 34 = .ok (.getfield 47, 3) := by decide +kernel
theorem zdM_before_37 : decode zkM_before 37 = .ok (.iload_n 1, 1) := by decide +kernel
theorem zdM_before_38 : decode zkM_before 38 = .ok (.iaload, 1) := by decide +kernel
theorem zdM_before_39 : decode zkM_before 39 = .ok (.if_icmp .ne 14, 3) := by decide +kernel
theorem zdM_before_42 : decode zkM_before 42 = .ok (.iload_n 3, 1) := by decide +kernel
theorem zdM_before_43 : decode zkM_before 43 = .ok (.iload_n 1, 1) := by decide +kernel
theorem zdM_before_44 : decode zkM_before 44 = .ok (.if_icmp .ge 9, 3) := by decide +kernel
theorem zdM_before_47 : decode zkM_before 47 = .ok (.iload_n 2, 1) := by decide +kernel
theorem zdM_before_48 : decode zkM_before 48 = .ok (.iconst 1, 1) := by decide +kernel
theorem zdM_before_49 : decode zkM_before 49 = .ok (.iadd, 1) := by decide +kernel
theorem zdM_before_50 : decode zkM_before 50 = .ok (.goto 4, 3) := by decide +kernel
theorem zdM_before_53 : decode zkM_before 53 = .ok (.iload_n 2, 1) := by decide +kernel
theorem zdM_before_54 : decode zkM_before 54 = .ok (.istore_n 2, 1) := by decide +kernel
theorem zdM_before_55 : decode zkM_before 55 = .ok (.iinc 3 1, 3) := by decide +kernel
theorem zdM_before_58 : decode zkM_before 58 = .ok (.goto (-54), 3) := by decide +kernel
theorem zdM_before_61 : decode zkM_before 61 = .ok (.iload_n 2, 1) := by decide +kernel
theorem zdM_before_62 : decode zkM_before 62 = .ok (.ireturn, 1) := by decide +kernel
theorem zdM_load_0 : decode zkM_load 0 = .ok (.aload_n 0, 1) := by decide +kernel
theorem zdM_load_1 : decode zkM_load 1 = .ok (.getfield 13, 3) := by decide +kernel
theorem zdM_load_4 : decode zkM_load 4 = .ok (.iconst 0, 1) := by decide +kernel
theorem zdM_load_5 : decode zkM_load 5 = .ok (.laload, 1) := by decide +kernel
theorem zdM_load_6 : decode zkM_load 6 = .ok (.bipush 8, 2) := by decide +kernel
theorem zdM_load_8 : decode zkM_load 8 = .ok (.lshr, 1) := by decide +kernel
theorem zdM_load_9 : decode zkM_load 9 = .ok (.lstore_n 1, 1) := by decide +kernel
theorem zdM_load_10 : decode zkM_load 10 = .ok (.lload_n 1, 1) := by decide +kernel
theorem zdM_load_11 : decode zkM_load 11 = .ok (.lconst 1, 1) := by decide +kernel
theorem zdM_load_12 : decode zkM_load 12 = .ok (.lcmp, 1) := by decide +kernel
theorem zdM_load_13 : decode zkM_load 13 = .ok (.ifCond .lt 28, 3) := by decide +kernel
theorem zdM_load_16 : decode zkM_load 16 = .ok (.lload_n 1, 1) := by decide +kernel
theorem zdM_load_17 : decode zkM_load 17 = .ok (.ldc2_w 73, 3) := by decide +kernel
theorem zdM_load_20 : decode zkM_load 20 = .ok (.lcmp, 1) := by decide +kernel
theorem zdM_load_21 : decode zkM_load 21 = .ok (.ifCond .gt 20, 3) := by decide +kernel
theorem zdM_load_24 : decode zkM_load 24 = .ok (.aload_n 0, 1) := by decide +kernel
theorem zdM_load_25 : decode zkM_load 25 = .ok (.getfield 13, 3) := by decide +kernel
theorem zdM_load_28 : decode zkM_load 28 = .ok (.iconst 0, 1) := by decide +kernel
theorem zdM_load_29 : decode zkM_load 29 = .ok (.laload, 1) := by decide +kernel
theorem zdM_load_30 : decode zkM_load 30 = .ok (.ldc2_w 75, 3) := by decide +kernel
theorem zdM_load_33 : decode zkM_load 33 = .ok (.land, 1) := by decide +kernel
theorem zdM_load_34 : decode zkM_load 34 = .ok (.ldc2_w 77, 3) := by decide +kernel
theorem zdM_load_37 : decode zkM_load 37 = .ok (.lcmp, 1) := by decide +kernel
theorem zdM_load_38 : decode zkM_load 38 = .ok (.ifCond .le 5, 3) := by decide +kernel
theorem zdM_load_41 : decode zkM_load 41 = .ok (.iconst 0, 1) := by decide +kernel
theorem zdM_load_42 : decode zkM_load 42 = .ok (.ireturn, 1) := by decide +kernel
theorem zdM_load_43 : decode zkM_load 43 = .ok (.aload_n 0, 1) := by decide +kernel
theorem zdM_load_44 : decode zkM_load 44 = .ok (.aload_n 0, 1) := by decide +kernel
theorem zdM_load_45 : decode zkM_load 45 = .ok (.getfield 13, 3) := by decide +kernel
theorem zdM_load_48 : decode zkM_load 48 = .ok (.iconst 0, 1) := by decide +kernel
theorem zdM_load_49 : decode zkM_load 49 = .ok (.laload, 1) := by decide +kernel
theorem zdM_load_50 : decode zkM_load 50 = .ok (.ldc2_w 75, 3) := by decide +kernel
theorem zdM_load_53 : decode zkM_load 53 = .ok (.land, 1) := by decide +kernel
theorem zdM_load_54 : decode zkM_load 54 = .ok (.l2i, 1) := by decide +kernel
theorem zdM_load_55 : decode zkM_load 55 = .ok (.putfield 54, 3) := by decide +kernel
theorem zdM_load_58 : decode zkM_load 58 = .ok (.aload_n 0, 1) := by decide +kernel
theorem zdM_load_59 : decode zkM_load 59 = .ok (.invokevirtual 79, 3) := by decide +kernel
theorem zdM_load_62 : decode zkM_load 62 = .ok (.iconst 0, 1) := by decide +kernel
theorem zdM_load_63 : decode zkM_load 63 = .ok (.istore_n 3, 1) := by decide +kernel
theorem zdM_load_64 : decode zkM_load 64 = .ok (.aload_n 0, 1) := by decide +kernel
theorem zdM_load_65 : decode zkM_load 65 = .ok (.getfield 54, 3) := by decide +kernel
theorem zdM_load_68 : decode zkM_load 68 = .ok (.iconst 1, 1) := by decide +kernel
theorem zdM_load_69 : decode zkM_load 69 = .ok (.isub, 1) := by decide +kernel
theorem zdM_load_70 : decode zkM_load 70 = .ok (.istore 4, 2) := by decide +kernel
theorem zdM_load_72 : decode zkM_load 72 = .ok (.iload 4, 2) := by decide +kernel
theorem zdM_load_74 : decode zkM_load 74 = .ok (.ifCond .lt 54, 3) := by decide +kernel
theorem zdM_load_77 : decode zkM_load 77 = .ok (.aload_n 0, 1) := by decide +kernel
theorem zdM_load_78 : decode zkM_load 78 = .ok (.getfield 29, 3) := by decide +kernel
theorem zdM_load_81 : decode zkM_load 81 = .ok (.iload 4, 2) := by decide +kernel
theorem zdM_load_83 : decode zkM_load 83 = .ok (.aload_n 0, 1) := by decide +kernel
theorem zdM_load_84 : decode zkM_load 84 = .ok (.getfield 47, 3) := by decide +kernel
theorem zdM_load_87 : decode zkM_load 87 = .ok (.iload_n 3, 1) := by decide +kernel
theorem zdM_load_88 : decode zkM_load 88 = .ok (.iaload, 1) := by decide +kernel
theorem zdM_load_89 : decode zkM_load 89 = .ok (.iastore, 1) := by decide +kernel
theorem zdM_load_90 : decode zkM_load 90 = .ok (.aload_n 0, 1) := by decide +kernel
theorem zdM_load_91 : decode zkM_load 91 = .ok (.getfield 29, 3) := by decide +kernel
theorem zdM_load_94 : decode zkM_load 94 = .ok (.iload 4, 2) := by decide +kernel
theorem zdM_load_96 : decode zkM_load 96 = .ok (.iaload, 1) := by decide +kernel
theorem zdM_load_97 : decode zkM_load 97 = .ok (.bipush 32, 2) := by decide +kernel
theorem zdM_load_99 : decode zkM_load 99 = .ok (.if_icmp .lt 15, 3) := by decide +kernel
theorem zdM_load_102 : decode zkM_load 102 = .ok (.aload_n 0, 1) := by decide +kernel
theorem zdM_load_103 : decode zkM_load 103 = .ok (.getfield 29, 3) := by decide +kernel
theorem zdM_load_106 : decode zkM_load 106 = .ok (.iload 4, 2) := by decide +kernel
theorem zdM_load_108 : decode zkM_load 108 = .ok (.iaload, 1) := by decide +kernel
theorem zdM_load_109 : decode zkM_load 109 = .ok (.bipush 126, 2) := by decide +kernel
theorem zdM_load_111 : decode zkM_load 111 = .ok (.if_icmp .le 5, 3) := by decide +kernel
theorem zdM_load_114 : decode zkM_load 114 = .ok (.iconst 0, 1) := by decide +kernel
theorem zdM_load_115 : decode zkM_load 115 = .ok (.ireturn, 1) := by decide +kernel
theorem zdM_load_116 : decode zkM_load 116 = .ok (.aload_n 0, 1) := by decide +kernel
theorem zdM_load_117 : decode zkM_load 117 = .ok (.iload_n 3, 1) := by decide +kernel
theorem zdM_load_118 : decode zkM_load 118 = .ok (.invokevirtual 82, 3) := by decide +kernel
theorem zdM_load_121 : decode zkM_load 121 = .ok (.istore_n 3, 1) := by decide +kernel
theorem zdM_load_122 : decode zkM_load 122 = .ok (.iinc 4 (-1), 3) := by decide +kernel
theorem zdM_load_125 : decode zkM_load 125 = .ok (.goto (-53), 3) := by decide +kernel
theorem zdM_load_128 : decode zkM_load 128 = .ok (.aload_n 0, 1) := by decide +kernel
theorem zdM_load_129 : decode zkM_load 129 = .ok (.lload_n 1, 1) := by decide +kernel
theorem zdM_load_130 : decode zkM_load 130 = .ok (.l2i, 1) := by decide +kernel
theorem zdM_load_131 : decode zkM_load 131 = .ok (.invokevirtual 69, 3) := by decide +kernel
theorem zdM_load_134 : decode zkM_load 134 = .ok (.iconst 0, 1) := by decide +kernel
theorem zdM_load_135 : decode zkM_load 135 = .ok (.istore 4, 2) := by decide +kernel
theorem zdM_load_137 : decode zkM_load 137 = .ok (.iload 4, 2) := by decide +kernel
theorem zdM_load_139 : decode zkM_load 139 = .ok (.bipush 23, 2) := by decide +kernel
theorem zdM_load_141 : decode zkM_load 141 = .ok (.if_icmp .ge 29, 3) := by decide +kernel
theorem zdM_load_144 : decode zkM_load 144 = .ok (.aload_n 0, 1) := by decide +kernel
theorem zdM_load_145 : decode zkM_load 145 = .ok (.getfield 38, 3) := by decide +kernel
theorem zdM_load_148 : decode zkM_load 148 = .ok (.iload 4, 2) := by decide +kernel
theorem zdM_load_150 : decode zkM_load 150 = .ok (.laload, 1) := by decide +kernel
theorem zdM_load_151 : decode zkM_load 151 = .ok (.aload_n 0, 1) := by decide +kernel
theorem zdM_load_152 : decode zkM_load 152 = .ok (.getfield 13, 3) := by decide +kernel
theorem zdM_load_155 : decode zkM_load 155 = .ok (.iload 4, 2) := by decide +kernel
theorem zdM_load_157 : decode zkM_load 157 = .ok (.laload, 1) := by decide +kernel
theorem zdM_load_158 : decode zkM_load 158 = .ok (.lcmp, 1) := by decide +kernel
theorem zdM_load_159 : decode zkM_load 159 = .ok (.ifCond .eq 5, 3) := by decide +kernel
theorem zdM_load_162 : decode zkM_load 162 = .ok (.iconst 0, 1) := by decide +kernel
theorem zdM_load_163 : decode zkM_load 163 = .ok (.ireturn, 1) := by decide +kernel
theorem zdM_load_164 : decode zkM_load 164 = .ok (.iinc 4 1, 3) := by decide +kernel
theorem zdM_load_167 : decode zkM_load 167 = .ok (.goto (-30), 3) := by decide +kernel
theorem zdM_load_170 : decode zkM_load 170 = .ok (.aload_n 0, 1) := by decide +kernel
theorem zdM_load_171 : decode zkM_load 171 = .ok (.iconst 1, 1) := by decide +kernel
theorem zdM_load_172 : decode zkM_load 172 = .ok (.putfield 86, 3) := by decide +kernel
theorem zdM_load_175 : decode zkM_load 175 = .ok (.aload_n 0, 1) := by decide +kernel
theorem zdM_load_176 : decode zkM_load 176 = .ok (.aload_n 0, 1) := by decide +kernel
theorem zdM_load_177 : decode zkM_load 177 = .ok (.getfield 54, 3) := by decide +kernel
theorem zdM_load_180 : decode zkM_load 180 = .ok (.putfield 90, 3) := by decide +kernel
theorem zdM_load_183 : decode zkM_load 183 = .ok (.aload_n 0, 1) := by decide +kernel
theorem zdM_load_184 : decode zkM_load 184 = .ok (.lload_n 1, 1) := by decide +kernel
theorem zdM_load_185 : decode zkM_load 185 = .ok (.l2i, 1) := by decide +kernel
theorem zdM_load_186 : decode zkM_load 186 = .ok (.putfield 93, 3) := by decide +kernel
theorem zdM_load_189 : decode zkM_load 189 = .ok (.iconst 0, 1) := by decide +kernel
theorem zdM_load_190 : decode zkM_load 190 = .ok (.istore 4, 2) := by decide +kernel
theorem zdM_load_192 : decode zkM_load 192 = .ok (.iload 4, 2) := by decide +kernel
theorem zdM_load_194 : decode zkM_load 194 = .ok (.aload_n 0, 1) := by decide +kernel
theorem zdM_load_195 : decode zkM_load 195 = .ok (.getfield 54, 3) := by decide +kernel
theorem zdM_load_198 : decode zkM_load 198 = .ok (.if_icmp .gt 51, 3) := by decide +kernel
theorem zdM_load_201 : decode zkM_load 201 = .ok (.aload_n 0, 1) := by decide +kernel
theorem zdM_load_202 : decode zkM_load 202 = .ok (.getfield 17, 3) := by decide +kernel
theorem zdM_load_205 : decode zkM_load 205 = .ok (.iload 4, 2) := by decide +kernel
theorem zdM_load_207 : decode zkM_load 207 = .ok (.aload_n 0, 1) := by decide +kernel
theorem zdM_load_208 : decode zkM_load 208 = .ok (.getfield 29, 3) := by decide +kernel
theorem zdM_load_211 : decode zkM_load 211 = .ok (.iload 4, 2) := by decide +kernel
theorem zdM_load_213 : decode zkM_load 213 = .ok (.iaload, 1) := by decide +kernel
theorem zdM_load_214 : decode zkM_load 214 = .ok (.iastore, 1) := by decide +kernel
theorem zdM_load_215 : decode zkM_load 215 = .ok (.aload_n 0, 1) := by decide +kernel
theorem zdM_load_216 : decode zkM_load 216 = .ok (.getfield 20, 3) := by decide +kernel
theorem zdM_load_219 : decode zkM_load 219 = .ok (.iload 4, 2) := by decide +kernel
theorem zdM_load_221 : decode zkM_load 221 = .ok (.aload_n 0, 1) := by decide +kernel
theorem zdM_load_222 : decode zkM_load 222 = .ok (.getfield 32, 3) := by decide +kernel
theorem zdM_load_225 : decode zkM_load 225 = .ok (.iload 4, 2) := by decide +kernel
theorem zdM_load_227 : decode zkM_load 227 = .ok (.iaload, 1) := by decide +kernel
theorem zdM_load_228 : decode zkM_load 228 = .ok (.iastore, 1) := by decide +kernel
theorem zdM_load_229 : decode zkM_load 229 = .ok (.aload_n 0, 1) := by decide +kernel
theorem zdM_load_230 : decode zkM_load 230 = .ok (.getfield 23, 3) := by decide +kernel
theorem zdM_load_233 : decode zkM_load 233 = .ok (.iload 4, 2) := by decide +kernel
theorem zdM_load_235 : decode zkM_load 235 = .ok (.aload_n 0, 1) := by decide +kernel
theorem zdM_load_236 : decode zkM_load 236 = .ok (.getfield 35, 3) := by decide +kernel
theorem zdM_load_239 : decode zkM_load 239 = .ok (.iload 4, 2) := by decide +kernel
theorem zdM_load_241 : decode zkM_load 241 = .ok (.iaload, 1) := by decide +kernel
theorem zdM_load_242 : decode zkM_load 242 = .ok (.iastore, 1) := by decide +kernel
theorem zdM_load_243 : decode zkM_load 243 = .ok (.iinc 4 1, 3) := by decide +kernel
theorem zdM_load_246 : decode zkM_load 246 = .ok (.goto (-54), 3) := by decide +kernel
theorem zdM_load_249 : decode zkM_load 249 = .ok (.iconst 1, 1) := by decide +kernel
theorem zdM_load_250 : decode zkM_load 250 = .ok (.ireturn, 1) := by decide +kernel
theorem zdM_length_0 : decode zkM_length 0 = .ok (.aload_n 0, 1) := by decide +kernel
theorem zdM_length_1 : decode zkM_length 1 = .ok (.getfield 86, 3) := by decide +kernel
theorem zdM_length_4 : decode zkM_length 4 = .ok (.ifCond .eq 10, 3) := by decide +kernel
theorem zdM_length_7 : decode zkM_length 7 = .ok (.aload_n 0, 1) := by decide +kernel
theorem zdM_length_8 : decode zkM_length 8 = .ok (.getfield 90, 3) := by decide +kernel
theorem zdM_length_11 : decode zkM_length 11 = .ok (.goto 4, 3) := by decide +kernel
theorem zdM_length_14 : decode zkM_length 14 = .ok (.iconst (-1), 1) := by decide +kernel
theorem zdM_length_15 : decode zkM_length 15 = .ok (.ireturn, 1) := by decide +kernel
theorem zdM_rate_0 : decode zkM_rate 0 = .ok (.aload_n 0, 1) := by decide +kernel
theorem zdM_rate_1 : decode zkM_rate 1 = .ok (.getfield 86, 3) := by decide +kernel
theorem zdM_rate_4 : decode zkM_rate 4 = .ok (.ifCond .eq 10, 3) := by decide +kernel
theorem zdM_rate_7 : decode zkM_rate 7 = .ok (.aload_n 0, 1) := by decide +kernel
theorem zdM_rate_8 : decode zkM_rate 8 = .ok (.getfield 93, 3) := by decide +kernel
theorem zdM_rate_11 : decode zkM_rate 11 = .ok (.goto 4, 3) := by decide +kernel
theorem zdM_rate_14 : decode zkM_rate 14 = .ok (.iconst (-1), 1) := by decide +kernel
theorem zdM_rate_15 : decode zkM_rate 15 = .ok (.ireturn, 1) := by decide +kernel
theorem zdM_place_0 : decode zkM_place 0 = .ok (.aload_n 0, 1) := by decide +kernel
theorem zdM_place_1 : decode zkM_place 1 = .ok (.getfield 86, 3) := by decide +kernel
theorem zdM_place_4 : decode zkM_place 4 = .ok (.ifCond .eq 19, 3) := by decide +kernel
theorem zdM_place_7 : decode zkM_place 7 = .ok (.iload_n 1, 1) := by decide +kernel
theorem zdM_place_8 : decode zkM_place 8 = .ok (.ifCond .lt 15, 3) := by decide +kernel
theorem zdM_place_11 : decode zkM_place 11 = .ok (.iload_n 1, 1) := by decide +kernel
theorem zdM_place_12 : decode zkM_place 12 = .ok (.aload_n 0, 1) := by decide +kernel
theorem zdM_place_13 : decode zkM_place 13 = .ok (.getfield 90, 3) := by decide +kernel
theorem zdM_place_16 : decode zkM_place 16 = .ok (.if_icmp .gt 7, 3) := by decide +kernel
theorem zdM_place_19 : decode zkM_place 19 = .ok (.iconst 1, 1) := by decide +kernel
theorem zdM_place_20 : decode zkM_place 20 = .ok (.goto 4, 3) := by decide +kernel
theorem zdM_place_23 : decode zkM_place 23 = .ok (.iconst 0, 1) := by decide +kernel
theorem zdM_place_24 : decode zkM_place 24 = .ok (.ireturn, 1) := by decide +kernel
theorem zdM_charAt_0 : decode zkM_charAt 0 = .ok (.aload_n 0, 1) := by decide +kernel
theorem zdM_charAt_1 : decode zkM_charAt 1 = .ok (.iload_n 1, 1) := by decide +kernel
theorem zdM_charAt_2 : decode zkM_charAt 2 = .ok (.invokevirtual 96, 3) := by decide +kernel
theorem zdM_charAt_5 : decode zkM_charAt 5 = .ok (.ifCond .eq 12, 3) := by decide +kernel
theorem zdM_charAt_8 : decode zkM_charAt 8 = .ok (.aload_n 0, 1) := by decide +kernel
theorem zdM_charAt_9 : decode zkM_charAt 9 = .ok (.getfield 17, 3) := by decide +kernel
theorem zdM_charAt_12 : decode zkM_charAt 12 = .ok (.iload_n 1, 1) := by decide +kernel
theorem zdM_charAt_13 : decode zkM_charAt 13 = .ok (.iaload, 1) := by decide +kernel
theorem zdM_charAt_14 : decode zkM_charAt 14 = .ok (.goto 4, 3) := by decide +kernel
theorem zdM_charAt_17 : decode zkM_charAt 17 = .ok (.iconst (-1), 1) := by decide +kernel
theorem zdM_charAt_18 : decode zkM_charAt 18 = .ok (.ireturn, 1) := by decide +kernel
theorem zdM_rowOf_0 : decode zkM_rowOf 0 = .ok (.aload_n 0, 1) := by decide +kernel
theorem zdM_rowOf_1 : decode zkM_rowOf 1 = .ok (.iload_n 1, 1) := by decide +kernel
theorem zdM_rowOf_2 : decode zkM_rowOf 2 = .ok (.invokevirtual 96, 3) := by decide +kernel
theorem zdM_rowOf_5 : decode zkM_rowOf 5 = .ok (.ifCond .eq 12, 3) := by decide +kernel
theorem zdM_rowOf_8 : decode zkM_rowOf 8 = .ok (.aload_n 0, 1) := by decide +kernel
theorem zdM_rowOf_9 : decode zkM_rowOf 9 = .ok (.getfield 23, 3) := by decide +kernel
theorem zdM_rowOf_12 : decode zkM_rowOf 12 = .ok (.iload_n 1, 1) := by decide +kernel
theorem zdM_rowOf_13 : decode zkM_rowOf 13 = .ok (.iaload, 1) := by decide +kernel
theorem zdM_rowOf_14 : decode zkM_rowOf 14 = .ok (.goto 4, 3) := by decide +kernel
theorem zdM_rowOf_17 : decode zkM_rowOf 17 = .ok (.iconst (-1), 1) := by decide +kernel
theorem zdM_rowOf_18 : decode zkM_rowOf 18 = .ok (.ireturn, 1) := by decide +kernel
theorem zdM_placeOf_0 : decode zkM_placeOf 0 = .ok (.aload_n 0, 1) := by decide +kernel
theorem zdM_placeOf_1 : decode zkM_placeOf 1 = .ok (.iload_n 1, 1) := by decide +kernel
theorem zdM_placeOf_2 : decode zkM_placeOf 2 = .ok (.invokevirtual 96, 3) := by decide +kernel
theorem zdM_placeOf_5 : decode zkM_placeOf 5 = .ok (.ifCond .eq 12, 3) := by decide +kernel
theorem zdM_placeOf_8 : decode zkM_placeOf 8 = .ok (.aload_n 0, 1) := by decide +kernel
theorem zdM_placeOf_9 : decode zkM_placeOf 9 = .ok (.getfield 20, 3) := by decide +kernel
theorem zdM_placeOf_12 : decode zkM_placeOf 12 = .ok (.iload_n 1, 1) := by decide +kernel
theorem zdM_placeOf_13 : decode zkM_placeOf 13 = .ok (.iaload, 1) := by decide +kernel
theorem zdM_placeOf_14 : decode zkM_placeOf 14 = .ok (.goto 4, 3) := by decide +kernel
theorem zdM_placeOf_17 : decode zkM_placeOf 17 = .ok (.iconst (-1), 1) := by decide +kernel
theorem zdM_placeOf_18 : decode zkM_placeOf 18 = .ok (.ireturn, 1) := by decide +kernel
theorem zdM_ask_0 : decode zkM_ask 0 = .ok (.iload_n 1, 1) := by decide +kernel
theorem zdM_ask_1 : decode zkM_ask 1 = .ok (.bipush 32, 2) := by decide +kernel
theorem zdM_ask_3 : decode zkM_ask 3 = .ok (.if_icmp .lt 18, 3) := by decide +kernel
theorem zdM_ask_6 : decode zkM_ask 6 = .ok (.iload_n 1, 1) := by decide +kernel
theorem zdM_ask_7 : decode zkM_ask 7 = .ok (.bipush 126, 2) := by decide +kernel
theorem zdM_ask_9 : decode zkM_ask 9 = .ok (.if_icmp .gt 12, 3) := by decide +kernel
theorem zdM_ask_12 : decode zkM_ask 12 = .ok (.aload_n 0, 1) := by decide +kernel
theorem zdM_ask_13 : decode zkM_ask 13 = .ok (.getfield 100, 3) := by decide +kernel
theorem zdM_ask_16 : decode zkM_ask 16 = .ok (.bipush 20, 2) := by decide +kernel
theorem zdM_ask_18 : decode zkM_ask 18 = .ok (.if_icmp .ne 5, 3) := by decide +kernel
theorem zdM_ask_21 : decode zkM_ask 21 = .ok (.iconst 0, 1) := by decide +kernel
theorem zdM_ask_22 : decode zkM_ask 22 = .ok (.ireturn, 1) := by decide +kernel
theorem zdM_ask_23 : decode zkM_ask 23 = .ok (.aload_n 0, 1) := by decide +kernel
theorem zdM_ask_24 : decode zkM_ask 24 = .ok (.getfield 26, 3) := by decide +kernel
theorem zdM_ask_27 : decode zkM_ask 27 = .ok (.aload_n 0, 1) := by decide +kernel
theorem zdM_ask_28 : decode zkM_ask 28 = .ok (.getfield 100, 3) := by decide +kernel
theorem zdM_ask_31 : decode zkM_ask 31 = .ok (.iload_n 1, 1) := by decide +kernel
theorem zdM_ask_32 : decode zkM_ask 32 = .ok (.iastore, 1) := by decide +kernel
theorem zdM_ask_33 : decode zkM_ask 33 = .ok (.aload_n 0, 1) := by decide +kernel
theorem zdM_ask_34 : decode zkM_ask 34 = .ok (.dup, 1) := by decide +kernel
theorem zdM_ask_35 : decode zkM_ask 35 = .ok (.getfield 100, 3) := by decide +kernel
theorem zdM_ask_38 : decode zkM_ask 38 = .ok (.iconst 1, 1) := by decide +kernel
theorem zdM_ask_39 : decode zkM_ask 39 = .ok (.iadd, 1) := by decide +kernel
theorem zdM_ask_40 : decode zkM_ask 40 = .ok (.putfield 100, 3) := by decide +kernel
theorem zdM_ask_43 : decode zkM_ask 43 = .ok (.iconst 1, 1) := by decide +kernel
theorem zdM_ask_44 : decode zkM_ask 44 = .ok (.ireturn, 1) := by decide +kernel
theorem zdM_back_0 : decode zkM_back 0 = .ok (.aload_n 0, 1) := by decide +kernel
theorem zdM_back_1 : decode zkM_back 1 = .ok (.getfield 100, 3) := by decide +kernel
theorem zdM_back_4 : decode zkM_back 4 = .ok (.ifCond .ne 5, 3) := by decide +kernel
theorem zdM_back_7 : decode zkM_back 7 = .ok (.iconst 0, 1) := by decide +kernel
theorem zdM_back_8 : decode zkM_back 8 = .ok (.ireturn, 1) := by decide +kernel
theorem zdM_back_9 : decode zkM_back 9 = .ok (.aload_n 0, 1) := by decide +kernel
theorem zdM_back_10 : decode zkM_back 10 = .ok (.dup, 1) := by decide +kernel
theorem zdM_back_11 : decode zkM_back 11 = .ok (.getfield 100, 3) := by decide +kernel
theorem zdM_back_14 : decode zkM_back 14 = .ok (.iconst 1, 1) := by decide +kernel
theorem zdM_back_15 : decode zkM_back 15 = .ok (.isub, 1) := by decide +kernel
theorem zdM_back_16 : decode zkM_back 16 = .ok (.putfield 100, 3) := by decide +kernel
theorem zdM_back_19 : decode zkM_back 19 = .ok (.iconst 1, 1) := by decide +kernel
theorem zdM_back_20 : decode zkM_back 20 = .ok (.ireturn, 1) := by decide +kernel
theorem zdM_occurs_0 : decode zkM_occurs 0 = .ok (.aload_n 0, 1) := by decide +kernel
theorem zdM_occurs_1 : decode zkM_occurs 1 = .ok (.getfield 86, 3) := by decide +kernel
theorem zdM_occurs_4 : decode zkM_occurs 4 = .ok (.ifCond .eq 16, 3) := by decide +kernel
theorem zdM_occurs_7 : decode zkM_occurs 7 = .ok (.iload_n 1, 1) := by decide +kernel
theorem zdM_occurs_8 : decode zkM_occurs 8 = .ok (.aload_n 0, 1) := by decide +kernel
theorem zdM_occurs_9 : decode zkM_occurs 9 = .ok (.getfield 100, 3) := by decide +kernel
theorem zdM_occurs_12 : decode zkM_occurs 12 = .ok (.iadd, 1) := by decide +kernel
theorem zdM_occurs_13 : decode zkM_occurs 13 = .ok (.aload_n 0, 1) := by decide +kernel
theorem zdM_occurs_14 : decode zkM_occurs 14 = .ok (.getfield 90, 3) := by decide +kernel
theorem zdM_occurs_17 : decode zkM_occurs 17 = .ok (.if_icmp .le 5, 3) := by decide +kernel
theorem zdM_occurs_20 : decode zkM_occurs 20 = .ok (.iconst 0, 1) := by decide +kernel
theorem zdM_occurs_21 : decode zkM_occurs 21 = .ok (.ireturn, 1) := by decide +kernel
theorem zdM_occurs_22 : decode zkM_occurs 22 = .ok (.iconst 0, 1) := by decide +kernel
theorem zdM_occurs_23 : decode zkM_occurs 23 = .ok (.istore_n 2, 1) := by decide +kernel
theorem zdM_occurs_24 : decode zkM_occurs 24 = .ok (.iload_n 2, 1) := by decide +kernel
theorem zdM_occurs_25 : decode zkM_occurs 25 = .ok (.aload_n 0, 1) := by decide +kernel
theorem zdM_occurs_26 : decode zkM_occurs 26 = .ok (.getfield 100, 3) := by decide +kernel
theorem zdM_occurs_29 : decode zkM_occurs 29 = .ok (.if_icmp .ge 28, 3) := by decide +kernel
theorem zdM_occurs_32 : decode zkM_occurs 32 = .ok (.aload_n 0, 1) := by decide +kernel
theorem zdM_occurs_33 : decode zkM_occurs 33 = .ok (.getfield 17, 3) := by decide +kernel
theorem zdM_occurs_36 : decode zkM_occurs 36 = .ok (.iload_n 1, 1) := by decide +kernel
theorem zdM_occurs_37 : decode zkM_occurs 37 = .ok (.iload_n 2, 1) := by decide +kernel
theorem zdM_occurs_38 : decode zkM_occurs 38 = .ok (.iadd, 1) := by decide +kernel
theorem zdM_occurs_39 : decode zkM_occurs 39 = .ok (.iaload, 1) := by decide +kernel
theorem zdM_occurs_40 : decode zkM_occurs 40 = .ok (.aload_n 0, 1) := by decide +kernel
theorem zdM_occurs_41 : decode zkM_occurs 41 = .ok (.getfield 26, 3) := by decide +kernel
theorem zdM_occurs_44 : decode zkM_occurs 44 = .ok (.iload_n 2, 1) := by decide +kernel
theorem zdM_occurs_45 : decode zkM_occurs 45 = .ok (.iaload, 1) := by decide +kernel
theorem zdM_occurs_46 : decode zkM_occurs 46 = .ok (.if_icmp .eq 5, 3) := by decide +kernel
theorem zdM_occurs_49 : decode zkM_occurs 49 = .ok (.iconst 0, 1) := by decide +kernel
theorem zdM_occurs_50 : decode zkM_occurs 50 = .ok (.ireturn, 1) := by decide +kernel
theorem zdM_occurs_51 : decode zkM_occurs 51 = .ok (.iinc 2 1, 3) := by decide +kernel
theorem zdM_occurs_54 : decode zkM_occurs 54 = .ok (.goto (-30), 3) := by decide +kernel
theorem zdM_occurs_57 : decode zkM_occurs 57 = .ok (.iconst 1, 1) := by decide +kernel
theorem zdM_occurs_58 : decode zkM_occurs 58 = .ok (.ireturn, 1) := by decide +kernel
theorem zdM_count_0 : decode zkM_count 0 = .ok (.iconst 0, 1) := by decide +kernel
theorem zdM_count_1 : decode zkM_count 1 = .ok (.istore_n 1, 1) := by decide +kernel
theorem zdM_count_2 : decode zkM_count 2 = .ok (.iconst 0, 1) := by decide +kernel
theorem zdM_count_3 : decode zkM_count 3 = .ok (.istore_n 2, 1) := by decide +kernel
theorem zdM_count_4 : decode zkM_count 4 = .ok (.aload_n 0, 1) := by decide +kernel
theorem zdM_count_5 : decode zkM_count 5 = .ok (.getfield 86, 3) := by decide +kernel
theorem zdM_count_8 : decode zkM_count 8 = .ok (.ifCond .eq 33, 3) := by decide +kernel
theorem zdM_count_11 : decode zkM_count 11 = .ok (.iload_n 2, 1) := by decide +kernel
theorem zdM_count_12 : decode zkM_count 12 = .ok (.aload_n 0, 1) := by decide +kernel
theorem zdM_count_13 : decode zkM_count 13 = .ok (.getfield 90, 3) := by decide +kernel
theorem zdM_count_16 : decode zkM_count 16 = .ok (.if_icmp .gt 25, 3) := by decide +kernel
theorem zdM_count_19 : decode zkM_count 19 = .ok (.aload_n 0, 1) := by decide +kernel
theorem zdM_count_20 : decode zkM_count 20 = .ok (.iload_n 2, 1) := by decide +kernel
theorem zdM_count_21 : decode zkM_count 21 = .ok (.invokevirtual 103, 3) := by decide +kernel
theorem zdM_count_24 : decode zkM_count 24 = .ok (.ifCond .eq 9, 3) := by decide +kernel
theorem zdM_count_27 : decode zkM_count 27 = .ok (.iload_n 1, 1) := by decide +kernel
theorem zdM_count_28 : decode zkM_count 28 = .ok (.iconst 1, 1) := by decide +kernel
theorem zdM_count_29 : decode zkM_count 29 = .ok (.iadd, 1) := by decide +kernel
theorem zdM_count_30 : decode zkM_count 30 = .ok (.goto 4, 3) := by decide +kernel
theorem zdM_count_33 : decode zkM_count 33 = .ok (.iload_n 1, 1) := by decide +kernel
theorem zdM_count_34 : decode zkM_count 34 = .ok (.istore_n 1, 1) := by decide +kernel
theorem zdM_count_35 : decode zkM_count 35 = .ok (.iinc 2 1, 3) := by decide +kernel
theorem zdM_count_38 : decode zkM_count 38 = .ok (.goto (-34), 3) := by decide +kernel
theorem zdM_count_41 : decode zkM_count 41 = .ok (.aload_n 0, 1) := by decide +kernel
theorem zdM_count_42 : decode zkM_count 42 = .ok (.getfield 86, 3) := by decide +kernel
theorem zdM_count_45 : decode zkM_count 45 = .ok (.ifCond .eq 7, 3) := by decide +kernel
theorem zdM_count_48 : decode zkM_count 48 = .ok (.iload_n 1, 1) := by decide +kernel
theorem zdM_count_49 : decode zkM_count 49 = .ok (.goto 4, 3) := by decide +kernel
theorem zdM_count_52 : decode zkM_count 52 = .ok (.iconst (-1), 1) := by decide +kernel
theorem zdM_count_53 : decode zkM_count 53 = .ok (.ireturn, 1) := by decide +kernel
theorem zdM_firstRow_0 : decode zkM_firstRow 0 = .ok (.iconst (-1), 1) := by decide +kernel
theorem zdM_firstRow_1 : decode zkM_firstRow 1 = .ok (.istore_n 1, 1) := by decide +kernel
theorem zdM_firstRow_2 : decode zkM_firstRow 2 = .ok (.iconst 0, 1) := by decide +kernel
theorem zdM_firstRow_3 : decode zkM_firstRow 3 = .ok (.istore_n 2, 1) := by decide +kernel
theorem zdM_firstRow_4 : decode zkM_firstRow 4 = .ok (.aload_n 0, 1) := by decide +kernel
theorem zdM_firstRow_5 : decode zkM_firstRow 5 = .ok (.getfield 86, 3) := by decide +kernel
theorem zdM_firstRow_8 : decode zkM_firstRow 8 = .ok (.ifCond .eq 50, 3) := by decide +kernel
theorem zdM_firstRow_11 : decode zkM_firstRow 11 = .ok (.iload_n 2, 1) := by decide +kernel
theorem zdM_firstRow_12 : decode zkM_firstRow 12 = .ok (.aload_n 0, 1) := by decide +kernel
theorem zdM_firstRow_13 : decode zkM_firstRow 13 = .ok (.getfield 90, 3) := by decide +kernel
theorem zdM_firstRow_16 : decode zkM_firstRow 16 = .ok (.if_icmp .gt 42, 3) := by decide +kernel
theorem zdM_firstRow_19 : decode zkM_firstRow 19 = .ok (.aload_n 0, 1) := by decide +kernel
theorem zdM_firstRow_20 : decode zkM_firstRow 20 = .ok (.iload_n 2, 1) := by decide +kernel
theorem zdM_firstRow_21 : decode zkM_firstRow 21 = .ok (.invokevirtual 103, 3) := by decide +kernel
theorem zdM_firstRow_24 : decode zkM_firstRow 24 = .ok (.ifCond .eq 26, 3) := by decide +kernel
theorem zdM_firstRow_27 : decode zkM_firstRow 27 = .ok (.iload_n 1, 1) := by decide +kernel
theorem zdM_firstRow_28 : decode zkM_firstRow 28 = .ok (.ifCond .lt 13, 3) := by decide +kernel
theorem zdM_firstRow_31 : decode zkM_firstRow 31 = .ok (.aload_n 0, 1) := by decide +kernel
theorem zdM_firstRow_32 : decode zkM_firstRow 32 = .ok (.getfield 23, 3) := by decide +kernel
theorem zdM_firstRow_35 : decode zkM_firstRow 35 = .ok (.iload_n 2, 1) := by decide +kernel
theorem zdM_firstRow_36 : decode zkM_firstRow 36 = .ok (.iaload, 1) := by decide +kernel
theorem zdM_firstRow_37 : decode zkM_firstRow 37 = .ok (.iload_n 1, 1) := by decide +kernel
theorem zdM_firstRow_38 : decode zkM_firstRow 38 = .ok (.if_icmp .ge 12, 3) := by decide +kernel
theorem zdM_firstRow_41 : decode zkM_firstRow 41 = .ok (.aload_n 0, 1) := by decide +kernel
theorem zdM_firstRow_42 : decode zkM_firstRow 42 = .ok (.getfield 23, 3) := by decide +kernel
theorem zdM_firstRow_45 : decode zkM_firstRow 45 = .ok (.iload_n 2, 1) := by decide +kernel
theorem zdM_firstRow_46 : decode zkM_firstRow 46 = .ok (.iaload, 1) := by decide +kernel
theorem zdM_firstRow_47 : decode zkM_firstRow 47 = .ok (.goto 4, 3) := by decide +kernel
theorem zdM_firstRow_50 : decode zkM_firstRow 50 = .ok (.iload_n 1, 1) := by decide +kernel
theorem zdM_firstRow_51 : decode zkM_firstRow 51 = .ok (.istore_n 1, 1) := by decide +kernel
theorem zdM_firstRow_52 : decode zkM_firstRow 52 = .ok (.iinc 2 1, 3) := by decide +kernel
theorem zdM_firstRow_55 : decode zkM_firstRow 55 = .ok (.goto (-51), 3) := by decide +kernel
theorem zdM_firstRow_58 : decode zkM_firstRow 58 = .ok (.iload_n 1, 1) := by decide +kernel
theorem zdM_firstRow_59 : decode zkM_firstRow 59 = .ok (.ireturn, 1) := by decide +kernel
theorem zdM_locate_0 : decode zkM_locate 0 = .ok (.iload_n 1, 1) := by decide +kernel
theorem zdM_locate_1 : decode zkM_locate 1 = .ok (.istore_n 2, 1) := by decide +kernel
theorem zdM_locate_2 : decode zkM_locate 2 = .ok (.iconst 0, 1) := by decide +kernel
theorem zdM_locate_3 : decode zkM_locate 3 = .ok (.istore_n 3, 1) := by decide +kernel
theorem zdM_locate_4 : decode zkM_locate 4 = .ok (.aload_n 0, 1) := by decide +kernel
theorem zdM_locate_5 : decode zkM_locate 5 = .ok (.getfield 86, 3) := by decide +kernel
theorem zdM_locate_8 : decode zkM_locate 8 = .ok (.ifCond .eq 38, 3) := by decide +kernel
theorem zdM_locate_11 : decode zkM_locate 11 = .ok (.iload_n 1, 1) := by decide +kernel
theorem zdM_locate_12 : decode zkM_locate 12 = .ok (.ifCond .lt 34, 3) := by decide +kernel
theorem zdM_locate_15 : decode zkM_locate 15 = .ok (.iload_n 3, 1) := by decide +kernel
theorem zdM_locate_16 : decode zkM_locate 16 = .ok (.aload_n 0, 1) := by decide +kernel
theorem zdM_locate_17 : decode zkM_locate 17 = .ok (.getfield 90, 3) := by decide +kernel
theorem zdM_locate_20 : decode zkM_locate 20 = .ok (.if_icmp .gt 26, 3) := by decide +kernel
theorem zdM_locate_23 : decode zkM_locate 23 = .ok (.aload_n 0, 1) := by decide +kernel
theorem zdM_locate_24 : decode zkM_locate 24 = .ok (.iload_n 3, 1) := by decide +kernel
theorem zdM_locate_25 : decode zkM_locate 25 = .ok (.invokevirtual 103, 3) := by decide +kernel
theorem zdM_locate_28 : decode zkM_locate 28 = .ok (.ifCond .eq 12, 3) := by decide +kernel
theorem zdM_locate_31 : decode zkM_locate 31 = .ok (.iload_n 2, 1) := by decide +kernel
theorem zdM_locate_32 : decode zkM_locate 32 = .ok (.ifCond .ne 5, 3) := by decide +kernel
theorem zdM_locate_35 : decode zkM_locate 35 = .ok (.iload_n 3, 1) := by decide +kernel
theorem zdM_locate_36 : decode zkM_locate 36 = .ok (.ireturn, 1) := by decide +kernel
theorem zdM_locate_37 : decode zkM_locate 37 = .ok (.iinc 2 (-1), 3) := by decide +kernel
theorem zdM_locate_40 : decode zkM_locate 40 = .ok (.iinc 3 1, 3) := by decide +kernel
theorem zdM_locate_43 : decode zkM_locate 43 = .ok (.goto (-39), 3) := by decide +kernel
theorem zdM_locate_46 : decode zkM_locate 46 = .ok (.iconst (-1), 1) := by decide +kernel
theorem zdM_locate_47 : decode zkM_locate 47 = .ok (.ireturn, 1) := by decide +kernel
theorem zdM_variety_0 : decode zkM_variety 0 = .ok (.iconst 0, 1) := by decide +kernel
theorem zdM_variety_1 : decode zkM_variety 1 = .ok (.istore_n 1, 1) := by decide +kernel
theorem zdM_variety_2 : decode zkM_variety 2 = .ok (.bipush 32, 2) := by decide +kernel
theorem zdM_variety_4 : decode zkM_variety 4 = .ok (.istore_n 2, 1) := by decide +kernel
theorem zdM_variety_5 : decode zkM_variety 5 = .ok (.iload_n 2, 1) := by decide +kernel
theorem zdM_variety_6 : decode zkM_variety 6 = .ok (.bipush 127, 2) := by decide +kernel
theorem zdM_variety_8 : decode zkM_variety 8 = .ok (.if_icmp .ge 80, 3) := by decide +kernel
theorem zdM_variety_11 : decode zkM_variety 11 = .ok (.aload_n 0, 1) := by decide +kernel
theorem zdM_variety_12 : decode zkM_variety 12 = .ok (.getfield 86, 3) := by decide +kernel
theorem zdM_variety_15 : decode zkM_variety 15 = .ok (.ifCond .eq 73, 3) := by decide +kernel
theorem zdM_variety_18 : decode zkM_variety 18 = .ok (.iconst 0, 1) := by decide +kernel
theorem zdM_variety_19 : decode zkM_variety 19 = .ok (.istore_n 3, 1) := by decide +kernel
theorem zdM_variety_20 : decode zkM_variety 20 = .ok (.iconst 1, 1) := by decide +kernel
theorem zdM_variety_21 : decode zkM_variety 21 = .ok (.istore 4, 2) := by decide +kernel
theorem zdM_variety_23 : decode zkM_variety 23 = .ok (.iload 4, 2) := by decide +kernel
theorem zdM_variety_25 : decode zkM_variety 25 = .ok (.aload_n 0, 1) := by decide +kernel
theorem zdM_variety_26 : decode zkM_variety 26 = .ok (.getfield 90, 3) := by decide +kernel
theorem zdM_variety_29 : decode zkM_variety 29 = .ok (.if_icmp .gt 41, 3) := by decide +kernel
theorem zdM_variety_32 : decode zkM_variety 32 = .ok (.iload_n 3, 1) := by decide +kernel
theorem zdM_variety_33 : decode zkM_variety 33 = .ok (.ifCond .ne 25, 3) := by decide +kernel
theorem zdM_variety_36 : decode zkM_variety 36 = .ok (.aload_n 0, 1) := by decide +kernel
theorem zdM_variety_37 : decode zkM_variety 37 = .ok (.getfield 17, 3) := by decide +kernel
theorem zdM_variety_40 : decode zkM_variety 40 = .ok (.iload 4, 2) := by decide +kernel
theorem zdM_variety_42 : decode zkM_variety 42 = .ok (.iconst 1, 1) := by decide +kernel
theorem zdM_variety_43 : decode zkM_variety 43 = .ok (.isub, 1) := by decide +kernel
theorem zdM_variety_44 : decode zkM_variety 44 = .ok (.iaload, 1) := by decide +kernel
theorem zdM_variety_45 : decode zkM_variety 45 = .ok (.iload_n 2, 1) := by decide +kernel
theorem zdM_variety_46 : decode zkM_variety 46 = .ok (.if_icmp .ne 16, 3) := by decide +kernel
theorem zdM_variety_49 : decode zkM_variety 49 = .ok (.aload_n 0, 1) := by decide +kernel
theorem zdM_variety_50 : decode zkM_variety 50 = .ok (.iload 4, 2) := by decide +kernel
theorem zdM_variety_52 : decode zkM_variety 52 = .ok (.invokevirtual 103, 3) := by decide +kernel
theorem zdM_variety_55 : decode zkM_variety 55 = .ok (.ifCond .eq 7, 3) := by decide +kernel
theorem zdM_variety_58 : decode zkM_variety 58 = .ok (.iconst 1, 1) := by decide +kernel
theorem zdM_variety_59 : decode zkM_variety 59 = .ok (.goto 4, 3) := by decide +kernel
theorem zdM_variety_62 : decode zkM_variety 62 = .ok (.iconst 0, 1) := by decide +kernel
theorem zdM_variety_63 : decode zkM_variety 63 = .ok (.istore_n 3, 1) := by decide +kernel
theorem zdM_variety_64 : decode zkM_variety 64 = .ok (.iinc 4 1, 3) := by decide +kernel
theorem zdM_variety_67 : decode zkM_variety 67 = .ok (.goto (-44), 3) := by decide +kernel
theorem zdM_variety_70 : decode zkM_variety 70 = .ok (.iload_n 3, 1) := by decide +kernel
theorem zdM_variety_71 : decode zkM_variety 71 = .ok (.ifCond .eq 9, 3) := by decide +kernel
theorem zdM_variety_74 : decode zkM_variety 74 = .ok (.iload_n 1, 1) := by decide +kernel
theorem zdM_variety_75 : decode zkM_variety 75 = .ok (.iconst 1, 1) := by decide +kernel
theorem zdM_variety_76 : decode zkM_variety 76 = .ok (.iadd, 1) := by decide +kernel
theorem zdM_variety_77 : decode zkM_variety 77 = .ok (.goto 4, 3) := by decide +kernel
theorem zdM_variety_80 : decode zkM_variety 80 = .ok (.iload_n 1, 1) := by decide +kernel
theorem zdM_variety_81 : decode zkM_variety 81 = .ok (.istore_n 1, 1) := by decide +kernel
theorem zdM_variety_82 : decode zkM_variety 82 = .ok (.iinc 2 1, 3) := by decide +kernel
theorem zdM_variety_85 : decode zkM_variety 85 = .ok (.goto (-80), 3) := by decide +kernel
theorem zdM_variety_88 : decode zkM_variety 88 = .ok (.aload_n 0, 1) := by decide +kernel
theorem zdM_variety_89 : decode zkM_variety 89 = .ok (.getfield 86, 3) := by decide +kernel
theorem zdM_variety_92 : decode zkM_variety 92 = .ok (.ifCond .eq 7, 3) := by decide +kernel
theorem zdM_variety_95 : decode zkM_variety 95 = .ok (.iload_n 1, 1) := by decide +kernel
theorem zdM_variety_96 : decode zkM_variety 96 = .ok (.goto 4, 3) := by decide +kernel
theorem zdM_variety_99 : decode zkM_variety 99 = .ok (.iconst (-1), 1) := by decide +kernel
theorem zdM_variety_100 : decode zkM_variety 100 = .ok (.ireturn, 1) := by decide +kernel
end
section
/-! Decode rows. Written by wip/draft/gen_names.py -/
theorem zdW_law_0 : decode code 0 = .ok (.new 7, 3) := by decide +kernel
theorem zdW_law_3 : decode code 3 = .ok (.dup, 1) := by decide +kernel
theorem zdW_law_4 : decode code 4 = .ok (.invokespecial 9, 3) := by decide +kernel
theorem zdW_law_7 : decode code 7 = .ok (.astore_n 1, 1) := by decide +kernel
theorem zdW_law_8 : decode code 8 = .ok (.new 10, 3) := by decide +kernel
theorem zdW_law_11 : decode code 11 = .ok (.dup, 1) := by decide +kernel
theorem zdW_law_12 : decode code 12 = .ok (.invokespecial 12, 3) := by decide +kernel
theorem zdW_law_15 : decode code 15 = .ok (.astore_n 2, 1) := by decide +kernel
theorem zdW_law_16 : decode code 16 = .ok (.iconst 0, 1) := by decide +kernel
theorem zdW_law_17 : decode code 17 = .ok (.istore_n 3, 1) := by decide +kernel
theorem zdW_law_18 : decode code 18 = .ok (.iload_n 3, 1) := by decide +kernel
theorem zdW_law_19 : decode code 19 = .ok (.aload_n 0, 1) := by decide +kernel
theorem zdW_law_20 : decode code 20 = .ok (.arraylength, 1) := by decide +kernel
theorem zdW_law_21 : decode code 21 = .ok (.iconst 4, 1) := by decide +kernel
theorem zdW_law_22 : decode code 22 = .ok (.isub, 1) := by decide +kernel
theorem zdW_law_23 : decode code 23 = .ok (.if_icmp .gt 490, 3) := by decide +kernel
theorem zdW_law_26 : decode code 26 = .ok (.aload_n 0, 1) := by decide +kernel
theorem zdW_law_27 : decode code 27 = .ok (.iload_n 3, 1) := by decide +kernel
theorem zdW_law_28 : decode code 28 = .ok (.iaload, 1) := by decide +kernel
theorem zdW_law_29 : decode code 29 = .ok (.bipush 31, 2) := by decide +kernel
theorem zdW_law_31 : decode code 31 = .ok (.iand, 1) := by decide +kernel
theorem zdW_law_32 : decode code 32 = .ok (.tableswitch 475 0 17 #[88, 113, 124, 147, 171, 234, 267, 280, 293, 306, 329, 352, 375, 400, 413, 426, 439, 462], 88) := by decide +kernel
theorem zdW_law_120 : decode code 120 = .ok (.aload_n 1, 1) := by decide +kernel
theorem zdW_law_121 : decode code 121 = .ok (.aload_n 0, 1) := by decide +kernel
theorem zdW_law_122 : decode code 122 = .ok (.iload_n 3, 1) := by decide +kernel
theorem zdW_law_123 : decode code 123 = .ok (.iconst 1, 1) := by decide +kernel
theorem zdW_law_124 : decode code 124 = .ok (.iadd, 1) := by decide +kernel
theorem zdW_law_125 : decode code 125 = .ok (.iaload, 1) := by decide +kernel
theorem zdW_law_126 : decode code 126 = .ok (.i2c, 1) := by decide +kernel
theorem zdW_law_127 : decode code 127 = .ok (.invokevirtual 13, 3) := by decide +kernel
theorem zdW_law_130 : decode code 130 = .ok (.aload_n 2, 1) := by decide +kernel
theorem zdW_law_131 : decode code 131 = .ok (.aload_n 0, 1) := by decide +kernel
theorem zdW_law_132 : decode code 132 = .ok (.iload_n 3, 1) := by decide +kernel
theorem zdW_law_133 : decode code 133 = .ok (.iconst 1, 1) := by decide +kernel
theorem zdW_law_134 : decode code 134 = .ok (.iadd, 1) := by decide +kernel
theorem zdW_law_135 : decode code 135 = .ok (.iaload, 1) := by decide +kernel
theorem zdW_law_136 : decode code 136 = .ok (.i2c, 1) := by decide +kernel
theorem zdW_law_137 : decode code 137 = .ok (.invokevirtual 17, 3) := by decide +kernel
theorem zdW_law_140 : decode code 140 = .ok (.if_icmp .eq 367, 3) := by decide +kernel
theorem zdW_law_143 : decode code 143 = .ok (.iconst 0, 1) := by decide +kernel
theorem zdW_law_144 : decode code 144 = .ok (.ireturn, 1) := by decide +kernel
theorem zdW_law_145 : decode code 145 = .ok (.aload_n 1, 1) := by decide +kernel
theorem zdW_law_146 : decode code 146 = .ok (.invokevirtual 18, 3) := by decide +kernel
theorem zdW_law_149 : decode code 149 = .ok (.aload_n 2, 1) := by decide +kernel
theorem zdW_law_150 : decode code 150 = .ok (.invokevirtual 21, 3) := by decide +kernel
theorem zdW_law_153 : decode code 153 = .ok (.goto 354, 3) := by decide +kernel
theorem zdW_law_156 : decode code 156 = .ok (.aload_n 1, 1) := by decide +kernel
theorem zdW_law_157 : decode code 157 = .ok (.aload_n 0, 1) := by decide +kernel
theorem zdW_law_158 : decode code 158 = .ok (.iload_n 3, 1) := by decide +kernel
theorem zdW_law_159 : decode code 159 = .ok (.iconst 1, 1) := by decide +kernel
theorem zdW_law_160 : decode code 160 = .ok (.iadd, 1) := by decide +kernel
theorem zdW_law_161 : decode code 161 = .ok (.iaload, 1) := by decide +kernel
theorem zdW_law_162 : decode code 162 = .ok (.invokevirtual 22, 3) := by decide +kernel
theorem zdW_law_165 : decode code 165 = .ok (.aload_n 2, 1) := by decide +kernel
theorem zdW_law_166 : decode code 166 = .ok (.aload_n 0, 1) := by decide +kernel
theorem zdW_law_167 : decode code 167 = .ok (.iload_n 3, 1) := by decide +kernel
theorem zdW_law_168 : decode code 168 = .ok (.iconst 1, 1) := by decide +kernel
theorem zdW_law_169 : decode code 169 = .ok (.iadd, 1) := by decide +kernel
theorem zdW_law_170 : decode code 170 = .ok (.iaload, 1) := by decide +kernel
theorem zdW_law_171 : decode code 171 = .ok (.invokevirtual 26, 3) := by decide +kernel
theorem zdW_law_174 : decode code 174 = .ok (.if_icmp .eq 333, 3) := by decide +kernel
theorem zdW_law_177 : decode code 177 = .ok (.iconst 0, 1) := by decide +kernel
theorem zdW_law_178 : decode code 178 = .ok (.ireturn, 1) := by decide +kernel
theorem zdW_law_179 : decode code 179 = .ok (.aload_n 1, 1) := by decide +kernel
theorem zdW_law_180 : decode code 180 = .ok (.aload_n 0, 1) := by decide +kernel
theorem zdW_law_181 : decode code 181 = .ok (.iload_n 3, 1) := by decide +kernel
theorem zdW_law_182 : decode code 182 = .ok (.iconst 1, 1) := by decide +kernel
theorem zdW_law_183 : decode code 183 = .ok (.iadd, 1) := by decide +kernel
theorem zdW_law_184 : decode code 184 = .ok (.iaload, 1) := by decide +kernel
theorem zdW_law_185 : decode code 185 = .ok (.invokevirtual 27, 3) := by decide +kernel
theorem zdW_law_188 : decode code 188 = .ok (.aload_n 2, 1) := by decide +kernel
theorem zdW_law_189 : decode code 189 = .ok (.aload_n 0, 1) := by decide +kernel
theorem zdW_law_190 : decode code 190 = .ok (.iload_n 3, 1) := by decide +kernel
theorem zdW_law_191 : decode code 191 = .ok (.iconst 1, 1) := by decide +kernel
theorem zdW_law_192 : decode code 192 = .ok (.iadd, 1) := by decide +kernel
theorem zdW_law_193 : decode code 193 = .ok (.iaload, 1) := by decide +kernel
theorem zdW_law_194 : decode code 194 = .ok (.invokevirtual 31, 3) := by decide +kernel
theorem zdW_law_197 : decode code 197 = .ok (.lcmp, 1) := by decide +kernel
theorem zdW_law_198 : decode code 198 = .ok (.ifCond .eq 309, 3) := by decide +kernel
theorem zdW_law_201 : decode code 201 = .ok (.iconst 0, 1) := by decide +kernel
theorem zdW_law_202 : decode code 202 = .ok (.ireturn, 1) := by decide +kernel
theorem zdW_law_203 : decode code 203 = .ok (.aload_n 1, 1) := by decide +kernel
theorem zdW_law_204 : decode code 204 = .ok (.aload_n 0, 1) := by decide +kernel
theorem zdW_law_205 : decode code 205 = .ok (.iload_n 3, 1) := by decide +kernel
theorem zdW_law_206 : decode code 206 = .ok (.iconst 1, 1) := by decide +kernel
theorem zdW_law_207 : decode code 207 = .ok (.iadd, 1) := by decide +kernel
theorem zdW_law_208 : decode code 208 = .ok (.iaload, 1) := by decide +kernel
theorem zdW_law_209 : decode code 209 = .ok (.aload_n 0, 1) := by decide +kernel
theorem zdW_law_210 : decode code 210 = .ok (.iload_n 3, 1) := by decide +kernel
theorem zdW_law_211 : decode code 211 = .ok (.iconst 2, 1) := by decide +kernel
theorem zdW_law_212 : decode code 212 = .ok (.iadd, 1) := by decide +kernel
theorem zdW_law_213 : decode code 213 = .ok (.iaload, 1) := by decide +kernel
theorem zdW_law_214 : decode code 214 = .ok (.i2l, 1) := by decide +kernel
theorem zdW_law_215 : decode code 215 = .ok (.bipush 32, 2) := by decide +kernel
theorem zdW_law_217 : decode code 217 = .ok (.lshl, 1) := by decide +kernel
theorem zdW_law_218 : decode code 218 = .ok (.aload_n 0, 1) := by decide +kernel
theorem zdW_law_219 : decode code 219 = .ok (.iload_n 3, 1) := by decide +kernel
theorem zdW_law_220 : decode code 220 = .ok (.iconst 3, 1) := by decide +kernel
theorem zdW_law_221 : decode code 221 = .ok (.iadd, 1) := by decide +kernel
theorem zdW_law_222 : decode code 222 = .ok (.iaload, 1) := by decide +kernel
theorem zdW_law_223 : decode code 223 = .ok (.i2l, 1) := by decide +kernel
theorem zdW_law_224 : decode code 224 = .ok (.ldc2_w 32, 3) := by decide +kernel
theorem zdW_law_227 : decode code 227 = .ok (.land, 1) := by decide +kernel
theorem zdW_law_228 : decode code 228 = .ok (.lor, 1) := by decide +kernel
theorem zdW_law_229 : decode code 229 = .ok (.invokevirtual 34, 3) := by decide +kernel
theorem zdW_law_232 : decode code 232 = .ok (.aload_n 2, 1) := by decide +kernel
theorem zdW_law_233 : decode code 233 = .ok (.aload_n 0, 1) := by decide +kernel
theorem zdW_law_234 : decode code 234 = .ok (.iload_n 3, 1) := by decide +kernel
theorem zdW_law_235 : decode code 235 = .ok (.iconst 1, 1) := by decide +kernel
theorem zdW_law_236 : decode code 236 = .ok (.iadd, 1) := by decide +kernel
theorem zdW_law_237 : decode code 237 = .ok (.iaload, 1) := by decide +kernel
theorem zdW_law_238 : decode code 238 = .ok (.aload_n 0, 1) := by decide +kernel
theorem zdW_law_239 : decode code 239 = .ok (.iload_n 3, 1) := by decide +kernel
theorem zdW_law_240 : decode code 240 = .ok (.iconst 2, 1) := by decide +kernel
theorem zdW_law_241 : decode code 241 = .ok (.iadd, 1) := by decide +kernel
theorem zdW_law_242 : decode code 242 = .ok (.iaload, 1) := by decide +kernel
theorem zdW_law_243 : decode code 243 = .ok (.i2l, 1) := by decide +kernel
theorem zdW_law_244 : decode code 244 = .ok (.bipush 32, 2) := by decide +kernel
theorem zdW_law_246 : decode code 246 = .ok (.lshl, 1) := by decide +kernel
theorem zdW_law_247 : decode code 247 = .ok (.aload_n 0, 1) := by decide +kernel
theorem zdW_law_248 : decode code 248 = .ok (.iload_n 3, 1) := by decide +kernel
theorem zdW_law_249 : decode code 249 = .ok (.iconst 3, 1) := by decide +kernel
theorem zdW_law_250 : decode code 250 = .ok (.iadd, 1) := by decide +kernel
theorem zdW_law_251 : decode code 251 = .ok (.iaload, 1) := by decide +kernel
theorem zdW_law_252 : decode code 252 = .ok (.i2l, 1) := by decide +kernel
theorem zdW_law_253 : decode code 253 = .ok (.ldc2_w 32, 3) := by decide +kernel
theorem zdW_law_256 : decode code 256 = .ok (.land, 1) := by decide +kernel
theorem zdW_law_257 : decode code 257 = .ok (.lor, 1) := by decide +kernel
theorem zdW_law_258 : decode code 258 = .ok (.invokevirtual 38, 3) := by decide +kernel
theorem zdW_law_261 : decode code 261 = .ok (.if_icmp .eq 246, 3) := by decide +kernel
theorem zdW_law_264 : decode code 264 = .ok (.iconst 0, 1) := by decide +kernel
theorem zdW_law_265 : decode code 265 = .ok (.ireturn, 1) := by decide +kernel
theorem zdW_law_266 : decode code 266 = .ok (.aload_n 1, 1) := by decide +kernel
theorem zdW_law_267 : decode code 267 = .ok (.aload_n 0, 1) := by decide +kernel
theorem zdW_law_268 : decode code 268 = .ok (.iload_n 3, 1) := by decide +kernel
theorem zdW_law_269 : decode code 269 = .ok (.iconst 1, 1) := by decide +kernel
theorem zdW_law_270 : decode code 270 = .ok (.iadd, 1) := by decide +kernel
theorem zdW_law_271 : decode code 271 = .ok (.iaload, 1) := by decide +kernel
theorem zdW_law_272 : decode code 272 = .ok (.aload_n 0, 1) := by decide +kernel
theorem zdW_law_273 : decode code 273 = .ok (.iload_n 3, 1) := by decide +kernel
theorem zdW_law_274 : decode code 274 = .ok (.iconst 2, 1) := by decide +kernel
theorem zdW_law_275 : decode code 275 = .ok (.iadd, 1) := by decide +kernel
theorem zdW_law_276 : decode code 276 = .ok (.iaload, 1) := by decide +kernel
theorem zdW_law_277 : decode code 277 = .ok (.invokevirtual 39, 3) := by decide +kernel
theorem zdW_law_280 : decode code 280 = .ok (.aload_n 2, 1) := by decide +kernel
theorem zdW_law_281 : decode code 281 = .ok (.aload_n 0, 1) := by decide +kernel
theorem zdW_law_282 : decode code 282 = .ok (.iload_n 3, 1) := by decide +kernel
theorem zdW_law_283 : decode code 283 = .ok (.iconst 1, 1) := by decide +kernel
theorem zdW_law_284 : decode code 284 = .ok (.iadd, 1) := by decide +kernel
theorem zdW_law_285 : decode code 285 = .ok (.iaload, 1) := by decide +kernel
theorem zdW_law_286 : decode code 286 = .ok (.aload_n 0, 1) := by decide +kernel
theorem zdW_law_287 : decode code 287 = .ok (.iload_n 3, 1) := by decide +kernel
theorem zdW_law_288 : decode code 288 = .ok (.iconst 2, 1) := by decide +kernel
theorem zdW_law_289 : decode code 289 = .ok (.iadd, 1) := by decide +kernel
theorem zdW_law_290 : decode code 290 = .ok (.iaload, 1) := by decide +kernel
theorem zdW_law_291 : decode code 291 = .ok (.invokevirtual 43, 3) := by decide +kernel
theorem zdW_law_294 : decode code 294 = .ok (.if_icmp .eq 213, 3) := by decide +kernel
theorem zdW_law_297 : decode code 297 = .ok (.iconst 0, 1) := by decide +kernel
theorem zdW_law_298 : decode code 298 = .ok (.ireturn, 1) := by decide +kernel
theorem zdW_law_299 : decode code 299 = .ok (.aload_n 1, 1) := by decide +kernel
theorem zdW_law_300 : decode code 300 = .ok (.invokevirtual 44, 3) := by decide +kernel
theorem zdW_law_303 : decode code 303 = .ok (.aload_n 2, 1) := by decide +kernel
theorem zdW_law_304 : decode code 304 = .ok (.invokevirtual 48, 3) := by decide +kernel
theorem zdW_law_307 : decode code 307 = .ok (.if_icmp .eq 200, 3) := by decide +kernel
theorem zdW_law_310 : decode code 310 = .ok (.iconst 0, 1) := by decide +kernel
theorem zdW_law_311 : decode code 311 = .ok (.ireturn, 1) := by decide +kernel
theorem zdW_law_312 : decode code 312 = .ok (.aload_n 1, 1) := by decide +kernel
theorem zdW_law_313 : decode code 313 = .ok (.invokevirtual 49, 3) := by decide +kernel
theorem zdW_law_316 : decode code 316 = .ok (.aload_n 2, 1) := by decide +kernel
theorem zdW_law_317 : decode code 317 = .ok (.invokevirtual 53, 3) := by decide +kernel
theorem zdW_law_320 : decode code 320 = .ok (.if_icmp .eq 187, 3) := by decide +kernel
theorem zdW_law_323 : decode code 323 = .ok (.iconst 0, 1) := by decide +kernel
theorem zdW_law_324 : decode code 324 = .ok (.ireturn, 1) := by decide +kernel
theorem zdW_law_325 : decode code 325 = .ok (.aload_n 1, 1) := by decide +kernel
theorem zdW_law_326 : decode code 326 = .ok (.invokevirtual 54, 3) := by decide +kernel
theorem zdW_law_329 : decode code 329 = .ok (.aload_n 2, 1) := by decide +kernel
theorem zdW_law_330 : decode code 330 = .ok (.invokevirtual 57, 3) := by decide +kernel
theorem zdW_law_333 : decode code 333 = .ok (.if_icmp .eq 174, 3) := by decide +kernel
theorem zdW_law_336 : decode code 336 = .ok (.iconst 0, 1) := by decide +kernel
theorem zdW_law_337 : decode code 337 = .ok (.ireturn, 1) := by decide +kernel
theorem zdW_law_338 : decode code 338 = .ok (.aload_n 1, 1) := by decide +kernel
theorem zdW_law_339 : decode code 339 = .ok (.aload_n 0, 1) := by decide +kernel
theorem zdW_law_340 : decode code 340 = .ok (.iload_n 3, 1) := by decide +kernel
theorem zdW_law_341 : decode code 341 = .ok (.iconst 1, 1) := by decide +kernel
theorem zdW_law_342 : decode code 342 = .ok (.iadd, 1) := by decide +kernel
theorem zdW_law_343 : decode code 343 = .ok (.iaload, 1) := by decide +kernel
theorem zdW_law_344 : decode code 344 = .ok (.invokevirtual 58, 3) := by decide +kernel
theorem zdW_law_347 : decode code 347 = .ok (.aload_n 2, 1) := by decide +kernel
theorem zdW_law_348 : decode code 348 = .ok (.aload_n 0, 1) := by decide +kernel
theorem zdW_law_349 : decode code 349 = .ok (.iload_n 3, 1) := by decide +kernel
theorem zdW_law_350 : decode code 350 = .ok (.iconst 1, 1) := by decide +kernel
theorem zdW_law_351 : decode code 351 = .ok (.iadd, 1) := by decide +kernel
theorem zdW_law_352 : decode code 352 = .ok (.iaload, 1) := by decide +kernel
theorem zdW_law_353 : decode code 353 = .ok (.invokevirtual 62, 3) := by decide +kernel
theorem zdW_law_356 : decode code 356 = .ok (.if_icmp .eq 151, 3) := by decide +kernel
theorem zdW_law_359 : decode code 359 = .ok (.iconst 0, 1) := by decide +kernel
theorem zdW_law_360 : decode code 360 = .ok (.ireturn, 1) := by decide +kernel
theorem zdW_law_361 : decode code 361 = .ok (.aload_n 1, 1) := by decide +kernel
theorem zdW_law_362 : decode code 362 = .ok (.aload_n 0, 1) := by decide +kernel
theorem zdW_law_363 : decode code 363 = .ok (.iload_n 3, 1) := by decide +kernel
theorem zdW_law_364 : decode code 364 = .ok (.iconst 1, 1) := by decide +kernel
theorem zdW_law_365 : decode code 365 = .ok (.iadd, 1) := by decide +kernel
theorem zdW_law_366 : decode code 366 = .ok (.iaload, 1) := by decide +kernel
theorem zdW_law_367 : decode code 367 = .ok (.invokevirtual 63, 3) := by decide +kernel
theorem zdW_law_370 : decode code 370 = .ok (.aload_n 2, 1) := by decide +kernel
theorem zdW_law_371 : decode code 371 = .ok (.aload_n 0, 1) := by decide +kernel
theorem zdW_law_372 : decode code 372 = .ok (.iload_n 3, 1) := by decide +kernel
theorem zdW_law_373 : decode code 373 = .ok (.iconst 1, 1) := by decide +kernel
theorem zdW_law_374 : decode code 374 = .ok (.iadd, 1) := by decide +kernel
theorem zdW_law_375 : decode code 375 = .ok (.iaload, 1) := by decide +kernel
theorem zdW_law_376 : decode code 376 = .ok (.invokevirtual 66, 3) := by decide +kernel
theorem zdW_law_379 : decode code 379 = .ok (.if_icmp .eq 128, 3) := by decide +kernel
theorem zdW_law_382 : decode code 382 = .ok (.iconst 0, 1) := by decide +kernel
theorem zdW_law_383 : decode code 383 = .ok (.ireturn, 1) := by decide +kernel
theorem zdW_law_384 : decode code 384 = .ok (.aload_n 1, 1) := by decide +kernel
theorem zdW_law_385 : decode code 385 = .ok (.aload_n 0, 1) := by decide +kernel
theorem zdW_law_386 : decode code 386 = .ok (.iload_n 3, 1) := by decide +kernel
theorem zdW_law_387 : decode code 387 = .ok (.iconst 1, 1) := by decide +kernel
theorem zdW_law_388 : decode code 388 = .ok (.iadd, 1) := by decide +kernel
theorem zdW_law_389 : decode code 389 = .ok (.iaload, 1) := by decide +kernel
theorem zdW_law_390 : decode code 390 = .ok (.invokevirtual 67, 3) := by decide +kernel
theorem zdW_law_393 : decode code 393 = .ok (.aload_n 2, 1) := by decide +kernel
theorem zdW_law_394 : decode code 394 = .ok (.aload_n 0, 1) := by decide +kernel
theorem zdW_law_395 : decode code 395 = .ok (.iload_n 3, 1) := by decide +kernel
theorem zdW_law_396 : decode code 396 = .ok (.iconst 1, 1) := by decide +kernel
theorem zdW_law_397 : decode code 397 = .ok (.iadd, 1) := by decide +kernel
theorem zdW_law_398 : decode code 398 = .ok (.iaload, 1) := by decide +kernel
theorem zdW_law_399 : decode code 399 = .ok (.invokevirtual 70, 3) := by decide +kernel
theorem zdW_law_402 : decode code 402 = .ok (.if_icmp .eq 105, 3) := by decide +kernel
theorem zdW_law_405 : decode code 405 = .ok (.iconst 0, 1) := by decide +kernel
theorem zdW_law_406 : decode code 406 = .ok (.ireturn, 1) := by decide +kernel
theorem zdW_law_407 : decode code 407 = .ok (.aload_n 1, 1) := by decide +kernel
theorem zdW_law_408 : decode code 408 = .ok (.aload_n 0, 1) := by decide +kernel
theorem zdW_law_409 : decode code 409 = .ok (.iload_n 3, 1) := by decide +kernel
theorem zdW_law_410 : decode code 410 = .ok (.iconst 1, 1) := by decide +kernel
theorem zdW_law_411 : decode code 411 = .ok (.iadd, 1) := by decide +kernel
theorem zdW_law_412 : decode code 412 = .ok (.iaload, 1) := by decide +kernel
theorem zdW_law_413 : decode code 413 = .ok (.i2c, 1) := by decide +kernel
theorem zdW_law_414 : decode code 414 = .ok (.invokevirtual 71, 3) := by decide +kernel
theorem zdW_law_417 : decode code 417 = .ok (.aload_n 2, 1) := by decide +kernel
theorem zdW_law_418 : decode code 418 = .ok (.aload_n 0, 1) := by decide +kernel
theorem zdW_law_419 : decode code 419 = .ok (.iload_n 3, 1) := by decide +kernel
theorem zdW_law_420 : decode code 420 = .ok (.iconst 1, 1) := by decide +kernel
theorem zdW_law_421 : decode code 421 = .ok (.iadd, 1) := by decide +kernel
theorem zdW_law_422 : decode code 422 = .ok (.iaload, 1) := by decide +kernel
theorem zdW_law_423 : decode code 423 = .ok (.i2c, 1) := by decide +kernel
theorem zdW_law_424 : decode code 424 = .ok (.invokevirtual 74, 3) := by decide +kernel
theorem zdW_law_427 : decode code 427 = .ok (.if_icmp .eq 80, 3) := by decide +kernel
theorem zdW_law_430 : decode code 430 = .ok (.iconst 0, 1) := by decide +kernel
theorem zdW_law_431 : decode code 431 = .ok (.ireturn, 1) := by decide +kernel
theorem zdW_law_432 : decode code 432 = .ok (.aload_n 1, 1) := by decide +kernel
theorem zdW_law_433 : decode code 433 = .ok (.invokevirtual 75, 3) := by decide +kernel
theorem zdW_law_436 : decode code 436 = .ok (.aload_n 2, 1) := by decide +kernel
theorem zdW_law_437 : decode code 437 = .ok (.invokevirtual 78, 3) := by decide +kernel
theorem zdW_law_440 : decode code 440 = .ok (.if_icmp .eq 67, 3) := by decide +kernel
theorem zdW_law_443 : decode code 443 = .ok (.iconst 0, 1) := by decide +kernel
theorem zdW_law_444 : decode code 444 = .ok (.ireturn, 1) := by decide +kernel
theorem zdW_law_445 : decode code 445 = .ok (.aload_n 1, 1) := by decide +kernel
theorem zdW_law_446 : decode code 446 = .ok (.invokevirtual 79, 3) := by decide +kernel
theorem zdW_law_449 : decode code 449 = .ok (.aload_n 2, 1) := by decide +kernel
theorem zdW_law_450 : decode code 450 = .ok (.invokevirtual 82, 3) := by decide +kernel
theorem zdW_law_453 : decode code 453 = .ok (.if_icmp .eq 54, 3) := by decide +kernel
theorem zdW_law_456 : decode code 456 = .ok (.iconst 0, 1) := by decide +kernel
theorem zdW_law_457 : decode code 457 = .ok (.ireturn, 1) := by decide +kernel
theorem zdW_law_458 : decode code 458 = .ok (.aload_n 1, 1) := by decide +kernel
theorem zdW_law_459 : decode code 459 = .ok (.invokevirtual 83, 3) := by decide +kernel
theorem zdW_law_462 : decode code 462 = .ok (.aload_n 2, 1) := by decide +kernel
theorem zdW_law_463 : decode code 463 = .ok (.invokevirtual 86, 3) := by decide +kernel
theorem zdW_law_466 : decode code 466 = .ok (.if_icmp .eq 41, 3) := by decide +kernel
theorem zdW_law_469 : decode code 469 = .ok (.iconst 0, 1) := by decide +kernel
theorem zdW_law_470 : decode code 470 = .ok (.ireturn, 1) := by decide +kernel
theorem zdW_law_471 : decode code 471 = .ok (.aload_n 1, 1) := by decide +kernel
theorem zdW_law_472 : decode code 472 = .ok (.aload_n 0, 1) := by decide +kernel
theorem zdW_law_473 : decode code 473 = .ok (.iload_n 3, 1) := by decide +kernel
theorem zdW_law_474 : decode code 474 = .ok (.iconst 1, 1) := by decide +kernel
theorem zdW_law_475 : decode code 475 = .ok (.iadd, 1) := by decide +kernel
theorem zdW_law_476 : decode code 476 = .ok (.iaload, 1) := by decide +kernel
theorem zdW_law_477 : decode code 477 = .ok (.invokevirtual 87, 3) := by decide +kernel
theorem zdW_law_480 : decode code 480 = .ok (.aload_n 2, 1) := by decide +kernel
theorem zdW_law_481 : decode code 481 = .ok (.aload_n 0, 1) := by decide +kernel
theorem zdW_law_482 : decode code 482 = .ok (.iload_n 3, 1) := by decide +kernel
theorem zdW_law_483 : decode code 483 = .ok (.iconst 1, 1) := by decide +kernel
theorem zdW_law_484 : decode code 484 = .ok (.iadd, 1) := by decide +kernel
theorem zdW_law_485 : decode code 485 = .ok (.iaload, 1) := by decide +kernel
theorem zdW_law_486 : decode code 486 = .ok (.invokevirtual 90, 3) := by decide +kernel
theorem zdW_law_489 : decode code 489 = .ok (.if_icmp .eq 18, 3) := by decide +kernel
theorem zdW_law_492 : decode code 492 = .ok (.iconst 0, 1) := by decide +kernel
theorem zdW_law_493 : decode code 493 = .ok (.ireturn, 1) := by decide +kernel
theorem zdW_law_494 : decode code 494 = .ok (.aload_n 1, 1) := by decide +kernel
theorem zdW_law_495 : decode code 495 = .ok (.invokevirtual 91, 3) := by decide +kernel
theorem zdW_law_498 : decode code 498 = .ok (.aload_n 2, 1) := by decide +kernel
theorem zdW_law_499 : decode code 499 = .ok (.invokevirtual 94, 3) := by decide +kernel
theorem zdW_law_502 : decode code 502 = .ok (.if_icmp .eq 5, 3) := by decide +kernel
theorem zdW_law_505 : decode code 505 = .ok (.iconst 0, 1) := by decide +kernel
theorem zdW_law_506 : decode code 506 = .ok (.ireturn, 1) := by decide +kernel
theorem zdW_law_507 : decode code 507 = .ok (.iinc 3 4, 3) := by decide +kernel
theorem zdW_law_510 : decode code 510 = .ok (.goto (-492), 3) := by decide +kernel
theorem zdW_law_513 : decode code 513 = .ok (.iconst 1, 1) := by decide +kernel
theorem zdW_law_514 : decode code 514 = .ok (.ireturn, 1) := by decide +kernel
end
section
/-! Pasted from kit/laws/BITS.to-paste: the family wb_ -/
theorem wb_tb (n : Nat) : (lN n).toBitVec = BitVec.ofNat 64 n := rfl
theorem wb_inj {a b : Int64} (h : a.toBitVec = b.toBitVec) : a = b := Int64.toBitVec_inj.mp h
theorem wb_tn {n : Nat} (h : n < 2 ^ 64) : (lN n).toBitVec.toNat = n := by rw [wb_tb, BitVec.toNat_ofNat, Nat.mod_eq_of_lt h]
theorem wb_of (x : Int64) : ∃ n, n < 2 ^ 64 ∧ x = lN n := ⟨x.toBitVec.toNat, x.toBitVec.isLt, wb_inj (by rw [wb_tb]; simp)⟩
theorem wb_of32 (x : Int32) : ∃ n, n < 2 ^ 32 ∧ x = nI n := ⟨x.toBitVec.toNat, x.toBitVec.isLt, Int32.toBitVec_inj.mp (by show _ = BitVec.ofNat 32 _; simp)⟩
theorem wb_c : ∀ k, k < 64 → ((nI k).toInt64 &&& 63) = lN k := by decide +kernel
theorem wb_cu : ∀ k, k < 64 → ((nI k).toInt64.toUInt64 &&& Int64.toUInt64 63) = UInt64.ofNat k := by decide +kernel
theorem wb_sm : ∀ k, k < 64 → (BitVec.ofNat 64 k).smod 64 = BitVec.ofNat 64 k := by decide +kernel
theorem wb_pw {a b : Nat} (h : a ≤ b) : 2 ^ b = 2 ^ a * 2 ^ (b - a) := by rw [← Nat.pow_add]; congr 1; omega
theorem wb_lt2 {a b : Nat} (h : a < b) : 2 ^ a < 2 ^ b := Nat.pow_lt_pow_right (by decide) h
theorem wb_mod (n : Nat) : lN n = lN (n % 2 ^ 64) := wb_inj (by rw [wb_tb, wb_tb]; apply BitVec.eq_of_toNat_eq; rw [BitVec.toNat_ofNat, BitVec.toNat_ofNat, Nat.mod_mod])
theorem wb_shr {n k : Nat} (hn : n < 2 ^ 64) (hk : k < 64) : ((lN n).toUInt64 >>> ((nI k).toInt64.toUInt64 &&& Int64.toUInt64 63)).toInt64 = lN (n / 2 ^ k) := by
  rw [wb_cu k hk]
  apply wb_inj
  apply BitVec.eq_of_toNat_eq
  show ((lN n).toUInt64 >>> UInt64.ofNat k).toNat = (BitVec.ofNat 64 _).toNat
  have h1 : (UInt64.ofNat k).toNat = k := by
    show (BitVec.ofNat 64 k).toNat = k
    rw [BitVec.toNat_ofNat, Nat.mod_eq_of_lt (by omega)]
  have h2 : (lN n).toUInt64.toNat = n := wb_tn hn
  rw [UInt64.toNat_shiftRight, h1, h2, Nat.mod_eq_of_lt hk, Nat.shiftRight_eq_div_pow, BitVec.toNat_ofNat, Nat.mod_eq_of_lt (Nat.lt_of_le_of_lt (Nat.div_le_self _ _) hn)]
theorem wb_shl (n : Nat) {k : Nat} (hk : k < 64) : lN n <<< ((nI k).toInt64 &&& 63) = lN (n * 2 ^ k) := by
  rw [wb_c k hk]
  apply wb_inj
  rw [Int64.toBitVec_shiftLeft, wb_tb, wb_tb, wb_tb, wb_sm k hk]
  apply BitVec.eq_of_toNat_eq
  rw [BitVec.shiftLeft_eq', BitVec.toNat_shiftLeft, BitVec.toNat_ofNat, BitVec.toNat_ofNat, BitVec.toNat_ofNat, Nat.mod_eq_of_lt (show k < 2 ^ 64 by omega), Nat.shiftLeft_eq, Nat.mul_mod, Nat.mod_mod, ← Nat.mul_mod]
theorem wb_and {a b : Nat} (ha : a < 2 ^ 64) (hb : b < 2 ^ 64) : lN a &&& lN b = lN (a &&& b) := by
  apply wb_inj
  rw [Int64.toBitVec_and, wb_tb, wb_tb, wb_tb]
  apply BitVec.eq_of_toNat_eq
  rw [BitVec.toNat_and, BitVec.toNat_ofNat, BitVec.toNat_ofNat, BitVec.toNat_ofNat, Nat.mod_eq_of_lt ha, Nat.mod_eq_of_lt hb, Nat.mod_eq_of_lt (Nat.and_lt_two_pow _ hb)]
theorem wb_or {a b : Nat} (ha : a < 2 ^ 64) (hb : b < 2 ^ 64) : lN a ||| lN b = lN (a ||| b) := by
  apply wb_inj
  rw [Int64.toBitVec_or, wb_tb, wb_tb, wb_tb]
  apply BitVec.eq_of_toNat_eq
  rw [BitVec.toNat_or, BitVec.toNat_ofNat, BitVec.toNat_ofNat, BitVec.toNat_ofNat, Nat.mod_eq_of_lt ha, Nat.mod_eq_of_lt hb, Nat.mod_eq_of_lt (Nat.or_lt_two_pow ha hb)]
theorem wb_mask {n k : Nat} (hn : n < 2 ^ 64) (hk : k < 64) : lN n &&& lN (2 ^ k - 1) = lN (n % 2 ^ k) := by
  rw [wb_and hn (by have := wb_lt2 hk; omega), Nat.and_two_pow_sub_one_eq_mod]
theorem wb_a1 {n : Nat} (hn : n < 2 ^ 64) : lN n &&& 1 = lN (n % 2) := wb_mask (k := 1) hn (by decide)
theorem wb_bit {n k : Nat} (hn : n < 2 ^ 64) (hk : k < 64) : ((lN n).toUInt64 >>> ((nI k).toInt64.toUInt64 &&& Int64.toUInt64 63)).toInt64 &&& 1 = lN (n / 2 ^ k % 2) := by
  rw [wb_shr hn hk, wb_a1 (Nat.lt_of_le_of_lt (Nat.div_le_self _ _) hn)]
end
section
/-! Pure rows: counting, ranks of suffixes, the step from a row to the row of the place before it. -/
/-- how many i < n have P -/
def si_cn : Nat → (Nat → Bool) → Nat
  | 0, _ => 0
  | n + 1, P => si_cn n P + (if P n = true then 1 else 0)
theorem si_cn_s (n : Nat) (P : Nat → Bool) : si_cn (n + 1) P = si_cn n P + (if P n = true then 1 else 0) := rfl
theorem si_cn_t {n : Nat} {P : Nat → Bool} (h : P n = true) : si_cn (n + 1) P = si_cn n P + 1 := by rw [si_cn_s, if_pos h]
theorem si_cn_f {n : Nat} {P : Nat → Bool} (h : P n = false) : si_cn (n + 1) P = si_cn n P := by
  rw [si_cn_s, if_neg (by rw [h]; decide), Nat.add_zero]
theorem si_cn_le (n : Nat) (P : Nat → Bool) : si_cn n P ≤ n := by
  induction n with
  | zero => exact Nat.le_refl 0
  | succ n ih => rw [si_cn_s]; split <;> omega
theorem si_cn_congr {n : Nat} {P Q : Nat → Bool} (h : ∀ i, i < n → P i = Q i) : si_cn n P = si_cn n Q := by
  induction n with
  | zero => rfl
  | succ n ih => rw [si_cn_s, si_cn_s, ih (fun i hi => h i (by omega)), h n (by omega)]
theorem si_cn_mono {n : Nat} {P Q : Nat → Bool} (h : ∀ i, i < n → P i = true → Q i = true) : si_cn n P ≤ si_cn n Q := by
  induction n with
  | zero => exact Nat.le_refl 0
  | succ n ih =>
    have h1 := ih (fun i hi => h i (by omega))
    have h2 := h n (by omega)
    rw [si_cn_s, si_cn_s]
    by_cases hp : P n = true
    · rw [if_pos hp, if_pos (h2 hp)]; omega
    · rw [if_neg hp]; split <;> omega
theorem si_cn_lt {n j : Nat} {P Q : Nat → Bool} (h : ∀ i, i < n → P i = true → Q i = true) (hj : j < n) (h1 : P j = false) (h2 : Q j = true) : si_cn n P < si_cn n Q := by
  induction n with
  | zero => omega
  | succ n ih =>
    by_cases e : j = n
    · subst e
      have := si_cn_mono (n := j) (P := P) (Q := Q) (fun i hi => h i (by omega))
      rw [si_cn_f h1, si_cn_t h2]; omega
    · have := ih (fun i hi => h i (by omega)) (by omega)
      have h3 := h n (by omega)
      rw [si_cn_s, si_cn_s]
      by_cases hp : P n = true
      · rw [if_pos hp, if_pos (h3 hp)]; omega
      · rw [if_neg hp]; split <;> omega
theorem si_cn_up {a b : Nat} (P : Nat → Bool) (h : a ≤ b) : si_cn a P ≤ si_cn b P := by
  induction b with
  | zero => have : a = 0 := by omega
            subst this; exact Nat.le_refl _
  | succ b ih =>
    by_cases e : a = b + 1
    · subst e; exact Nat.le_refl _
    · have := ih (by omega)
      rw [si_cn_s]; split <;> omega
theorem si_cn_ups {a b : Nat} {P : Nat → Bool} (h : a < b) (hP : P a = true) : si_cn a P < si_cn b P := by
  have := si_cn_up P (show a + 1 ≤ b from h)
  rw [si_cn_t hP] at this
  omega
theorem si_cn_all (n : Nat) : si_cn n (fun _ => true) = n := by
  induction n with
  | zero => rfl
  | succ n ih => rw [si_cn_t rfl, ih]
theorem si_cn_0 {n : Nat} {P : Nat → Bool} (h : ∀ i, i < n → P i = false) : si_cn n P = 0 := by
  induction n with
  | zero => rfl
  | succ n ih => rw [si_cn_f (h n (by omega)), ih (fun i hi => h i (by omega))]
theorem si_cn_1 {n : Nat} {P : Nat → Bool} (h : ∀ i j, i < n → j < n → P i = true → P j = true → i = j) : si_cn n P ≤ 1 := by
  induction n with
  | zero => exact Nat.zero_le _
  | succ n ih =>
    by_cases hp : P n = true
    · rw [si_cn_t hp, si_cn_0 (n := n)]
      · omega
      · intro i hi
        cases hq : P i with
        | false => rfl
        | true => have := h i n (by omega) (by omega) hq hp
                  omega
    · rw [si_cn_f (by simpa using hp)]
      exact ih (fun i j hi hj => h i j (by omega) (by omega))
theorem si_cn_not (n : Nat) (P : Nat → Bool) : si_cn n P + si_cn n (fun i => !P i) = n := by
  induction n with
  | zero => rfl
  | succ n ih =>
    cases hp : P n with
    | true => rw [si_cn_t hp, si_cn_f (P := fun i => !P i) (by simp [hp])]; omega
    | false => rw [si_cn_f hp, si_cn_t (P := fun i => !P i) (by simp [hp])]; omega
/-- a sum -/
def si_sm : Nat → (Nat → Nat) → Nat
  | 0, _ => 0
  | n + 1, f => si_sm n f + f n
theorem si_sm_s (n : Nat) (f : Nat → Nat) : si_sm (n + 1) f = si_sm n f + f n := rfl
theorem si_sm_congr {n : Nat} {f g : Nat → Nat} (h : ∀ i, i < n → f i = g i) : si_sm n f = si_sm n g := by
  induction n with
  | zero => rfl
  | succ n ih => rw [si_sm_s, si_sm_s, ih (fun i hi => h i (by omega)), h n (by omega)]
theorem si_sm_add (n : Nat) (f g : Nat → Nat) : si_sm n (fun i => f i + g i) = si_sm n f + si_sm n g := by
  induction n with
  | zero => rfl
  | succ n ih => rw [si_sm_s, si_sm_s, si_sm_s, ih]; omega
theorem si_sm_z (n : Nat) : si_sm n (fun _ => 0) = 0 := by
  induction n with
  | zero => rfl
  | succ n ih => rw [si_sm_s, ih]
theorem si_sm_swap (n k : Nat) (f : Nat → Nat → Nat) : si_sm n (fun i => si_sm k (fun j => f i j)) = si_sm k (fun j => si_sm n (fun i => f i j)) := by
  induction n with
  | zero => exact (si_sm_z k).symm
  | succ n ih =>
    rw [si_sm_s, ih, ← si_sm_add]
    rfl
theorem si_sm_1 {n a w : Nat} (h : a < n) : si_sm n (fun j => if a = j then w else 0) = w := by
  induction n with
  | zero => omega
  | succ n ih =>
    rw [si_sm_s]
    by_cases e : a = n
    · subst e
      rw [if_pos rfl, si_sm_congr (g := fun _ => 0) (fun i hi => if_neg (by omega)), si_sm_z]; omega
    · rw [if_neg e, ih (by omega), Nat.add_zero]
theorem si_sm_w (n w : Nat) (Q : Nat → Bool) : si_sm n (fun i => if Q i = true then w else 0) = w * si_cn n Q := by
  induction n with
  | zero => rfl
  | succ n ih =>
    rw [si_sm_s, si_cn_s, ih]
    split
    · rw [Nat.mul_add, Nat.mul_one]
    · rw [Nat.add_zero, Nat.add_zero]
theorem si_cn_sm (n : Nat) (P : Nat → Bool) : si_cn n P = si_sm n (fun i => if P i = true then 1 else 0) := by
  rw [si_sm_w, Nat.one_mul]
theorem si_sm_le {n : Nat} {f : Nat → Nat} (h : ∀ j, j < n → f j ≤ 1) : si_sm n f ≤ n := by
  induction n with
  | zero => exact Nat.le_refl 0
  | succ n ih =>
    have h1 := ih (fun i hi => h i (by omega))
    have h2 := h n (by omega)
    rw [si_sm_s]; omega
theorem si_sm_full {n : Nat} {f : Nat → Nat} (h : ∀ j, j < n → f j ≤ 1) (he : si_sm n f = n) : ∀ j, j < n → f j = 1 := by
  induction n with
  | zero => intro j hj; omega
  | succ n ih =>
    have h0 := si_sm_le (n := n) (fun i hi => h i (by omega))
    have h2 := h n (by omega)
    rw [si_sm_s] at he
    intro j hj
    by_cases e : j = n
    · subst e; omega
    · exact ih (fun i hi => h i (by omega)) (by omega) j (by omega)
/-- f sends the numbers below n to such, and no two to one -/
def si_bij (n : Nat) (f : Nat → Nat) : Prop := (∀ i, i < n → f i < n) ∧ ∀ i j, i < n → j < n → f i = f j → i = j
theorem si_hit {n : Nat} {f : Nat → Nat} (h : si_bij n f) : ∀ j, j < n → si_cn n (fun i => f i == j) = 1 := by
  refine si_sm_full (f := fun j => si_cn n (fun i => f i == j)) (fun j _ => si_cn_1 (fun a b ha hb h1 h2 => h.2 a b ha hb (by simp at h1 h2; omega))) ?_
  rw [si_sm_congr (g := fun j => si_sm n (fun i => if f i = j then 1 else 0)) (fun j _ => by
    rw [si_cn_sm]
    exact si_sm_congr (fun i _ => by by_cases e : f i = j <;> simp [e])), ← si_sm_swap]
  rw [si_sm_congr (g := fun _ => 1) (fun i hi => si_sm_1 (h.1 i hi))]
  have := si_cn_sm n (fun _ => true)
  rw [si_cn_all] at this
  simpa using this.symm
theorem si_onto {n : Nat} {f : Nat → Nat} (h : si_bij n f) {j : Nat} (hj : j < n) : ∃ i, i < n ∧ f i = j := by
  have h1 := si_hit h j hj
  apply Classical.byContradiction
  intro hn
  rw [si_cn_0 (fun i hi => by
    cases e : (f i == j) with
    | false => rfl
    | true => exact absurd ⟨i, hi, by simpa using e⟩ hn)] at h1
  omega
theorem si_cn_bij {n : Nat} {f : Nat → Nat} (h : si_bij n f) (P : Nat → Bool) : si_cn n (fun i => P (f i)) = si_cn n P := by
  rw [si_cn_sm]
  rw [si_sm_congr (g := fun i => si_sm n (fun j => if f i = j then (if P j = true then 1 else 0) else 0)) (fun i hi => by
    have h1 := si_sm_1 (n := n) (a := f i) (w := if P (f i) = true then 1 else 0) (h.1 i hi)
    rw [← h1]
    exact si_sm_congr (fun j _ => by by_cases e : f i = j <;> simp [e]))]
  rw [si_sm_swap, si_cn_sm n P]
  refine si_sm_congr (fun j hj => ?_)
  have h2 := si_sm_w n (if P j = true then 1 else 0) (fun i => f i == j)
  rw [si_hit h j hj, Nat.mul_one] at h2
  refine Eq.trans (si_sm_congr (fun i _ => ?_)) h2
  by_cases e : f i = j
  · exact (if_pos e).trans (if_pos (beq_iff_eq.mpr e)).symm
  · exact (if_neg e).trans (if_neg (fun q => e (beq_iff_eq.mp q))).symm
/-- the greatest i < n that has P (0 if none has) -/
def si_fd : Nat → (Nat → Bool) → Nat
  | 0, _ => 0
  | n + 1, P => if P n = true then n else si_fd n P
theorem si_fd_ok {n : Nat} {P : Nat → Bool} {i : Nat} (hi : i < n) (h : P i = true) : si_fd n P < n ∧ P (si_fd n P) = true := by
  induction n with
  | zero => omega
  | succ n ih =>
    show (if P n = true then n else si_fd n P) < n + 1 ∧ P (if P n = true then n else si_fd n P) = true
    by_cases hp : P n = true
    · rw [if_pos hp]; exact ⟨by omega, hp⟩
    · rw [if_neg hp]
      have hne : i ≠ n := fun e => hp (e ▸ h)
      have := ih (by omega)
      exact ⟨by omega, this.2⟩
/-- the inverse of f -/
def si_iv (n : Nat) (f : Nat → Nat) (j : Nat) : Nat := si_fd n (fun i => f i == j)
theorem si_iv_ok {n : Nat} {f : Nat → Nat} (h : si_bij n f) {j : Nat} (hj : j < n) : si_iv n f j < n ∧ f (si_iv n f j) = j := by
  obtain ⟨i, hi, e⟩ := si_onto h hj
  have := si_fd_ok (P := fun i => f i == j) hi (by simp [e])
  exact ⟨this.1, beq_iff_eq.mp this.2⟩
theorem si_iv_f {n : Nat} {f : Nat → Nat} (h : si_bij n f) {i : Nat} (hi : i < n) : si_iv n f (f i) = i := by
  have := si_iv_ok h (h.1 i hi)
  exact h.2 _ _ this.1 hi this.2
/-- the order of texts: the shorter is the smaller where the longer goes on -/
def si_sl : List Nat → List Nat → Bool
  | [], [] => false
  | [], _ :: _ => true
  | _ :: _, [] => false
  | a :: as, b :: bs => decide (a < b) || (a == b && si_sl as bs)
theorem si_sl_rf (a : List Nat) : si_sl a a = false := by
  induction a with
  | nil => rfl
  | cons x xs ih => simp [si_sl, ih]
theorem si_sl_nil (a : List Nat) : si_sl a [] = false := by cases a <;> rfl
theorem si_sl_tr {a b c : List Nat} (h1 : si_sl a b = true) (h2 : si_sl b c = true) : si_sl a c = true := by
  induction a generalizing b c with
  | nil =>
    cases b with
    | nil => simp [si_sl] at h1
    | cons y ys => cases c with
      | nil => simp [si_sl] at h2
      | cons z zs => rfl
  | cons x xs ih =>
    cases b with
    | nil => simp [si_sl] at h1
    | cons y ys => cases c with
      | nil => simp [si_sl] at h2
      | cons z zs =>
        simp only [si_sl, Bool.or_eq_true, Bool.and_eq_true, decide_eq_true_eq, beq_iff_eq] at h1 h2 ⊢
        rcases h1 with h1 | ⟨h1, h1'⟩
        · rcases h2 with h2 | ⟨h2, h2'⟩
          · left; omega
          · left; omega
        · rcases h2 with h2 | ⟨h2, h2'⟩
          · left; omega
          · right; exact ⟨by omega, ih h1' h2'⟩
theorem si_sl_tot {a b : List Nat} (h : a ≠ b) : si_sl a b = true ∨ si_sl b a = true := by
  induction a generalizing b with
  | nil => cases b with
    | nil => exact absurd rfl h
    | cons y ys => exact Or.inl rfl
  | cons x xs ih => cases b with
    | nil => exact Or.inr rfl
    | cons y ys =>
      simp only [si_sl, Bool.or_eq_true, Bool.and_eq_true, decide_eq_true_eq, beq_iff_eq]
      rcases Nat.lt_trichotomy x y with e | e | e
      · exact Or.inl (Or.inl e)
      · subst e
        have hne : xs ≠ ys := fun e => h (by rw [e])
        rcases ih hne with q | q
        · exact Or.inl (Or.inr ⟨rfl, q⟩)
        · exact Or.inr (Or.inr ⟨rfl, q⟩)
      · exact Or.inr (Or.inl e)
theorem si_sl_as {a b : List Nat} (h : si_sl a b = true) : si_sl b a = false := by
  cases e : si_sl b a with
  | false => rfl
  | true => have := si_sl_tr h e
            rw [si_sl_rf] at this; cases this
/-- the code at place p (0, the END, behind the last) -/
def si_g (t : List Nat) (p : Nat) : Nat := t.getD p 0
theorem si_g_in {t : List Nat} {p : Nat} (h : p < t.length) : si_g t p = t[p] := by simp [si_g, h]
theorem si_g_out {t : List Nat} {p : Nat} (h : t.length ≤ p) : si_g t p = 0 := by simp [si_g, h]
theorem si_drop {t : List Nat} {p : Nat} (h : p < t.length) : t.drop p = si_g t p :: t.drop (p + 1) := by
  rw [List.drop_eq_getElem_cons h, si_g_in h]
theorem si_dropn {t : List Nat} {p : Nat} (h : t.length ≤ p) : t.drop p = [] := List.drop_eq_nil_of_le h
/-- suffix q is smaller than suffix p -/
def si_sf (t : List Nat) (q p : Nat) : Bool := si_sl (t.drop q) (t.drop p)
theorem si_sf_s {t : List Nat} {q p : Nat} (hq : q < t.length) (hp : p < t.length) : si_sf t q p = (decide (si_g t q < si_g t p) || (si_g t q == si_g t p && si_sf t (q + 1) (p + 1))) := by
  unfold si_sf
  rw [si_drop hq, si_drop hp]
  rfl
theorem si_sf_e {t : List Nat} {p : Nat} (hp : p < t.length) : si_sf t t.length p = true := by
  unfold si_sf
  rw [si_dropn (Nat.le_refl _), si_drop hp]
  rfl
theorem si_sf_n {t : List Nat} {q : Nat} : si_sf t q t.length = false := by
  unfold si_sf
  rw [si_dropn (Nat.le_refl _)]
  exact si_sl_nil _
theorem si_sf_tot {t : List Nat} {q p : Nat} (hq : q ≤ t.length) (hp : p ≤ t.length) (h : q ≠ p) : si_sf t q p = true ∨ si_sf t p q = true :=
  si_sl_tot (fun e => h (by
    have := congrArg List.length e
    rw [List.length_drop, List.length_drop] at this
    omega))
/-- the row of place p -/
def si_rk (t : List Nat) (p : Nat) : Nat := si_cn (t.length + 1) (fun q => si_sf t q p)
theorem si_rk_lt {t : List Nat} {q p : Nat} (hq : q ≤ t.length) (h : si_sf t q p = true) : si_rk t q < si_rk t p :=
  si_cn_lt (j := q) (fun i _ hi => si_sl_tr hi h) (by omega) (si_sl_rf _) h
theorem si_rk_iff {t : List Nat} {q p : Nat} (hq : q ≤ t.length) (hp : p ≤ t.length) : si_rk t q < si_rk t p ↔ si_sf t q p = true := by
  constructor
  · intro h
    by_cases e : q = p
    · subst e; omega
    · rcases si_sf_tot hq hp e with h1 | h1
      · exact h1
      · have := si_rk_lt hp h1; omega
  · exact si_rk_lt hq
theorem si_rk_inj {t : List Nat} {q p : Nat} (hq : q ≤ t.length) (hp : p ≤ t.length) (h : si_rk t q = si_rk t p) : q = p := by
  apply Classical.byContradiction
  intro e
  rcases si_sf_tot hq hp e with h1 | h1
  · have := si_rk_lt hq h1; omega
  · have := si_rk_lt hp h1; omega
theorem si_rk_le {t : List Nat} {p : Nat} (hp : p ≤ t.length) : si_rk t p < t.length + 1 := by
  have h := si_cn_lt (n := t.length + 1) (j := p) (P := fun q => si_sf t q p) (Q := fun _ => true) (fun _ _ _ => rfl) (by omega) (si_sl_rf _) rfl
  rw [si_cn_all] at h
  exact h
theorem si_rk_n (t : List Nat) : si_rk t t.length = 0 := si_cn_0 (fun _ _ => si_sf_n)
theorem si_rk_bij (t : List Nat) : si_bij (t.length + 1) (si_rk t) :=
  ⟨fun _ hi => si_rk_le (by omega), fun _ _ hi hj h => si_rk_inj (by omega) (by omega) h⟩
/-- the place of row r -/
def si_pl (t : List Nat) (r : Nat) : Nat := si_iv (t.length + 1) (si_rk t) r
theorem si_pl_ok {t : List Nat} {r : Nat} (h : r ≤ t.length) : si_pl t r ≤ t.length ∧ si_rk t (si_pl t r) = r := by
  have := si_iv_ok (si_rk_bij t) (show r < t.length + 1 by omega)
  exact ⟨Nat.le_of_lt_succ this.1, this.2⟩
theorem si_pl_rk {t : List Nat} {p : Nat} (h : p ≤ t.length) : si_pl t (si_rk t p) = p := si_iv_f (si_rk_bij t) (by omega)
/-- the code that stands before place p (0: the END) -/
def si_bf (t : List Nat) (p : Nat) : Nat := if p = 0 then 0 else si_g t (p - 1)
/-- the BEFORE of row r -/
def si_B (t : List Nat) (r : Nat) : Nat := si_bf t (si_pl t r)
theorem si_B_rk {t : List Nat} {p : Nat} (h : p ≤ t.length) : si_B t (si_rk t p) = si_bf t p := by
  unfold si_B; rw [si_pl_rk h]
/-- the order of rows by their codes -/
def si_lo (c : Nat → Nat) (i r : Nat) : Bool := decide (c i < c r) || (c i == c r && decide (i < r))
def si_lf (c : Nat → Nat) (n : Nat) (r : Nat) : Nat := si_cn n (fun i => si_lo c i r)
theorem si_lo_rf (c : Nat → Nat) (i : Nat) : si_lo c i i = false := by simp [si_lo]
theorem si_lo_tr {c : Nat → Nat} {i j k : Nat} (h1 : si_lo c i j = true) (h2 : si_lo c j k = true) : si_lo c i k = true := by
  simp only [si_lo, Bool.or_eq_true, Bool.and_eq_true, decide_eq_true_eq, beq_iff_eq] at h1 h2 ⊢
  omega
theorem si_lo_tot {c : Nat → Nat} {i j : Nat} (h : i ≠ j) : si_lo c i j = true ∨ si_lo c j i = true := by
  simp only [si_lo, Bool.or_eq_true, Bool.and_eq_true, decide_eq_true_eq, beq_iff_eq]
  omega
theorem si_lf_lt {c : Nat → Nat} {n i j : Nat} (hi : i < n) (h : si_lo c i j = true) : si_lf c n i < si_lf c n j :=
  si_cn_lt (j := i) (fun _ _ hk => si_lo_tr hk h) hi (si_lo_rf c i) h
theorem si_lf_bij (c : Nat → Nat) (n : Nat) : si_bij n (si_lf c n) := by
  refine ⟨fun i hi => ?_, fun i j hi hj h => ?_⟩
  · have h := si_cn_lt (n := n) (j := i) (P := fun q => si_lo c q i) (Q := fun _ => true) (fun _ _ _ => rfl) hi (si_lo_rf c i) rfl
    rw [si_cn_all] at h
    exact h
  · apply Classical.byContradiction
    intro e
    rcases si_lo_tot (c := c) e with h1 | h1
    · have := si_lf_lt hi h1; omega
    · have := si_lf_lt hj h1; omega
/-- a text that may be written: at most 60 characters, each from 32 to 126 -/
def si_ok (t : List Nat) : Prop := t.length ≤ 60 ∧ ∀ c ∈ t, 32 ≤ c ∧ c ≤ 126
theorem si_ok_at {t : List Nat} (h : si_ok t) {p : Nat} (hp : p < t.length) : 32 ≤ si_g t p ∧ si_g t p ≤ 126 := by
  rw [si_g_in hp]
  exact h.2 _ (List.getElem_mem hp)
theorem si_bf_le {t : List Nat} (h : si_ok t) (p : Nat) : si_bf t p ≤ 126 := by
  unfold si_bf
  by_cases e : p = 0
  · rw [if_pos e]; omega
  · rw [if_neg e]
    by_cases hp : p - 1 < t.length
    · exact (si_ok_at h hp).2
    · rw [si_g_out (by omega)]; omega
theorem si_B_le {t : List Nat} (h : si_ok t) (r : Nat) : si_B t r ≤ 126 := si_bf_le h _
/-- the step of the rows: from the row of p to the row of the place before it -/
theorem si_lf_rk {t : List Nat} (h : si_ok t) {p : Nat} (h1 : 1 ≤ p) (h2 : p ≤ t.length) : si_lf (si_B t) (t.length + 1) (si_rk t p) = si_rk t (p - 1) := by
  unfold si_lf
  rw [← si_cn_bij (si_rk_bij t)]
  have hg : si_bij (t.length + 1) (fun q => if q = 0 then t.length else q - 1) := by
    refine ⟨fun i hi => ?_, fun i j hi hj e => ?_⟩
    · show (if i = 0 then t.length else i - 1) < t.length + 1
      split <;> omega
    · have e : (if i = 0 then t.length else i - 1) = (if j = 0 then t.length else j - 1) := e
      split at e <;> split at e <;> omega
  show _ = si_cn (t.length + 1) (fun q => si_sf t q (p - 1))
  rw [← si_cn_bij hg (fun q => si_sf t q (p - 1))]
  refine si_cn_congr (fun q hq => ?_)
  unfold si_lo
  rw [si_B_rk (show q ≤ t.length by omega), si_B_rk h2]
  have hp := si_ok_at h (show p - 1 < t.length by omega)
  have hbp : si_bf t p = si_g t (p - 1) := by unfold si_bf; rw [if_neg (by omega)]
  rw [hbp]
  by_cases e : q = 0
  · subst e
    rw [if_pos rfl, si_sf_e (by omega)]
    have : si_bf t 0 = 0 := rfl
    rw [this]
    have : (0 : Nat) < si_g t (p - 1) := by omega
    simp [this]
  · rw [if_neg e]
    have hbq : si_bf t q = si_g t (q - 1) := by unfold si_bf; rw [if_neg e]
    rw [hbq, si_sf_s (by omega) (by omega)]
    have e1 : q - 1 + 1 = q := by omega
    have e2 : p - 1 + 1 = p := by omega
    rw [e1, e2]
    have h3 := si_rk_iff (t := t) (q := q) (p := p) (by omega) h2
    have h4 : decide (si_rk t q < si_rk t p) = si_sf t q p := by
      cases hs : si_sf t q p with
      | true => simp [h3.mpr hs]
      | false => simp; have : ¬ si_rk t q < si_rk t p := fun q1 => by rw [h3.mp q1] at hs; cases hs
                 omega
    rw [h4]
theorem si_lf_0 {t : List Nat} (h : si_ok t) : si_lf (si_B t) (t.length + 1) (si_rk t 0) = 0 := by
  unfold si_lf
  rw [← si_cn_bij (si_rk_bij t)]
  refine si_cn_0 (fun q hq => ?_)
  unfold si_lo
  rw [si_B_rk (show q ≤ t.length by omega), si_B_rk (Nat.zero_le _)]
  have : si_bf t 0 = 0 := rfl
  rw [this]
  by_cases e : q = 0
  · subst e; simp
  · have hbq : si_bf t q = si_g t (q - 1) := by unfold si_bf; rw [if_neg e]
    have := si_ok_at h (show q - 1 < t.length by omega)
    rw [hbq]
    have h0 : ¬ si_g t (q - 1) = 0 := by omega
    simp [h0]
end
section
/-! Pure rows: the levels of an image, reading them again, the image. -/
theorem si_bij_comp {n : Nat} {f g : Nat → Nat} (hf : si_bij n f) (hg : si_bij n g) : si_bij n (fun i => g (f i)) :=
  ⟨fun i hi => hg.1 _ (hf.1 i hi), fun i j hi hj h => hf.2 i j hi hj (hg.2 _ _ (hf.1 i hi) (hf.1 j hj) h)⟩
/-- where place i goes: the zeros first, then the ones, each in their order -/
def si_ps (n : Nat) (b : Nat → Bool) (i : Nat) : Nat := if b i = true then si_cn n (fun k => !b k) + si_cn i b else si_cn i (fun k => !b k)
theorem si_ps_t {n : Nat} {b : Nat → Bool} {i : Nat} (h : b i = true) : si_ps n b i = si_cn n (fun k => !b k) + si_cn i b := if_pos h
theorem si_ps_f {n : Nat} {b : Nat → Bool} {i : Nat} (h : b i = false) : si_ps n b i = si_cn i (fun k => !b k) := if_neg (by rw [h]; decide)
theorem si_ps_bij (n : Nat) (b : Nat → Bool) : si_bij n (si_ps n b) := by
  have hn := si_cn_not n b
  have key : ∀ i j, i < n → j < n → i < j → si_ps n b i ≠ si_ps n b j := by
    intro i j hi hj hij
    cases ei : b i <;> cases ej : b j
    · have := si_cn_ups (P := fun k => !b k) hij (by simp [ei])
      rw [si_ps_f ei, si_ps_f ej]; omega
    · have := si_cn_ups (P := fun k => !b k) hi (by simp [ei])
      rw [si_ps_f ei, si_ps_t ej]; omega
    · have := si_cn_ups (P := fun k => !b k) hj (by simp [ej])
      rw [si_ps_t ei, si_ps_f ej]; omega
    · have := si_cn_ups hij ei
      rw [si_ps_t ei, si_ps_t ej]; omega
  refine ⟨fun i hi => ?_, fun i j hi hj h => ?_⟩
  · cases ei : b i
    · have := si_cn_ups (P := fun k => !b k) hi (by simp [ei])
      rw [si_ps_f ei]; omega
    · have := si_cn_ups hi ei
      rw [si_ps_t ei]; omega
  · rcases Nat.lt_trichotomy i j with e | e | e
    · exact absurd h (key i j hi hj e)
    · exact e
    · exact absurd h.symm (key j i hj hi e)
theorem si_ps_congr {n : Nat} {b b' : Nat → Bool} (h : ∀ i, i < n → b i = b' i) {i : Nat} (hi : i < n) : si_ps n b i = si_ps n b' i := by
  unfold si_ps
  rw [h i hi, si_cn_congr (n := n) (P := fun k => !b k) (Q := fun k => !b' k) (fun k hk => by rw [h k hk]), si_cn_congr (n := i) (P := fun k => !b k) (Q := fun k => !b' k) (fun k hk => by rw [h k (by omega)]), si_cn_congr (n := i) (P := b) (Q := b') (fun k hk => h k (by omega))]
/-- bit j of a code of seven bits, the highest first -/
def si_bt (j c : Nat) : Bool := c / 2 ^ (6 - j) % 2 == 1
/-- the place of row x at level j -/
def si_lp (c : Nat → Nat) (n : Nat) : Nat → Nat → Nat
  | 0 => fun x => x
  | j + 1 => fun x => si_ps n (fun i => si_bt j (c (si_iv n (si_lp c n j) i))) (si_lp c n j x)
/-- the bit at place i of level j -/
def si_lb (c : Nat → Nat) (n j i : Nat) : Bool := si_bt j (c (si_iv n (si_lp c n j) i))
theorem si_lp_s (c : Nat → Nat) (n j x : Nat) : si_lp c n (j + 1) x = si_ps n (si_lb c n j) (si_lp c n j x) := rfl
theorem si_lp_bij (c : Nat → Nat) (n j : Nat) : si_bij n (si_lp c n j) := by
  induction j with
  | zero => exact ⟨fun _ h => h, fun _ _ _ _ h => h⟩
  | succ j ih => exact si_bij_comp (f := si_lp c n j) (g := si_ps n (si_lb c n j)) ih (si_ps_bij n (si_lb c n j))
theorem si_lb_at {c : Nat → Nat} {n j x : Nat} (hx : x < n) : si_lb c n j (si_lp c n j x) = si_bt j (c x) := by
  unfold si_lb
  rw [si_iv_f (si_lp_bij c n j) hx]
/-- the word with the bits b below n -/
def si_wd : Nat → (Nat → Bool) → Int64
  | 0, _ => 0
  | n + 1, b => if b n = true then si_wd n b ||| ((1 : Int64) <<< ((nI n).toInt64 &&& 63)) else si_wd n b
theorem si_wd_t {n : Nat} {b : Nat → Bool} (h : b n = true) : si_wd (n + 1) b = si_wd n b ||| ((1 : Int64) <<< ((nI n).toInt64 &&& 63)) := if_pos h
theorem si_wd_f {n : Nat} {b : Nat → Bool} (h : b n = false) : si_wd (n + 1) b = si_wd n b := if_neg (by rw [h]; decide)
theorem si_wd_congr {n : Nat} {b b' : Nat → Bool} (h : ∀ i, i < n → b i = b' i) : si_wd n b = si_wd n b' := by
  induction n with
  | zero => rfl
  | succ n ih =>
    have ih := ih (fun i hi => h i (by omega))
    have hn := h n (by omega)
    cases e : b n with
    | true => rw [si_wd_t e, si_wd_t (hn ▸ e), ih]
    | false => rw [si_wd_f e, si_wd_f (hn ▸ e), ih]
/-- bit i of a word -/
def si_bi (w : Int64) (i : Nat) : Bool := w.toBitVec.getLsbD i
theorem si_sh1 : ∀ k, k < 64 → ((1 : Int64) <<< ((nI k).toInt64 &&& 63)).toBitVec = BitVec.twoPow 64 k := by decide +kernel
theorem si_or1 (w : Int64) {k : Nat} (hk : k < 64) (i : Nat) : si_bi (w ||| ((1 : Int64) <<< ((nI k).toInt64 &&& 63))) i = (si_bi w i || decide (k = i)) := by
  unfold si_bi
  rw [Int64.toBitVec_or, BitVec.getLsbD_or, si_sh1 k hk, BitVec.getLsbD_twoPow]
  simp [hk]
theorem si_bi_0 (i : Nat) : si_bi 0 i = false := by
  unfold si_bi
  show (0#64).getLsbD i = false
  simp
theorem si_wd_bi {n : Nat} (hn : n ≤ 64) (b : Nat → Bool) (i : Nat) : si_bi (si_wd n b) i = (decide (i < n) && b i) := by
  induction n with
  | zero => exact (si_bi_0 i).trans (by simp)
  | succ n ih =>
    have ih := ih (by omega)
    cases e : b n with
    | true =>
      rw [si_wd_t e, si_or1 _ (by omega), ih]
      by_cases q : n = i
      · subst q; simp [e]
      · have : decide (i < n + 1) = decide (i < n) := decide_eq_decide.mpr (by omega)
        rw [this]; simp [q]
    | false =>
      rw [si_wd_f e, ih]
      by_cases q : n = i
      · subst q; simp [e]
      · have : decide (i < n + 1) = decide (i < n) := decide_eq_decide.mpr (by omega)
        rw [this]
theorem si_bi_ext {w v : Int64} (h : ∀ i, i < 64 → si_bi w i = si_bi v i) : w = v :=
  wb_inj (BitVec.eq_of_getLsbD_eq (fun i hi => h i hi))
theorem si_and1 (x : BitVec 64) : (x &&& 1#64) = if x.getLsbD 0 = true then 1#64 else 0#64 := by
  apply BitVec.eq_of_getLsbD_eq
  intro i hi
  rw [BitVec.getLsbD_and]
  cases i with
  | zero =>
    cases h : x.getLsbD 0
    · rw [if_neg (by decide), Bool.false_and]; decide
    · rw [if_pos rfl, Bool.true_and]
  | succ i =>
    have h1 : (1#64).getLsbD (i + 1) = false := by simp
    rw [h1, Bool.and_false]
    cases h : x.getLsbD 0
    · rw [if_neg (by decide)]; simp
    · rw [if_pos rfl, h1]
theorem si_ite1 (b : Bool) : (if b = true then (1 : Int64) else 0).toBitVec = if b = true then 1#64 else 0#64 := by cases b <;> rfl
/-- the bit as the class reads it -/
theorem si_ush (w : Int64) {i : Nat} (hi : i < 64) : ((w.toUInt64 >>> ((nI i).toInt64.toUInt64 &&& Int64.toUInt64 63)).toInt64 &&& 1) = if si_bi w i = true then 1 else 0 := by
  rw [wb_cu i hi]
  apply wb_inj
  have e : (w.toUInt64 >>> UInt64.ofNat i).toInt64.toBitVec = w.toBitVec >>> i := by
    apply BitVec.eq_of_toNat_eq
    show (w.toUInt64 >>> UInt64.ofNat i).toNat = _
    have h1 : (UInt64.ofNat i).toNat = i := by
      show (BitVec.ofNat 64 i).toNat = i
      rw [BitVec.toNat_ofNat, Nat.mod_eq_of_lt (by omega)]
    rw [UInt64.toNat_shiftRight, h1, Nat.mod_eq_of_lt hi, BitVec.toNat_ushiftRight]
    rfl
  rw [Int64.toBitVec_and, e, si_ite1]
  show (w.toBitVec >>> i) &&& 1#64 = _
  rw [si_and1, BitVec.getLsbD_ushiftRight, Nat.add_zero]
  rfl
/-- the bit as the reference reads it -/
theorem si_ssh (w : Int64) {i : Nat} (hi : i < 64) : ((w >>> ((nI i).toInt64 &&& 63)) &&& 1) = if si_bi w i = true then 1 else 0 := by
  rw [wb_c i hi]
  apply wb_inj
  rw [Int64.toBitVec_and, Int64.toBitVec_shiftRight, wb_tb, wb_sm i hi, si_ite1]
  show (w.toBitVec.sshiftRight' (BitVec.ofNat 64 i)) &&& 1#64 = _
  have h1 : (BitVec.ofNat 64 i).toNat = i := by rw [BitVec.toNat_ofNat, Nat.mod_eq_of_lt (by omega)]
  rw [si_and1, BitVec.sshiftRight', h1, BitVec.getLsbD_sshiftRight]
  simp [hi, si_bi]
/-- places and codes, read from the words' bits, level by level -/
def si_rp (b : Nat → Nat → Bool) (n : Nat) : Nat → Nat → Nat
  | 0 => fun x => x
  | j + 1 => fun x => si_ps n (b j) (si_rp b n j x)
def si_rc (b : Nat → Nat → Bool) (n : Nat) : Nat → Nat → Nat
  | 0 => fun _ => 0
  | j + 1 => fun x => 2 * si_rc b n j x + (if b j (si_rp b n j x) = true then 1 else 0)
theorem si_rp_s (b : Nat → Nat → Bool) (n j x : Nat) : si_rp b n (j + 1) x = si_ps n (b j) (si_rp b n j x) := rfl
theorem si_rc_s (b : Nat → Nat → Bool) (n j x : Nat) : si_rc b n (j + 1) x = 2 * si_rc b n j x + (if b j (si_rp b n j x) = true then 1 else 0) := rfl
theorem si_rp_bij (b : Nat → Nat → Bool) (n j : Nat) : si_bij n (si_rp b n j) := by
  induction j with
  | zero => exact ⟨fun _ h => h, fun _ _ _ _ h => h⟩
  | succ j ih => exact si_bij_comp (f := si_rp b n j) (g := si_ps n (b j)) ih (si_ps_bij n (b j))
theorem si_rc_lt (b : Nat → Nat → Bool) (n j x : Nat) : si_rc b n j x < 2 ^ j := by
  induction j with
  | zero => exact Nat.zero_lt_one
  | succ j ih => rw [si_rc_s, Nat.pow_succ]; split <;> omega
theorem si_rp_lp {b : Nat → Nat → Bool} {c : Nat → Nat} {n : Nat} {J : Nat} (h : ∀ j, j < J → ∀ i, i < n → b j i = si_lb c n j i) : ∀ j, j ≤ J → ∀ x, x < n → si_rp b n j x = si_lp c n j x := by
  intro j
  induction j with
  | zero => intro _ x _; rfl
  | succ j ih =>
    intro hj x hx
    rw [si_rp_s, si_lp_s, ih (by omega) x hx]
    exact si_ps_congr (h j (by omega)) ((si_lp_bij c n j).1 x hx)
theorem si_rc_c {b : Nat → Nat → Bool} {c : Nat → Nat} {n : Nat} (h : ∀ j, j < 7 → ∀ i, i < n → b j i = si_lb c n j i) {x : Nat} (hx : x < n) (hc : c x < 128) : ∀ j, j ≤ 7 → si_rc b n j x = c x / 2 ^ (7 - j) := by
  intro j
  induction j with
  | zero => intro _; rw [Nat.div_eq_of_lt (by omega)]; rfl
  | succ j ih =>
    intro hj
    rw [si_rc_s, ih (by omega), si_rp_lp h j (by omega) x hx, h j (by omega) _ ((si_lp_bij c n j).1 x hx), si_lb_at hx]
    unfold si_bt
    have e : 7 - j = (6 - j) + 1 := by omega
    have e2 : 7 - (j + 1) = 6 - j := by omega
    rw [e, e2, Nat.pow_succ, ← Nat.div_div_eq_div_mul]
    generalize c x / 2 ^ (6 - j) = a
    by_cases q : a % 2 = 1
    · rw [if_pos (by simp [q])]; omega
    · rw [if_neg (by simp; omega)]; omega
/-- a number drawn into the words from fw on -/
def si_dn (im : Nat → Int64) (fw i v : Nat) : Nat → Int64 := vp_updL im (fw + i / 10) (im (fw + i / 10) ||| (lN v <<< ((nI (6 * (i % 10))).toInt64 &&& 63)))
/-- the marks, the places of the marked rows: over the first r rows -/
def si_mr (t : List Nat) (s : Nat) : Nat → (Nat → Int64) × Nat
  | 0 => (fun _ => 0, 0)
  | r + 1 => if si_pl t r % s = 0 then (si_dn (vp_updL (si_mr t s r).1 8 ((si_mr t s r).1 8 ||| ((1 : Int64) <<< ((nI r).toInt64 &&& 63)))) 9 (si_mr t s r).2 (si_pl t r / s), (si_mr t s r).2 + 1) else si_mr t s r
theorem si_mr_t {t : List Nat} {s r : Nat} (h : si_pl t r % s = 0) : si_mr t s (r + 1) = (si_dn (vp_updL (si_mr t s r).1 8 ((si_mr t s r).1 8 ||| ((1 : Int64) <<< ((nI r).toInt64 &&& 63)))) 9 (si_mr t s r).2 (si_pl t r / s), (si_mr t s r).2 + 1) := if_pos h
theorem si_mr_f {t : List Nat} {s r : Nat} (h : ¬ si_pl t r % s = 0) : si_mr t s (r + 1) = si_mr t s r := if_neg h
theorem si_mr_le (t : List Nat) (s r : Nat) : (si_mr t s r).2 ≤ r := by
  induction r with
  | zero => exact Nat.le_refl 0
  | succ r ih =>
    by_cases h : si_pl t r % s = 0
    · rw [si_mr_t h]; show (si_mr t s r).2 + 1 ≤ r + 1; omega
    · rw [si_mr_f h]; omega
/-- the rows of the places: over the first q of them -/
def si_rw (t : List Nat) (s : Nat) : Nat → (Nat → Int64)
  | 0 => (si_mr t s (t.length + 1)).1
  | q + 1 => si_dn (si_rw t s q) 16 q (si_rk t (q * s))
/-- the image of the text t at the rate s -/
def si_im (t : List Nat) (s : Nat) : Nat → Int64 := fun k => if k = 0 then lN (t.length + 256 * s) else if k < 8 then si_wd (t.length + 1) (si_lb (si_B t) (t.length + 1) (k - 1)) else si_rw t s (t.length / s + 1) k
def si_is (d : Nat → Int64) (t : List Nat) (s : Nat) : Prop := si_ok t ∧ 1 ≤ s ∧ s ≤ 16 ∧ ∀ k, k < 23 → d k = si_im t s k
/-- the bits of the levels in the words d -/
def si_db (d : Nat → Int64) (j i : Nat) : Bool := si_bi (d (1 + j)) i
theorem si_is_bits {d : Nat → Int64} {t : List Nat} {s : Nat} (h : si_is d t s) : ∀ j, j < 7 → ∀ i, i < t.length + 1 → si_db d j i = si_lb (si_B t) (t.length + 1) j i := by
  intro j hj i hi
  unfold si_db
  rw [h.2.2.2 (1 + j) (by omega)]
  unfold si_im
  rw [if_neg (by omega), if_pos (by omega), si_wd_bi (by have := h.1.1; omega), Nat.add_sub_cancel_left]
  simp [hi]
/-- the codes read from an image are the BEFOREs -/
theorem si_is_codes {d : Nat → Int64} {t : List Nat} {s : Nat} (h : si_is d t s) {x : Nat} (hx : x < t.length + 1) : si_rc (si_db d) (t.length + 1) 7 x = si_B t x := by
  have h1 := si_rc_c (si_is_bits h) hx (show si_B t x < 128 by have := si_B_le h.1 x; omega) 7 (Nat.le_refl 7)
  rw [h1]
  simp
theorem si_is_head {d : Nat → Int64} {t : List Nat} {s : Nat} (h : si_is d t s) : d 0 = lN (t.length + 256 * s) := by
  rw [h.2.2.2 0 (by omega)]; rfl
/-- one image, one text and rate: the text is told by its codes -/
theorem si_spell {t u : List Nat} (ht : si_ok t) (hu : si_ok u) (hn : t.length = u.length) (h : ∀ x, x < t.length + 1 → si_B t x = si_B u x) : t = u := by
  have hlf : ∀ r, r < t.length + 1 → si_lf (si_B t) (t.length + 1) r = si_lf (si_B u) (u.length + 1) r := fun r hr => by
    rw [← hn]
    exact si_cn_congr (fun i hi => by unfold si_lo; rw [h i hi, h r hr])
  have hrk : ∀ k, k ≤ t.length → si_rk t (t.length - k) = si_rk u (u.length - k) := by
    intro k
    induction k with
    | zero => intro _; rw [Nat.sub_zero, Nat.sub_zero, si_rk_n, si_rk_n]
    | succ k ih =>
      intro hk
      have e := ih (by omega)
      have h1 := si_lf_rk ht (p := t.length - k) (by omega) (by omega)
      have h2 := si_lf_rk hu (p := u.length - k) (by omega) (by omega)
      rw [hlf _ (si_rk_le (by omega)), e, h2] at h1
      rw [show t.length - (k + 1) = t.length - k - 1 by omega, show u.length - (k + 1) = u.length - k - 1 by omega]
      exact h1.symm
  apply List.ext_getElem hn
  intro p h1 h2
  have e1 := si_B_rk (t := t) (p := p + 1) (by omega)
  have e2 := si_B_rk (t := u) (p := p + 1) (by omega)
  have e3 := hrk (t.length - (p + 1)) (by omega)
  rw [show t.length - (t.length - (p + 1)) = p + 1 by omega, show u.length - (t.length - (p + 1)) = p + 1 by omega] at e3
  rw [h _ (si_rk_le (by omega)), e3, e2] at e1
  unfold si_bf at e1
  rw [if_neg (by omega), if_neg (by omega), Nat.add_sub_cancel] at e1
  rw [si_g_in h2, si_g_in h1] at e1
  exact e1.symm
end
section
/-! Pure rows: rows among the later suffixes; what the questions answer; the number of bits of a word. -/
theorem si_cn_from {n lo : Nat} (F : Nat → Bool) (h : lo < n) : si_cn n (fun i => decide (lo ≤ i) && F i) = si_cn n (fun i => decide (lo + 1 ≤ i) && F i) + (if F lo = true then 1 else 0) := by
  induction n with
  | zero => omega
  | succ n ih =>
    rw [si_cn_s, si_cn_s]
    by_cases e : lo = n
    · subst e
      have h1 : si_cn lo (fun i => decide (lo ≤ i) && F i) = 0 := si_cn_0 (fun i hi => by simp; omega)
      have h2 : si_cn lo (fun i => decide (lo + 1 ≤ i) && F i) = 0 := si_cn_0 (fun i hi => by simp; omega)
      rw [h1, h2]
      have h3 : decide (lo ≤ lo) = true := by simp
      have h4 : decide (lo + 1 ≤ lo) = false := by simp
      rw [h3, h4, Bool.true_and, Bool.false_and, if_neg (by decide : ¬ false = true)]
    · rw [ih (by omega)]
      have h1 : decide (lo ≤ n) = true := by simp; omega
      have h2 : decide (lo + 1 ≤ n) = true := by simp; omega
      rw [h1, h2]
      omega
/-- the row of p among the suffixes from lo on -/
def si_rr (t : List Nat) (lo p : Nat) : Nat := si_cn (t.length + 1) (fun q => decide (lo ≤ q) && si_sf t q p)
theorem si_rr_0 (t : List Nat) (p : Nat) : si_rr t 0 p = si_rk t p := si_cn_congr (fun q _ => by simp)
theorem si_rr_lt {t : List Nat} {lo q p : Nat} (h1 : lo ≤ q) (hq : q ≤ t.length) (h : si_sf t q p = true) : si_rr t lo q < si_rr t lo p := by
  refine si_cn_lt (j := q) (fun i _ hi => ?_) (by omega) ?_ ?_
  · rw [Bool.and_eq_true] at hi ⊢
    exact ⟨hi.1, si_sl_tr hi.2 h⟩
  · have : si_sf t q q = false := si_sl_rf _
    rw [this, Bool.and_false]
  · rw [h]; simp [h1]
theorem si_rr_iff {t : List Nat} {lo q p : Nat} (h1 : lo ≤ q) (h2 : lo ≤ p) (hq : q ≤ t.length) (hp : p ≤ t.length) : si_rr t lo q < si_rr t lo p ↔ si_sf t q p = true := by
  constructor
  · intro h
    by_cases e : q = p
    · subst e; omega
    · rcases si_sf_tot hq hp e with h3 | h3
      · exact h3
      · have := si_rr_lt h2 hp h3; omega
  · exact si_rr_lt h1 hq
theorem si_rr_le (t : List Nat) (lo p : Nat) (hp : p ≤ t.length) : si_rr t lo p ≤ t.length := by
  have h : si_rr t lo p ≤ si_rk t p := si_cn_mono (fun i _ hi => by rw [Bool.and_eq_true] at hi; exact hi.2)
  have := si_rk_le hp
  omega
theorem si_rr_self {t : List Nat} {p : Nat} (hp : p ≤ t.length) : si_rr t p p = si_rr t (p + 1) p := by
  unfold si_rr
  rw [si_cn_from (fun q => si_sf t q p) (by omega)]
  have : si_sf t p p = false := si_sl_rf _
  simp [this]
theorem si_rr_in {t : List Nat} {p q : Nat} (hp : p < q) (hq : q ≤ t.length) : si_rr t p q = si_rr t (p + 1) q + (if si_rr t (p + 1) p ≤ si_rr t (p + 1) q then 1 else 0) := by
  have h0 : si_rr t p q = si_rr t (p + 1) q + (if si_sf t p q = true then 1 else 0) := si_cn_from (fun i => si_sf t i q) (by omega)
  rw [h0]
  by_cases e : si_sf t p q = true
  · have : si_rr t (p + 1) p ≤ si_rr t (p + 1) q := si_cn_mono (fun i _ hi => by
      rw [Bool.and_eq_true] at hi ⊢
      exact ⟨hi.1, si_sl_tr hi.2 e⟩)
    rw [if_pos e, if_pos this]
  · have h1 : si_sf t q p = true := by
      rcases si_sf_tot (t := t) (q := q) (p := p) hq (by omega) (by omega) with h | h
      · exact h
      · exact absurd h e
    have h2 : si_rr t (p + 1) q < si_rr t (p + 1) p := si_rr_lt (by omega) hq h1
    rw [if_neg e, if_neg (by omega)]
/-- one and only one place for every row -/
theorem si_pl_of {t : List Nat} {f : Nat → Int32} (h : ∀ p, p < t.length + 1 → f (si_rk t p) = nI p) : ∀ r, r < t.length + 1 → f r = nI (si_pl t r) := by
  intro r hr
  have h1 := si_pl_ok (t := t) (r := r) (by omega)
  have h2 := h (si_pl t r) (by omega)
  rw [h1.2] at h2
  exact h2
/-- the pattern stands in the text at p -/
def si_oc (t a : List Nat) (p : Nat) : Bool := decide (p + a.length ≤ t.length) && (List.range a.length).all (fun i => si_g t (p + i) == si_g a i)
theorem si_oc_iff {t a : List Nat} {p : Nat} : si_oc t a p = true ↔ p + a.length ≤ t.length ∧ ∀ i, i < a.length → si_g t (p + i) = si_g a i := by
  unfold si_oc
  simp [List.all_eq_true]
/-- a code of the pattern is no END: so it is enough to look at the codes -/
theorem si_oc_iff2 {t a : List Nat} {p : Nat} (ha : ∀ c ∈ a, 32 ≤ c ∧ c ≤ 126) (hp : p ≤ t.length) : si_oc t a p = true ↔ ∀ i, i < a.length → si_g t (p + i) = si_g a i := by
  rw [si_oc_iff]
  constructor
  · exact fun h => h.2
  · intro h
    refine ⟨?_, h⟩
    cases hl : a.length with
    | zero => omega
    | succ k =>
      have h1 := h k (by omega)
      have h2 : si_g a k = a[k] := si_g_in (by omega)
      have h3 := ha _ (List.getElem_mem (show k < a.length by omega))
      rw [h2] at h1
      apply Classical.byContradiction
      intro hn
      rw [si_g_out (by omega)] at h1
      omega
/-- the answer of firstRow where a text is loaded -/
def si_fr (t a : List Nat) (v : Int32) : Prop := (v = -1 ∧ ∀ p, p ≤ t.length → si_oc t a p = false) ∨ ∃ r, r ≤ t.length ∧ v = nI r ∧ si_oc t a (si_pl t r) = true ∧ ∀ q, q < r → si_oc t a (si_pl t q) = false
/-- the answer of locate where a text is loaded, and k is no negative number -/
def si_lc (t a : List Nat) (k : Nat) (v : Int32) : Prop := (v = -1 ∧ si_cn (t.length + 1) (si_oc t a) ≤ k) ∨ ∃ p, p ≤ t.length ∧ v = nI p ∧ si_oc t a p = true ∧ si_cn p (si_oc t a) = k
theorem si_fr_one {t a : List Nat} {v w : Int32} (h1 : si_fr t a v) (h2 : si_fr t a w) : v = w := by
  have key : ∀ {r}, r ≤ t.length → si_oc t a (si_pl t r) = true → ¬ ∀ p, p ≤ t.length → si_oc t a p = false := by
    intro r hr h hn
    rw [hn _ (si_pl_ok hr).1] at h
    cases h
  rcases h1 with ⟨e1, n1⟩ | ⟨r1, l1, e1, o1, m1⟩ <;> rcases h2 with ⟨e2, n2⟩ | ⟨r2, l2, e2, o2, m2⟩
  · rw [e1, e2]
  · exact absurd n1 (key l2 o2)
  · exact absurd n2 (key l1 o1)
  · rcases Nat.lt_trichotomy r1 r2 with q | q | q
    · rw [m2 r1 q] at o1; cases o1
    · rw [e1, e2, q]
    · rw [m1 r2 q] at o2; cases o2
theorem si_lc_one {t a : List Nat} {k : Nat} {v w : Int32} (h1 : si_lc t a k v) (h2 : si_lc t a k w) : v = w := by
  have key : ∀ {p}, p ≤ t.length → si_oc t a p = true → si_cn p (si_oc t a) = k → ¬ si_cn (t.length + 1) (si_oc t a) ≤ k := by
    intro p hp ho hc hn
    have := si_cn_ups (b := t.length + 1) (show p < t.length + 1 by omega) ho
    omega
  rcases h1 with ⟨e1, n1⟩ | ⟨p1, l1, e1, o1, m1⟩ <;> rcases h2 with ⟨e2, n2⟩ | ⟨p2, l2, e2, o2, m2⟩
  · rw [e1, e2]
  · exact absurd n1 (key l2 o2 m2)
  · exact absurd n2 (key l1 o1 m1)
  · rcases Nat.lt_trichotomy p1 p2 with q | q | q
    · have := si_cn_ups q o1; omega
    · rw [e1, e2, q]
    · have := si_cn_ups q o2; omega
/-- the character c stands before a place where the pattern stands -/
def si_fo (t a : List Nat) (c : Nat) : Bool := (List.range t.length).any (fun p => si_g t p == c && si_oc t a (p + 1))
def si_va (t a : List Nat) : Nat := si_cn 127 (fun c => decide (32 ≤ c) && si_fo t a c)
-- bits of a word, byte by byte
def si_tb (x i : Nat) : Bool := x.testBit i
theorem si_cn_app (k n : Nat) (P : Nat → Bool) : si_cn (k + n) P = si_cn k P + si_cn n (fun i => P (k + i)) := by
  induction n with
  | zero => rfl
  | succ n ih => rw [show k + (n + 1) = (k + n) + 1 by omega, si_cn_s, si_cn_s, ih]; omega
theorem si_ldB {u v w z : Nat} (hv : v < 256) (hz : z < 256) : (256 * u + v) &&& (256 * w + z) = 256 * (u &&& w) + (v &&& z) := by
  have e : (256 : Nat) = 2 ^ 8 := by decide
  have hvz : v &&& z < 2 ^ 8 := Nat.and_lt_two_pow _ (by omega)
  apply Nat.eq_of_testBit_eq
  intro i
  rw [Nat.testBit_and, e, Nat.testBit_two_pow_mul_add _ (by omega), Nat.testBit_two_pow_mul_add _ (by omega), Nat.testBit_two_pow_mul_add _ hvz]
  by_cases h : i < 8
  · rw [if_pos h, if_pos h, if_pos h, Nat.testBit_and]
  · rw [if_neg h, if_neg h, if_neg h, Nat.testBit_and]
def si_m (b : Nat) : Nat → Nat
  | 0 => 0
  | k + 1 => 256 * si_m b k + b
/-- the steps of the count of bits, on k bytes -/
def si_s1 (k x : Nat) : Nat := x - (x / 2 &&& si_m 85 k)
def si_s2 (k x : Nat) : Nat := (si_s1 k x &&& si_m 51 k) + (si_s1 k x / 4 &&& si_m 51 k)
def si_s3 (k x : Nat) : Nat := (si_s2 k x + si_s2 k x / 16) &&& si_m 15 k
def si_p1 (b : Nat) : Nat := b - (b / 2 &&& 85)
def si_p2 (b : Nat) : Nat := (si_p1 b &&& 51) + (si_p1 b / 4 &&& 51)
def si_p3 (b : Nat) : Nat := (si_p2 b + si_p2 b / 16) % 16
theorem si_d1 : ∀ b, b < 256 → (b / 2 &&& 85) ≤ b ∧ ((128 + b / 2) &&& 85) = (b / 2 &&& 85) ∧ si_p1 b < 256 := by decide +kernel
theorem si_d2 : ∀ q, q < 256 → (q / 4 &&& 51) < 52 ∧ (q &&& 51) < 52 ∧ ((64 + q / 4) &&& 51) = (q / 4 &&& 51) ∧ ((128 + q / 4) &&& 51) = (q / 4 &&& 51) ∧ ((192 + q / 4) &&& 51) = (q / 4 &&& 51) := by decide +kernel
theorem si_d3 : ∀ q, q < 256 → (q &&& 15) = q % 16 := by decide +kernel
theorem si_d4 : ∀ b, b < 256 → si_cn 8 (si_tb b) = si_p3 b ∧ si_p3 b ≤ 8 := by decide +kernel
theorem si_s1_s {k y b : Nat} (hb : b < 256) : si_s1 (k + 1) (256 * y + b) = 256 * si_s1 k y + si_p1 b := by
  obtain ⟨h1, h2, h3⟩ := si_d1 b hb
  have e : (256 * y + b) / 2 = 256 * (y / 2) + (128 * (y % 2) + b / 2) := by omega
  have e2 : ((256 * y + b) / 2 &&& si_m 85 (k + 1)) = 256 * (y / 2 &&& si_m 85 k) + (b / 2 &&& 85) := by
    rw [e]
    show (256 * (y / 2) + (128 * (y % 2) + b / 2)) &&& (256 * si_m 85 k + 85) = _
    rw [si_ldB (by omega) (by omega)]
    congr 1
    rcases Nat.mod_two_eq_zero_or_one y with q | q
    · rw [q]; simp
    · rw [q]; exact h2
  unfold si_s1
  rw [e2]
  have h4 : (y / 2 &&& si_m 85 k) ≤ y := Nat.le_trans Nat.and_le_left (Nat.div_le_self _ _)
  unfold si_p1
  omega
theorem si_s2_s {k y b : Nat} (hb : b < 256) : si_s2 (k + 1) (256 * y + b) = 256 * si_s2 k y + si_p2 b := by
  obtain ⟨-, -, h3⟩ := si_d1 b hb
  obtain ⟨d1, d2, d3, d4, d5⟩ := si_d2 (si_p1 b) h3
  unfold si_s2
  rw [si_s1_s hb]
  have e : (256 * si_s1 k y + si_p1 b) / 4 = 256 * (si_s1 k y / 4) + (64 * (si_s1 k y % 4) + si_p1 b / 4) := by omega
  have e2 : ((256 * si_s1 k y + si_p1 b) / 4 &&& si_m 51 (k + 1)) = 256 * (si_s1 k y / 4 &&& si_m 51 k) + (si_p1 b / 4 &&& 51) := by
    rw [e]
    show (256 * (si_s1 k y / 4) + (64 * (si_s1 k y % 4) + si_p1 b / 4)) &&& (256 * si_m 51 k + 51) = _
    rw [si_ldB (by omega) (by omega)]
    congr 1
    rcases (show si_s1 k y % 4 = 0 ∨ si_s1 k y % 4 = 1 ∨ si_s1 k y % 4 = 2 ∨ si_s1 k y % 4 = 3 by omega) with q | q | q | q
    · rw [q]; simp
    · rw [q]; exact d3
    · rw [q]; exact d4
    · rw [q]; exact d5
  have e3 : ((256 * si_s1 k y + si_p1 b) &&& si_m 51 (k + 1)) = 256 * (si_s1 k y &&& si_m 51 k) + (si_p1 b &&& 51) := by
    show (256 * si_s1 k y + si_p1 b) &&& (256 * si_m 51 k + 51) = _
    exact si_ldB h3 (by omega)
  rw [e2, e3]
  unfold si_p2
  omega
theorem si_low51 (k a : Nat) : (a &&& si_m 51 k) % 16 ≤ 3 := by
  cases k with
  | zero => simp [si_m]
  | succ k =>
    have h1 : a = 256 * (a / 256) + a % 256 := by omega
    have h2 : (a &&& si_m 51 (k + 1)) = 256 * (a / 256 &&& si_m 51 k) + (a % 256 &&& 51) := by
      show (a &&& (256 * si_m 51 k + 51)) = _
      rw (occs := .pos [1]) [h1]
      exact si_ldB (by omega) (by omega)
    have h3 : ∀ q, q < 256 → (q &&& 51) % 16 ≤ 3 := by decide +kernel
    have h4 := h3 (a % 256) (by omega)
    rw [h2]
    omega
theorem si_s3_s {k y b : Nat} (hb : b < 256) : si_s3 (k + 1) (256 * y + b) = 256 * si_s3 k y + si_p3 b := by
  have h1 : si_s2 k y % 16 ≤ 6 := by
    have a1 := si_low51 k (si_s1 k y)
    have a2 := si_low51 k (si_s1 k y / 4)
    unfold si_s2
    omega
  obtain ⟨-, -, h3⟩ := si_d1 b hb
  obtain ⟨d1, d2, -, -, -⟩ := si_d2 (si_p1 b) h3
  have h2 : si_p2 b < 104 := by unfold si_p2; omega
  unfold si_s3
  rw [si_s2_s hb]
  have e : 256 * si_s2 k y + si_p2 b + (256 * si_s2 k y + si_p2 b) / 16 = 256 * (si_s2 k y + si_s2 k y / 16) + (si_p2 b + si_p2 b / 16 + 16 * (si_s2 k y % 16)) := by omega
  rw [e]
  show (256 * (si_s2 k y + si_s2 k y / 16) + (si_p2 b + si_p2 b / 16 + 16 * (si_s2 k y % 16))) &&& (256 * si_m 15 k + 15) = _
  rw [si_ldB (by omega) (by omega), si_d3 _ (by omega)]
  unfold si_p3
  omega
theorem si_bytes_cn {k y b : Nat} (hb : b < 256) : si_cn (8 + k) (si_tb (256 * y + b)) = si_p3 b + si_cn k (si_tb y) := by
  have e : (256 : Nat) = 2 ^ 8 := by decide
  rw [si_cn_app]
  congr 1
  · rw [← (si_d4 b hb).1]
    refine si_cn_congr (fun i hi => ?_)
    unfold si_tb
    rw [e, Nat.testBit_two_pow_mul_add _ (by omega), if_pos hi]
  · refine si_cn_congr (fun i hi => ?_)
    unfold si_tb
    rw [e, Nat.testBit_two_pow_mul_add _ (by omega), if_neg (by omega), Nat.add_sub_cancel_left]
/-- the count of bits of eight bytes, as the machine's library does it -/
theorem si_pop {x s4 s5 s6 : Nat} (hx : x < 2 ^ 64) (h4 : s4 = si_s3 8 x + si_s3 8 x / 256) (h5 : s5 = s4 + s4 / 65536) (h6 : s6 = s5 + s5 / 4294967296) : s6 % 128 = si_cn 64 (si_tb x) := by
  obtain ⟨y7, b0, e0, k0, l0⟩ : ∃ y b, x = 256 * y + b ∧ b < 256 ∧ y < 2 ^ 56 := ⟨x / 256, x % 256, by omega, by omega, by omega⟩
  obtain ⟨y6, b1, e1, k1, l1⟩ : ∃ y b, y7 = 256 * y + b ∧ b < 256 ∧ y < 2 ^ 48 := ⟨y7 / 256, y7 % 256, by omega, by omega, by omega⟩
  obtain ⟨y5, b2, e2, k2, l2⟩ : ∃ y b, y6 = 256 * y + b ∧ b < 256 ∧ y < 2 ^ 40 := ⟨y6 / 256, y6 % 256, by omega, by omega, by omega⟩
  obtain ⟨y4, b3, e3, k3, l3⟩ : ∃ y b, y5 = 256 * y + b ∧ b < 256 ∧ y < 2 ^ 32 := ⟨y5 / 256, y5 % 256, by omega, by omega, by omega⟩
  obtain ⟨y3, b4, e4, k4, l4⟩ : ∃ y b, y4 = 256 * y + b ∧ b < 256 ∧ y < 2 ^ 24 := ⟨y4 / 256, y4 % 256, by omega, by omega, by omega⟩
  obtain ⟨y2, b5, e5, k5, l5⟩ : ∃ y b, y3 = 256 * y + b ∧ b < 256 ∧ y < 2 ^ 16 := ⟨y3 / 256, y3 % 256, by omega, by omega, by omega⟩
  obtain ⟨b7, b6, e6, k6, k7⟩ : ∃ y b, y2 = 256 * y + b ∧ b < 256 ∧ y < 256 := ⟨y2 / 256, y2 % 256, by omega, by omega, by omega⟩
  have z : ∀ b, b < 256 → si_s3 1 b = si_p3 b := fun b hb => by
    have := si_s3_s (k := 0) (y := 0) hb
    rw [show 256 * 0 + b = b by omega] at this
    have e9 : si_s3 1 b = 256 * si_s3 0 0 + si_p3 b := this
    have : si_s3 0 0 = 0 := rfl
    omega
  have zc : ∀ b, b < 256 → si_cn 8 (si_tb b) = si_p3 b := fun b hb => (si_d4 b hb).1
  have hs : si_s3 8 x = 256 * (256 * (256 * (256 * (256 * (256 * (256 * si_p3 b7 + si_p3 b6) + si_p3 b5) + si_p3 b4) + si_p3 b3) + si_p3 b2) + si_p3 b1) + si_p3 b0 := by
    rw [e0, si_s3_s k0, e1, si_s3_s k1, e2, si_s3_s k2, e3, si_s3_s k3, e4, si_s3_s k4, e5, si_s3_s k5, e6, si_s3_s k6, z b7 k7]
  have hc : si_cn 64 (si_tb x) = si_p3 b0 + (si_p3 b1 + (si_p3 b2 + (si_p3 b3 + (si_p3 b4 + (si_p3 b5 + (si_p3 b6 + si_p3 b7)))))) := by
    rw [e0, show (64 : Nat) = 8 + 56 by rfl, si_bytes_cn k0, e1, show (56 : Nat) = 8 + 48 by rfl, si_bytes_cn k1, e2, show (48 : Nat) = 8 + 40 by rfl, si_bytes_cn k2, e3, show (40 : Nat) = 8 + 32 by rfl, si_bytes_cn k3, e4, show (32 : Nat) = 8 + 24 by rfl, si_bytes_cn k4, e5, show (24 : Nat) = 8 + 16 by rfl, si_bytes_cn k5, e6, show (16 : Nat) = 8 + 8 by rfl, si_bytes_cn k6, zc b7 k7]
  have p0 := (si_d4 b0 k0).2
  have p1 := (si_d4 b1 k1).2
  have p2 := (si_d4 b2 k2).2
  have p3 := (si_d4 b3 k3).2
  have p4 := (si_d4 b4 k4).2
  have p5 := (si_d4 b5 k5).2
  have p6 := (si_d4 b6 k6).2
  have p7 := (si_d4 b7 k7).2
  rw [hc]
  rw [hs] at h4
  clear hs hc z zc e0 e1 e2 e3 e4 e5 e6
  generalize si_p3 b0 = q0 at *
  generalize si_p3 b1 = q1 at *
  generalize si_p3 b2 = q2 at *
  generalize si_p3 b3 = q3 at *
  generalize si_p3 b4 = q4 at *
  generalize si_p3 b5 = q5 at *
  generalize si_p3 b6 = q6 at *
  generalize si_p3 b7 = q7 at *
  have f4 : s4 = 256 * (256 * (256 * (256 * (256 * (256 * (256 * q7 + (q6 + q7)) + (q5 + q6)) + (q4 + q5)) + (q3 + q4)) + (q2 + q3)) + (q1 + q2)) + (q0 + q1) := by omega
  have f5 : s5 % 65536 = (s4 + s4 / 65536) % 65536 := by rw [h5]
  have g5 : s5 = 256 * (256 * (256 * (256 * (256 * (256 * (256 * q7 + (q6 + q7)) + (q5 + q6 + q7)) + (q4 + q5 + q6 + q7)) + (q3 + q4 + q5 + q6)) + (q2 + q3 + q4 + q5)) + (q1 + q2 + q3 + q4)) + (q0 + q1 + q2 + q3) := by omega
  have g6 : s5 / 4294967296 = 256 * (256 * (256 * q7 + (q6 + q7)) + (q5 + q6 + q7)) + (q4 + q5 + q6 + q7) := by omega
  omega
/-- a line holds the text t -/
def si_ln (t : List Nat) (f : Nat → Int32) : Prop := ∀ i, i < t.length → f i = nI (si_g t i)
/-- rows and places of the suffixes of t -/
def si_su (t : List Nat) (fr fp : Nat → Int32) : Prop := (∀ p, p < t.length + 1 → fr p = nI (si_rk t p)) ∧ ∀ r, r < t.length + 1 → fp r = nI (si_pl t r)
/-- codeAt: what stands at p -/
def si_ca (f : Nat → Int32) (sz : Nat) (p v : Int32) : Prop := (∃ k, k < sz ∧ p = nI k ∧ v = f k) ∨ ((p < 0 ∨ nI sz ≤ p) ∧ v = 0)
theorem si_ca_n {t : List Nat} {f : Nat → Int32} (h : si_ln t f) (hn : t.length < 2 ^ 31) {k : Nat} (hk : k < 2 ^ 31) : si_ca f t.length (nI k) (nI (si_g t k)) := by
  by_cases q : k < t.length
  · exact Or.inl ⟨k, q, rfl, (h k q).symm⟩
  · refine Or.inr ⟨Or.inr (nI_le (by omega) hk), ?_⟩
    rw [si_g_out (by omega)]
    rfl
end
section
/-! Small rows for the walks. -/
theorem si_bn (b : Bool) : b.toNat < 2 ^ 31 := by cases b <;> decide
theorem si_nb (b : Bool) : narrow .boolean (.int (nI b.toNat)) = .int (nI b.toNat) := by cases b <;> rfl
theorem si_b0 {b : Bool} (h : b.toNat = 0) : b = false := by cases b <;> first | rfl | exact absurd h (by decide)
theorem si_b1 {b : Bool} (h : b.toNat ≠ 0) : b = true := by cases b <;> first | rfl | exact absurd rfl h
theorem si_bt1 {b : Bool} (h : b = true) : b.toNat = 1 := by rw [h]; rfl
theorem si_bt0 {b : Bool} (h : b = false) : b.toNat = 0 := by rw [h]; rfl
theorem si_nt {b : Bool} (h : ¬ b = true) : b = false := by cases b <;> first | rfl | exact absurd rfl h
/-- a number that goes down to -1: k are left -/
def si_dw (p : Int32) (k : Nat) : Prop := (p = -1 ∧ k = 0) ∨ ∃ j, k = j + 1 ∧ p = nI j
theorem si_dw_s (j : Nat) : si_dw (nI j + Int32.ofInt (-1)) j := by
  cases j with
  | zero => exact Or.inl ⟨by decide, rfl⟩
  | succ j => exact Or.inr ⟨j, rfl, pk_m1 j⟩
theorem si_dw_m (j : Nat) : si_dw (nI j - nI 1) j := by
  cases j with
  | zero => exact Or.inl ⟨by decide, rfl⟩
  | succ j => exact Or.inr ⟨j, rfl, nI_pred j⟩
theorem si_dw_i (n : Nat) : si_dw (nI n) (n + 1) := Or.inr ⟨n, rfl, rfl⟩
theorem si_dw_0 {p : Int32} {k : Nat} (hk : k < 2 ^ 31) (h : si_dw p k) (hp : p < 0) : k = 0 := by
  rcases h with ⟨-, h⟩ | ⟨j, h1, h2⟩
  · exact h
  · subst h2
    exact absurd hp (nI_pos (by omega))
theorem si_dw_1 {p : Int32} {k : Nat} (h : si_dw p k) (hp : ¬ p < 0) : ∃ j, k = j + 1 ∧ p = nI j := by
  rcases h with ⟨h, -⟩ | h
  · subst h
    exact absurd (by decide) hp
  · exact h
theorem si_bz (b : Bool) : lg_cmp (if b = true then 1 else 0) 0 = 0 ↔ b = false := by
  rw [si_lc0]
  cases b
  · simp
  · simp
theorem si_ca_b {t : List Nat} {f : Nat → Int32} (h : si_ln t f) {p : Nat} (hp : p ≤ t.length) (hn : t.length < 2 ^ 31) : si_ca f t.length (nI p - nI 1) (nI (si_bf t p)) := by
  cases p with
  | zero =>
    refine Or.inr ⟨Or.inl (by decide), ?_⟩
    rfl
  | succ k =>
    have e : nI (k + 1) - nI 1 = nI k := nI_pred k
    refine Or.inl ⟨k, by omega, e, ?_⟩
    rw [h k (by omega)]
    rfl
theorem si_or0 (w : Int64) : w ||| 0 = w := by
  apply wb_inj
  rw [Int64.toBitVec_or]
  show w.toBitVec ||| 0#64 = _
  simp
theorem si_wd_s (b : Nat → Bool) {n : Nat} (hn : n < 64) : si_wd n b ||| (lN (b n).toNat <<< ((nI n).toInt64 &&& 63)) = si_wd (n + 1) b := by
  cases h : b n with
  | true => rw [si_wd_t h]; rfl
  | false =>
    rw [si_wd_f h]
    show si_wd n b ||| (lN 0 <<< ((nI n).toInt64 &&& 63)) = _
    rw [wb_shl 0 hn, Nat.zero_mul]
    exact si_or0 _
theorem si_sl5 : ∀ n, n < 32 → ((nI n &&& 31).toBitVec.smod 32).toNat = n := by decide +kernel
theorem si_btn (j c : Nat) : (si_bt j c).toNat = c / 2 ^ (6 - j) % 2 := by
  unfold si_bt
  rcases Nat.mod_two_eq_zero_or_one (c / 2 ^ (6 - j)) with h | h <;> rw [h] <;> rfl
end
section
/-! Calls out of the tables' words; the Line's contracts. Written by wip/draft/p15.py -/
section SICW
variable {own C : String} {i : Nat} {y : MethodName} {b : ByteArray} {k : Nat} {r : Option FieldType} {rm R : Room} {s : State} {args : Array Value}
theorem si_cV (n : Nat) (ht : ∀ w ∈ si_tbl, w.before args s = true) (h : Cond.code y b k r ∈ si_tbl) (h1 : Cond.methodLink own i y ∈ si_tbl) (h2 : Cond.instanceMethod y ∈ si_tbl) (h3 : Cond.selects C y y ∈ si_tbl) (h4 : Cond.initialized y.cls ∈ si_tbl) (hd : y.cls ≠ "java/lang/invoke/MethodHandle" ∧ y.cls ≠ "java/lang/invoke/VarHandle" ∧ (parseMethodDescriptor y.desc).map (fun d => d.parameters.length) = some n) (hR : rm.frames + 1 ≤ R.frames ∧ 8 + (k + 11) + rm.locals ≤ R.locals) : CallW R s args own C i y b k r (.code y b k r :: si_tbl) rm rm.cells rm.slots n :=
  ⟨callB_of n ht (si_gW h) rfl rfl rfl (ht _ h4) (ht _ h1) hd hR, ht _ h2, ht _ h3⟩
theorem si_cS (n : Nat) (ht : ∀ w ∈ si_tbl, w.before args s = true) (h : Cond.code y b k r ∈ si_tbl) (h1 : Cond.methodLink own i y ∈ si_tbl) (h2 : Cond.static y ∈ si_tbl) (h4 : Cond.initialized y.cls ∈ si_tbl) (hd : y.cls ≠ "java/lang/invoke/MethodHandle" ∧ y.cls ≠ "java/lang/invoke/VarHandle" ∧ (parseMethodDescriptor y.desc).map (fun d => d.parameters.length) = some n) (hR : rm.frames + 1 ≤ R.frames ∧ 8 + (k + 11) + rm.locals ≤ R.locals) : CallB R s args own i y b k r (.code y b k r :: si_tbl) rm rm.cells rm.slots n ∧ (Cond.static y).before args s = true :=
  ⟨callB_of n ht (si_gW h) rfl rfl rfl (ht _ h4) (ht _ h1) hd hR, ht _ h2⟩
theorem si_cI (n : Nat) (ht : ∀ w ∈ si_tbl, w.before args s = true) (h : Cond.code y b k none ∈ si_tbl) (h1 : Cond.methodLink own i y ∈ si_tbl) (h2 : Cond.instanceMethod y ∈ si_tbl) (h4 : Cond.initialized y.cls ∈ si_tbl) (hy : y.name = "<init>") (hd : y.cls ≠ "java/lang/invoke/MethodHandle" ∧ y.cls ≠ "java/lang/invoke/VarHandle" ∧ (parseMethodDescriptor y.desc).map (fun d => d.parameters.length) = some n) (hR : rm.frames + 1 ≤ R.frames ∧ 8 + (k + 11) + rm.locals ≤ R.locals) : CallB R s args own i y b k none (.code y b k none :: si_tbl) rm rm.cells rm.slots n ∧ y.name = "<init>" ∧ (Cond.instanceMethod y).before args s = true :=
  ⟨callB_of n ht (si_gW h) rfl rfl rfl (ht _ h4) (ht _ h1) hd hR, hy, ht _ h2⟩
end SICW
theorem si_g_lt {t : List Nat} (h : ∀ z ∈ t, 32 ≤ z ∧ z ≤ 126) {k : Nat} : si_g t k < 2 ^ 31 := by
  by_cases q : k < t.length
  · have := h _ (List.getElem_mem q)
    rw [si_g_in q]; omega
  · rw [si_g_out (by omega)]; decide
theorem si_ca_lt {f : Nat → Int32} {sz : Nat} {q v : Int32} (h : si_ca f sz q v) (hs : sz < 2 ^ 31) (hp : q < 0) : nI 0 = v := by
  rcases h with ⟨k, hk, rfl, -⟩ | ⟨-, h⟩
  · exact absurd hp (nI_pos (by omega))
  · rw [h]; rfl
theorem si_ca_ge {f : Nat → Int32} {sz : Nat} {q v : Int32} (h : si_ca f sz q v) (hs : sz < 2 ^ 31) (hp : nI sz ≤ q) : nI 0 = v := by
  rcases h with ⟨k, hk, rfl, -⟩ | ⟨-, h⟩
  · exact absurd hp (nI_ge hk hs)
  · rw [h]; rfl
theorem si_ca_in {f : Nat → Int32} {sz : Nat} {q v : Int32} (h : si_ca f sz q v) (h1 : ¬ q < 0) (h2 : ¬ nI sz ≤ q) : ∃ k, k < sz ∧ q = nI k ∧ v = f k := by
  rcases h with h | ⟨h | h, -⟩
  · exact h
  · exact absurd h h1
  · exact absurd h h2
/-- a code of a character -/
abbrev si_ch (q : Int32) : Prop := ¬ q < nI 32 ∧ ¬ nI 126 < q
theorem zhX_init : zyX_init.cls ≠ "java/lang/invoke/MethodHandle" ∧ zyX_init.cls ≠ "java/lang/invoke/VarHandle" ∧ (parseMethodDescriptor zyX_init.desc).map (fun d => d.parameters.length) = some 0 := by decide +kernel
theorem zhX_write : zyX_write.cls ≠ "java/lang/invoke/MethodHandle" ∧ zyX_write.cls ≠ "java/lang/invoke/VarHandle" ∧ (parseMethodDescriptor zyX_write.desc).map (fun d => d.parameters.length) = some 1 := by decide +kernel
theorem zhX_erase : zyX_erase.cls ≠ "java/lang/invoke/MethodHandle" ∧ zyX_erase.cls ≠ "java/lang/invoke/VarHandle" ∧ (parseMethodDescriptor zyX_erase.desc).map (fun d => d.parameters.length) = some 0 := by decide +kernel
theorem zhX_build : zyX_build.cls ≠ "java/lang/invoke/MethodHandle" ∧ zyX_build.cls ≠ "java/lang/invoke/VarHandle" ∧ (parseMethodDescriptor zyX_build.desc).map (fun d => d.parameters.length) = some 1 := by decide +kernel
theorem zhX_word : zyX_word.cls ≠ "java/lang/invoke/MethodHandle" ∧ zyX_word.cls ≠ "java/lang/invoke/VarHandle" ∧ (parseMethodDescriptor zyX_word.desc).map (fun d => d.parameters.length) = some 1 := by decide +kernel
theorem zhX_put : zyX_put.cls ≠ "java/lang/invoke/MethodHandle" ∧ zyX_put.cls ≠ "java/lang/invoke/VarHandle" ∧ (parseMethodDescriptor zyX_put.desc).map (fun d => d.parameters.length) = some 2 := by decide +kernel
theorem zhX_flip : zyX_flip.cls ≠ "java/lang/invoke/MethodHandle" ∧ zyX_flip.cls ≠ "java/lang/invoke/VarHandle" ∧ (parseMethodDescriptor zyX_flip.desc).map (fun d => d.parameters.length) = some 2 := by decide +kernel
theorem zhX_load : zyX_load.cls ≠ "java/lang/invoke/MethodHandle" ∧ zyX_load.cls ≠ "java/lang/invoke/VarHandle" ∧ (parseMethodDescriptor zyX_load.desc).map (fun d => d.parameters.length) = some 0 := by decide +kernel
theorem zhX_length : zyX_length.cls ≠ "java/lang/invoke/MethodHandle" ∧ zyX_length.cls ≠ "java/lang/invoke/VarHandle" ∧ (parseMethodDescriptor zyX_length.desc).map (fun d => d.parameters.length) = some 0 := by decide +kernel
theorem zhX_rate : zyX_rate.cls ≠ "java/lang/invoke/MethodHandle" ∧ zyX_rate.cls ≠ "java/lang/invoke/VarHandle" ∧ (parseMethodDescriptor zyX_rate.desc).map (fun d => d.parameters.length) = some 0 := by decide +kernel
theorem zhX_charAt : zyX_charAt.cls ≠ "java/lang/invoke/MethodHandle" ∧ zyX_charAt.cls ≠ "java/lang/invoke/VarHandle" ∧ (parseMethodDescriptor zyX_charAt.desc).map (fun d => d.parameters.length) = some 1 := by decide +kernel
theorem zhX_rowOf : zyX_rowOf.cls ≠ "java/lang/invoke/MethodHandle" ∧ zyX_rowOf.cls ≠ "java/lang/invoke/VarHandle" ∧ (parseMethodDescriptor zyX_rowOf.desc).map (fun d => d.parameters.length) = some 1 := by decide +kernel
theorem zhX_placeOf : zyX_placeOf.cls ≠ "java/lang/invoke/MethodHandle" ∧ zyX_placeOf.cls ≠ "java/lang/invoke/VarHandle" ∧ (parseMethodDescriptor zyX_placeOf.desc).map (fun d => d.parameters.length) = some 1 := by decide +kernel
theorem zhX_ask : zyX_ask.cls ≠ "java/lang/invoke/MethodHandle" ∧ zyX_ask.cls ≠ "java/lang/invoke/VarHandle" ∧ (parseMethodDescriptor zyX_ask.desc).map (fun d => d.parameters.length) = some 1 := by decide +kernel
theorem zhX_back : zyX_back.cls ≠ "java/lang/invoke/MethodHandle" ∧ zyX_back.cls ≠ "java/lang/invoke/VarHandle" ∧ (parseMethodDescriptor zyX_back.desc).map (fun d => d.parameters.length) = some 0 := by decide +kernel
theorem zhX_count : zyX_count.cls ≠ "java/lang/invoke/MethodHandle" ∧ zyX_count.cls ≠ "java/lang/invoke/VarHandle" ∧ (parseMethodDescriptor zyX_count.desc).map (fun d => d.parameters.length) = some 0 := by decide +kernel
theorem zhX_firstRow : zyX_firstRow.cls ≠ "java/lang/invoke/MethodHandle" ∧ zyX_firstRow.cls ≠ "java/lang/invoke/VarHandle" ∧ (parseMethodDescriptor zyX_firstRow.desc).map (fun d => d.parameters.length) = some 0 := by decide +kernel
theorem zhX_locate : zyX_locate.cls ≠ "java/lang/invoke/MethodHandle" ∧ zyX_locate.cls ≠ "java/lang/invoke/VarHandle" ∧ (parseMethodDescriptor zyX_locate.desc).map (fun d => d.parameters.length) = some 1 := by decide +kernel
theorem zhX_variety : zyX_variety.cls ≠ "java/lang/invoke/MethodHandle" ∧ zyX_variety.cls ≠ "java/lang/invoke/VarHandle" ∧ (parseMethodDescriptor zyX_variety.desc).map (fun d => d.parameters.length) = some 0 := by decide +kernel
theorem zhX_isWord : zyX_isWord.cls ≠ "java/lang/invoke/MethodHandle" ∧ zyX_isWord.cls ≠ "java/lang/invoke/VarHandle" ∧ (parseMethodDescriptor zyX_isWord.desc).map (fun d => d.parameters.length) = some 1 := by decide +kernel
theorem zhX_isRate : zyX_isRate.cls ≠ "java/lang/invoke/MethodHandle" ∧ zyX_isRate.cls ≠ "java/lang/invoke/VarHandle" ∧ (parseMethodDescriptor zyX_isRate.desc).map (fun d => d.parameters.length) = some 1 := by decide +kernel
theorem zhX_hasLoaded : zyX_hasLoaded.cls ≠ "java/lang/invoke/MethodHandle" ∧ zyX_hasLoaded.cls ≠ "java/lang/invoke/VarHandle" ∧ (parseMethodDescriptor zyX_hasLoaded.desc).map (fun d => d.parameters.length) = some 0 := by decide +kernel
theorem zhX_isLoadedPlace : zyX_isLoadedPlace.cls ≠ "java/lang/invoke/MethodHandle" ∧ zyX_isLoadedPlace.cls ≠ "java/lang/invoke/VarHandle" ∧ (parseMethodDescriptor zyX_isLoadedPlace.desc).map (fun d => d.parameters.length) = some 1 := by decide +kernel
theorem zhX_occursAt : zyX_occursAt.cls ≠ "java/lang/invoke/MethodHandle" ∧ zyX_occursAt.cls ≠ "java/lang/invoke/VarHandle" ∧ (parseMethodDescriptor zyX_occursAt.desc).map (fun d => d.parameters.length) = some 1 := by decide +kernel
theorem zhX_draw : zyX_draw.cls ≠ "java/lang/invoke/MethodHandle" ∧ zyX_draw.cls ≠ "java/lang/invoke/VarHandle" ∧ (parseMethodDescriptor zyX_draw.desc).map (fun d => d.parameters.length) = some 3 := by decide +kernel
theorem zhX_readDesk : zyX_readDesk.cls ≠ "java/lang/invoke/MethodHandle" ∧ zyX_readDesk.cls ≠ "java/lang/invoke/VarHandle" ∧ (parseMethodDescriptor zyX_readDesk.desc).map (fun d => d.parameters.length) = some 0 := by decide +kernel
theorem zhM_init : zyM_init.cls ≠ "java/lang/invoke/MethodHandle" ∧ zyM_init.cls ≠ "java/lang/invoke/VarHandle" ∧ (parseMethodDescriptor zyM_init.desc).map (fun d => d.parameters.length) = some 0 := by decide +kernel
theorem zhM_write : zyM_write.cls ≠ "java/lang/invoke/MethodHandle" ∧ zyM_write.cls ≠ "java/lang/invoke/VarHandle" ∧ (parseMethodDescriptor zyM_write.desc).map (fun d => d.parameters.length) = some 1 := by decide +kernel
theorem zhM_erase : zyM_erase.cls ≠ "java/lang/invoke/MethodHandle" ∧ zyM_erase.cls ≠ "java/lang/invoke/VarHandle" ∧ (parseMethodDescriptor zyM_erase.desc).map (fun d => d.parameters.length) = some 0 := by decide +kernel
theorem zhM_word : zyM_word.cls ≠ "java/lang/invoke/MethodHandle" ∧ zyM_word.cls ≠ "java/lang/invoke/VarHandle" ∧ (parseMethodDescriptor zyM_word.desc).map (fun d => d.parameters.length) = some 1 := by decide +kernel
theorem zhM_put : zyM_put.cls ≠ "java/lang/invoke/MethodHandle" ∧ zyM_put.cls ≠ "java/lang/invoke/VarHandle" ∧ (parseMethodDescriptor zyM_put.desc).map (fun d => d.parameters.length) = some 2 := by decide +kernel
theorem zhM_flip : zyM_flip.cls ≠ "java/lang/invoke/MethodHandle" ∧ zyM_flip.cls ≠ "java/lang/invoke/VarHandle" ∧ (parseMethodDescriptor zyM_flip.desc).map (fun d => d.parameters.length) = some 2 := by decide +kernel
theorem zhM_earlier : zyM_earlier.cls ≠ "java/lang/invoke/MethodHandle" ∧ zyM_earlier.cls ≠ "java/lang/invoke/VarHandle" ∧ (parseMethodDescriptor zyM_earlier.desc).map (fun d => d.parameters.length) = some 2 := by decide +kernel
theorem zhM_sort : zyM_sort.cls ≠ "java/lang/invoke/MethodHandle" ∧ zyM_sort.cls ≠ "java/lang/invoke/VarHandle" ∧ (parseMethodDescriptor zyM_sort.desc).map (fun d => d.parameters.length) = some 0 := by decide +kernel
theorem zhM_levels : zyM_levels.cls ≠ "java/lang/invoke/MethodHandle" ∧ zyM_levels.cls ≠ "java/lang/invoke/VarHandle" ∧ (parseMethodDescriptor zyM_levels.desc).map (fun d => d.parameters.length) = some 0 := by decide +kernel
theorem zhM_picture : zyM_picture.cls ≠ "java/lang/invoke/MethodHandle" ∧ zyM_picture.cls ≠ "java/lang/invoke/VarHandle" ∧ (parseMethodDescriptor zyM_picture.desc).map (fun d => d.parameters.length) = some 1 := by decide +kernel
theorem zhM_build : zyM_build.cls ≠ "java/lang/invoke/MethodHandle" ∧ zyM_build.cls ≠ "java/lang/invoke/VarHandle" ∧ (parseMethodDescriptor zyM_build.desc).map (fun d => d.parameters.length) = some 1 := by decide +kernel
theorem zhM_readCodes : zyM_readCodes.cls ≠ "java/lang/invoke/MethodHandle" ∧ zyM_readCodes.cls ≠ "java/lang/invoke/VarHandle" ∧ (parseMethodDescriptor zyM_readCodes.desc).map (fun d => d.parameters.length) = some 0 := by decide +kernel
theorem zhM_before : zyM_before.cls ≠ "java/lang/invoke/MethodHandle" ∧ zyM_before.cls ≠ "java/lang/invoke/VarHandle" ∧ (parseMethodDescriptor zyM_before.desc).map (fun d => d.parameters.length) = some 1 := by decide +kernel
theorem zhM_load : zyM_load.cls ≠ "java/lang/invoke/MethodHandle" ∧ zyM_load.cls ≠ "java/lang/invoke/VarHandle" ∧ (parseMethodDescriptor zyM_load.desc).map (fun d => d.parameters.length) = some 0 := by decide +kernel
theorem zhM_length : zyM_length.cls ≠ "java/lang/invoke/MethodHandle" ∧ zyM_length.cls ≠ "java/lang/invoke/VarHandle" ∧ (parseMethodDescriptor zyM_length.desc).map (fun d => d.parameters.length) = some 0 := by decide +kernel
theorem zhM_rate : zyM_rate.cls ≠ "java/lang/invoke/MethodHandle" ∧ zyM_rate.cls ≠ "java/lang/invoke/VarHandle" ∧ (parseMethodDescriptor zyM_rate.desc).map (fun d => d.parameters.length) = some 0 := by decide +kernel
theorem zhM_place : zyM_place.cls ≠ "java/lang/invoke/MethodHandle" ∧ zyM_place.cls ≠ "java/lang/invoke/VarHandle" ∧ (parseMethodDescriptor zyM_place.desc).map (fun d => d.parameters.length) = some 1 := by decide +kernel
theorem zhM_charAt : zyM_charAt.cls ≠ "java/lang/invoke/MethodHandle" ∧ zyM_charAt.cls ≠ "java/lang/invoke/VarHandle" ∧ (parseMethodDescriptor zyM_charAt.desc).map (fun d => d.parameters.length) = some 1 := by decide +kernel
theorem zhM_rowOf : zyM_rowOf.cls ≠ "java/lang/invoke/MethodHandle" ∧ zyM_rowOf.cls ≠ "java/lang/invoke/VarHandle" ∧ (parseMethodDescriptor zyM_rowOf.desc).map (fun d => d.parameters.length) = some 1 := by decide +kernel
theorem zhM_placeOf : zyM_placeOf.cls ≠ "java/lang/invoke/MethodHandle" ∧ zyM_placeOf.cls ≠ "java/lang/invoke/VarHandle" ∧ (parseMethodDescriptor zyM_placeOf.desc).map (fun d => d.parameters.length) = some 1 := by decide +kernel
theorem zhM_ask : zyM_ask.cls ≠ "java/lang/invoke/MethodHandle" ∧ zyM_ask.cls ≠ "java/lang/invoke/VarHandle" ∧ (parseMethodDescriptor zyM_ask.desc).map (fun d => d.parameters.length) = some 1 := by decide +kernel
theorem zhM_back : zyM_back.cls ≠ "java/lang/invoke/MethodHandle" ∧ zyM_back.cls ≠ "java/lang/invoke/VarHandle" ∧ (parseMethodDescriptor zyM_back.desc).map (fun d => d.parameters.length) = some 0 := by decide +kernel
theorem zhM_occurs : zyM_occurs.cls ≠ "java/lang/invoke/MethodHandle" ∧ zyM_occurs.cls ≠ "java/lang/invoke/VarHandle" ∧ (parseMethodDescriptor zyM_occurs.desc).map (fun d => d.parameters.length) = some 1 := by decide +kernel
theorem zhM_count : zyM_count.cls ≠ "java/lang/invoke/MethodHandle" ∧ zyM_count.cls ≠ "java/lang/invoke/VarHandle" ∧ (parseMethodDescriptor zyM_count.desc).map (fun d => d.parameters.length) = some 0 := by decide +kernel
theorem zhM_firstRow : zyM_firstRow.cls ≠ "java/lang/invoke/MethodHandle" ∧ zyM_firstRow.cls ≠ "java/lang/invoke/VarHandle" ∧ (parseMethodDescriptor zyM_firstRow.desc).map (fun d => d.parameters.length) = some 0 := by decide +kernel
theorem zhM_locate : zyM_locate.cls ≠ "java/lang/invoke/MethodHandle" ∧ zyM_locate.cls ≠ "java/lang/invoke/VarHandle" ∧ (parseMethodDescriptor zyM_locate.desc).map (fun d => d.parameters.length) = some 1 := by decide +kernel
theorem zhM_variety : zyM_variety.cls ≠ "java/lang/invoke/MethodHandle" ∧ zyM_variety.cls ≠ "java/lang/invoke/VarHandle" ∧ (parseMethodDescriptor zyM_variety.desc).map (fun d => d.parameters.length) = some 0 := by decide +kernel
theorem zhB_init : zyB_init.cls ≠ "java/lang/invoke/MethodHandle" ∧ zyB_init.cls ≠ "java/lang/invoke/VarHandle" ∧ (parseMethodDescriptor zyB_init.desc).map (fun d => d.parameters.length) = some 0 := by decide +kernel
theorem zhB_takeFrom : zyB_takeFrom.cls ≠ "java/lang/invoke/MethodHandle" ∧ zyB_takeFrom.cls ≠ "java/lang/invoke/VarHandle" ∧ (parseMethodDescriptor zyB_takeFrom.desc).map (fun d => d.parameters.length) = some 2 := by decide +kernel
theorem zhB_drawLevels : zyB_drawLevels.cls ≠ "java/lang/invoke/MethodHandle" ∧ zyB_drawLevels.cls ≠ "java/lang/invoke/VarHandle" ∧ (parseMethodDescriptor zyB_drawLevels.desc).map (fun d => d.parameters.length) = some 1 := by decide +kernel
theorem zhB_readLevels : zyB_readLevels.cls ≠ "java/lang/invoke/MethodHandle" ∧ zyB_readLevels.cls ≠ "java/lang/invoke/VarHandle" ∧ (parseMethodDescriptor zyB_readLevels.desc).map (fun d => d.parameters.length) = some 2 := by decide +kernel
theorem zhB_spell : zyB_spell.cls ≠ "java/lang/invoke/MethodHandle" ∧ zyB_spell.cls ≠ "java/lang/invoke/VarHandle" ∧ (parseMethodDescriptor zyB_spell.desc).map (fun d => d.parameters.length) = some 1 := by decide +kernel
theorem zhB_rowBefore : zyB_rowBefore.cls ≠ "java/lang/invoke/MethodHandle" ∧ zyB_rowBefore.cls ≠ "java/lang/invoke/VarHandle" ∧ (parseMethodDescriptor zyB_rowBefore.desc).map (fun d => d.parameters.length) = some 1 := by decide +kernel
theorem zhB_startOrder : zyB_startOrder.cls ≠ "java/lang/invoke/MethodHandle" ∧ zyB_startOrder.cls ≠ "java/lang/invoke/VarHandle" ∧ (parseMethodDescriptor zyB_startOrder.desc).map (fun d => d.parameters.length) = some 0 := by decide +kernel
theorem zhB_partOrder : zyB_partOrder.cls ≠ "java/lang/invoke/MethodHandle" ∧ zyB_partOrder.cls ≠ "java/lang/invoke/VarHandle" ∧ (parseMethodDescriptor zyB_partOrder.desc).map (fun d => d.parameters.length) = some 1 := by decide +kernel
theorem zhI_init : zyI_init.cls ≠ "java/lang/invoke/MethodHandle" ∧ zyI_init.cls ≠ "java/lang/invoke/VarHandle" ∧ (parseMethodDescriptor zyI_init.desc).map (fun d => d.parameters.length) = some 0 := by decide +kernel
theorem zhI_isSameAs : zyI_isSameAs.cls ≠ "java/lang/invoke/MethodHandle" ∧ zyI_isSameAs.cls ≠ "java/lang/invoke/VarHandle" ∧ (parseMethodDescriptor zyI_isSameAs.desc).map (fun d => d.parameters.length) = some 1 := by decide +kernel
theorem zhI_draw : zyI_draw.cls ≠ "java/lang/invoke/MethodHandle" ∧ zyI_draw.cls ≠ "java/lang/invoke/VarHandle" ∧ (parseMethodDescriptor zyI_draw.desc).map (fun d => d.parameters.length) = some 3 := by decide +kernel
theorem zhI_drawMarkedRows : zyI_drawMarkedRows.cls ≠ "java/lang/invoke/MethodHandle" ∧ zyI_drawMarkedRows.cls ≠ "java/lang/invoke/VarHandle" ∧ (parseMethodDescriptor zyI_drawMarkedRows.desc).map (fun d => d.parameters.length) = some 2 := by decide +kernel
theorem zhI_drawRowsOfPlaces : zyI_drawRowsOfPlaces.cls ≠ "java/lang/invoke/MethodHandle" ∧ zyI_drawRowsOfPlaces.cls ≠ "java/lang/invoke/VarHandle" ∧ (parseMethodDescriptor zyI_drawRowsOfPlaces.desc).map (fun d => d.parameters.length) = some 2 := by decide +kernel
theorem zhI_drawNumber : zyI_drawNumber.cls ≠ "java/lang/invoke/MethodHandle" ∧ zyI_drawNumber.cls ≠ "java/lang/invoke/VarHandle" ∧ (parseMethodDescriptor zyI_drawNumber.desc).map (fun d => d.parameters.length) = some 3 := by decide +kernel
theorem zhL_init : zyL_init.cls ≠ "java/lang/invoke/MethodHandle" ∧ zyL_init.cls ≠ "java/lang/invoke/VarHandle" ∧ (parseMethodDescriptor zyL_init.desc).map (fun d => d.parameters.length) = some 1 := by decide +kernel
theorem zhL_add : zyL_add.cls ≠ "java/lang/invoke/MethodHandle" ∧ zyL_add.cls ≠ "java/lang/invoke/VarHandle" ∧ (parseMethodDescriptor zyL_add.desc).map (fun d => d.parameters.length) = some 1 := by decide +kernel
theorem zhL_dropLast : zyL_dropLast.cls ≠ "java/lang/invoke/MethodHandle" ∧ zyL_dropLast.cls ≠ "java/lang/invoke/VarHandle" ∧ (parseMethodDescriptor zyL_dropLast.desc).map (fun d => d.parameters.length) = some 0 := by decide +kernel
theorem zhL_clear : zyL_clear.cls ≠ "java/lang/invoke/MethodHandle" ∧ zyL_clear.cls ≠ "java/lang/invoke/VarHandle" ∧ (parseMethodDescriptor zyL_clear.desc).map (fun d => d.parameters.length) = some 0 := by decide +kernel
theorem zhL_codeAt : zyL_codeAt.cls ≠ "java/lang/invoke/MethodHandle" ∧ zyL_codeAt.cls ≠ "java/lang/invoke/VarHandle" ∧ (parseMethodDescriptor zyL_codeAt.desc).map (fun d => d.parameters.length) = some 1 := by decide +kernel
theorem zhL_hasAt : zyL_hasAt.cls ≠ "java/lang/invoke/MethodHandle" ∧ zyL_hasAt.cls ≠ "java/lang/invoke/VarHandle" ∧ (parseMethodDescriptor zyL_hasAt.desc).map (fun d => d.parameters.length) = some 2 := by decide +kernel
theorem zhR_init : zyR_init.cls ≠ "java/lang/invoke/MethodHandle" ∧ zyR_init.cls ≠ "java/lang/invoke/VarHandle" ∧ (parseMethodDescriptor zyR_init.desc).map (fun d => d.parameters.length) = some 0 := by decide +kernel
theorem zhS_init : zyS_init.cls ≠ "java/lang/invoke/MethodHandle" ∧ zyS_init.cls ≠ "java/lang/invoke/VarHandle" ∧ (parseMethodDescriptor zyS_init.desc).map (fun d => d.parameters.length) = some 0 := by decide +kernel
theorem zhS_sort : zyS_sort.cls ≠ "java/lang/invoke/MethodHandle" ∧ zyS_sort.cls ≠ "java/lang/invoke/VarHandle" ∧ (parseMethodDescriptor zyS_sort.desc).map (fun d => d.parameters.length) = some 1 := by decide +kernel
theorem zhS_insert : zyS_insert.cls ≠ "java/lang/invoke/MethodHandle" ∧ zyS_insert.cls ≠ "java/lang/invoke/VarHandle" ∧ (parseMethodDescriptor zyS_insert.desc).map (fun d => d.parameters.length) = some 2 := by decide +kernel
theorem zhS_isSmaller : zyS_isSmaller.cls ≠ "java/lang/invoke/MethodHandle" ∧ zyS_isSmaller.cls ≠ "java/lang/invoke/VarHandle" ∧ (parseMethodDescriptor zyS_isSmaller.desc).map (fun d => d.parameters.length) = some 3 := by decide +kernel
theorem zhJ_bitCount : zyJ_bitCount.cls ≠ "java/lang/invoke/MethodHandle" ∧ zyJ_bitCount.cls ≠ "java/lang/invoke/VarHandle" ∧ (parseMethodDescriptor zyJ_bitCount.desc).map (fun d => d.parameters.length) = some 1 := by decide +kernel
end
section
/-! Contracts of the Line. Written by wip/draft/p15.py -/
set_option maxHeartbeats 4000000 in
set_option maxRecDepth 100000 in
/-- codeAt -/
theorem cL_codeAt (l : Launch) (g : si_G) (h0 a0 cap sz : Nat) (f : Nat → Int32) (q v : Int32) (hcap : cap < 2 ^ 31) (hsz : sz ≤ cap) (hv : si_ca f sz q v) : si_Mi (S := Unit) l g vwCl zyL_codeAt zwL_codeAt ({ frames := 0, cells := 0, slots := 0, locals := 0 } : Room) [.ref h0, .int q] [(h0, .inr (2, [.ref a0, .int (nI sz)])), (a0, .inl (g.2.1, cap, .inl f))] (fun r u => r = v) (fun u => [(h0, .inr (2, [.ref a0, .int (nI sz)])), (a0, .inl (g.2.1, cap, .inl f))]) := by
  refine si_Mi.of (cc := zkL_codeAt) (maxL := 2) (by decide) rfl (Nat.le_of_ble_eq_true rfl) ?_
  intro p e s m args below meth c A Q ls hF0 hin hK hN hP hD hA hS hl hret
  obtain ⟨hx, hb, hml, hown, hts0⟩ := hF0
  have hts : ∀ w ∈ si_tbl, w.before args s = true := fun w hw => hts0 w (List.mem_cons_of_mem _ hw)
  have hF : CallFix p m c zkL_codeAt 2 s args si_tbl zRL := ⟨hx, hb, hml, hown, hts⟩
  have hl : lv_has ls 2 [(0, .ref h0), (1, .int q)] := hl
  refine lv_iload_n hx hb zdL_codeAt_0 rfl (lv_at hl 1 rfl) ?_
  refine lv_if_lt (tgt := 21) hx hb zdL_codeAt_1 rfl (fun h1 => ?_) (fun h1 => ?_)
  · have hv0 : nI 0 = v := si_ca_lt hv (by omega) h1
    refine lv_iconst (v := nI 0) hx hb zdL_codeAt_21 (by decide) ?_
    exact hret (nI 0) () _ _ _ _ (rfl) (hv0) (hP.sub [0, 1] rfl) (hD.sub [0, 1] (by decide) rfl) hS zdL_codeAt_22
  · refine lv_iload_n hx hb zdL_codeAt_4 rfl (lv_at hl 1 rfl) ?_
    refine lv_aload_n hx hb zdL_codeAt_5 rfl (lv_at hl 0 rfl) ?_
    refine va_get (D := g.1) (ci := 2) (v := .int (nI sz)) (C := zRL) (T := zTL) (N := 2) hx hb hts ziL hown hK hP 0 rfl rfl 1 (by decide) (hts _ zlL_15) (fun _ h => h) rfl zdL_codeAt_6 ?_
    refine lv_icmp_ge (tgt := 21) hx hb zdL_codeAt_9 rfl (fun h9 => ?_) (fun h9 => ?_)
    · have hv0 : nI 0 = v := si_ca_ge hv (by omega) h9
      refine lv_iconst (v := nI 0) hx hb zdL_codeAt_21 (by decide) ?_
      exact hret (nI 0) () _ _ _ _ (rfl) (hv0) (hP.sub [0, 1] rfl) (hD.sub [0, 1] (by decide) rfl) hS zdL_codeAt_22
    · obtain ⟨k, hk, rfl, hvk⟩ := si_ca_in hv h1 h9
      refine lv_aload_n hx hb zdL_codeAt_12 rfl (lv_at hl 0 rfl) ?_
      refine va_get (D := g.1) (ci := 2) (v := .ref a0) (C := zRL) (T := zTL) (N := 2) hx hb hts ziL hown hK hP 0 rfl rfl 0 (by decide) (hts _ zlL_9) (fun _ h => h) rfl zdL_codeAt_13 ?_
      refine lv_iload_n hx hb zdL_codeAt_16 rfl (lv_at hl 1 rfl) ?_
      refine si_iald (v := f k) hx hb hK hP 1 0 rfl rfl (by omega) (by omega) (rfl) zdL_codeAt_17 ?_
      refine lv_goto (tgt := 22) hx hb zdL_codeAt_18 rfl ?_
      exact hret (f k) () _ _ _ _ (rfl) (hvk.symm) (hP.sub [0, 1] rfl) (hD.sub [0, 1] (by decide) rfl) hS zdL_codeAt_22

set_option maxHeartbeats 4000000 in
set_option maxRecDepth 100000 in
/-- add -/
theorem cL_add (l : Launch) (g : si_G) (h0 a0 cap sz : Nat) (f : Nat → Int32) (q : Int32) (hcap : cap < 2 ^ 31) (hsz : sz ≤ cap) : si_Mi (S := (Nat → Int32) × Nat) l g vwCl zyL_add zwL_add ({ frames := 0, cells := 0, slots := 0, locals := 0 } : Room) [.ref h0, .int q] [(h0, .inr (2, [.ref a0, .int (nI sz)])), (a0, .inl (g.2.1, cap, .inl f))] (fun r u => r = nI (decide (si_ch q ∧ sz < cap)).toNat ∧ (decide (si_ch q ∧ sz < cap) = true → u.1 = upd f sz q ∧ u.2 = sz + 1) ∧ (decide (si_ch q ∧ sz < cap) = false → u.1 = f ∧ u.2 = sz)) (fun u => [(h0, .inr (2, [.ref a0, .int (nI u.2)])), (a0, .inl (g.2.1, cap, .inl u.1))]) := by
  refine si_Mi.of (cc := zkL_add) (maxL := 2) (by decide) rfl (Nat.le_of_ble_eq_true rfl) ?_
  intro p e s m args below meth c A Q ls hF0 hin hK hN hP hD hA hS hl hret
  obtain ⟨hx, hb, hml, hown, hts0⟩ := hF0
  have hts : ∀ w ∈ si_tbl, w.before args s = true := fun w hw => hts0 w (List.mem_cons_of_mem _ hw)
  have hF : CallFix p m c zkL_add 2 s args si_tbl zRL := ⟨hx, hb, hml, hown, hts⟩
  have hl : lv_has ls 2 [(0, .ref h0), (1, .int q)] := hl
  refine lv_iload_n hx hb zdL_add_0 rfl (lv_at hl 1 rfl) ?_
  refine lv_bipush (v := nI 32) hx hb zdL_add_1 (by decide) ?_
  refine lv_icmp_lt (tgt := 24) hx hb zdL_add_3 rfl (fun h3 => ?_) (fun h3 => ?_)
  · have hdc : decide (si_ch q ∧ sz < cap) = false := decide_eq_false (fun z => z.1.1 h3)
    refine lv_iconst (v := nI 0) hx hb zdL_add_24 (by decide) ?_
    exact hret (nI 0) (f, sz) _ _ _ _ (rfl) (by rw [hdc]; exact ⟨rfl, fun z => absurd z (by decide), fun _ => ⟨rfl, rfl⟩⟩) (hP.sub [0, 1] rfl) (hD.sub [0, 1] (by decide) rfl) hS zdL_add_25
  · refine lv_iload_n hx hb zdL_add_6 rfl (lv_at hl 1 rfl) ?_
    refine lv_bipush (v := nI 126) hx hb zdL_add_7 (by decide) ?_
    refine lv_icmp_gt (tgt := 24) hx hb zdL_add_9 rfl (fun h9 => ?_) (fun h9 => ?_)
    · have hdc : decide (si_ch q ∧ sz < cap) = false := decide_eq_false (fun z => z.1.2 h9)
      refine lv_iconst (v := nI 0) hx hb zdL_add_24 (by decide) ?_
      exact hret (nI 0) (f, sz) _ _ _ _ (rfl) (by rw [hdc]; exact ⟨rfl, fun z => absurd z (by decide), fun _ => ⟨rfl, rfl⟩⟩) (hP.sub [0, 1] rfl) (hD.sub [0, 1] (by decide) rfl) hS zdL_add_25
    · refine lv_aload_n hx hb zdL_add_12 rfl (lv_at hl 0 rfl) ?_
      refine va_get (D := g.1) (ci := 2) (v := .int (nI sz)) (C := zRL) (T := zTL) (N := 2) hx hb hts ziL hown hK hP 0 rfl rfl 1 (by decide) (hts _ zlL_15) (fun _ h => h) rfl zdL_add_13 ?_
      refine lv_aload_n hx hb zdL_add_16 rfl (lv_at hl 0 rfl) ?_
      refine va_get (D := g.1) (ci := 2) (v := .ref a0) (C := zRL) (T := zTL) (N := 2) hx hb hts ziL hown hK hP 0 rfl rfl 0 (by decide) (hts _ zlL_9) (fun _ h => h) rfl zdL_add_17 ?_
      refine va_alen (v := nI cap) hx hb hK hP 1 0 rfl rfl rfl zdL_add_20 ?_
      refine si_icmp_lt (tgt := 26) hx hb zdL_add_21 rfl (by omega) (by omega) (fun h21 => ?_) (fun h21 => ?_)
      · have hdc : decide (si_ch q ∧ sz < cap) = true := decide_eq_true ⟨⟨h3, h9⟩, h21⟩
        refine lv_aload_n hx hb zdL_add_26 rfl (lv_at hl 0 rfl) ?_
        refine va_get (D := g.1) (ci := 2) (v := .ref a0) (C := zRL) (T := zTL) (N := 2) hx hb hts ziL hown hK hP 0 rfl rfl 0 (by decide) (hts _ zlL_9) (fun _ h => h) rfl zdL_add_27 ?_
        refine lv_aload_n hx hb zdL_add_30 rfl (lv_at hl 0 rfl) ?_
        refine va_get (D := g.1) (ci := 2) (v := .int (nI sz)) (C := zRL) (T := zTL) (N := 2) hx hb hts ziL hown hK hP 0 rfl rfl 1 (by decide) (hts _ zlL_15) (fun _ h => h) rfl zdL_add_31 ?_
        refine lv_iload_n hx hb zdL_add_34 rfl (lv_at hl 1 rfl) ?_
        refine si_iast hx hb hK hP hD hS 1 0 rfl rfl (by omega) (by omega) zdL_add_35 (fun H locs hP hD hS => ?_)
        have hP : va_P g.1 vwCl [(h0, .inr (2, [.ref a0, .int (nI sz)])), (a0, .inl (g.2.1, cap, .inl (upd f sz q)))] H := hP
        have hD : va_D A [(h0, .inr (2, [.ref a0, .int (nI sz)])), (a0, .inl (g.2.1, cap, .inl (upd f sz q)))] := hD
        refine lv_aload_n hx hb zdL_add_36 rfl (lv_at hl 0 rfl) ?_
        refine lv_dup hx hb zdL_add_37 rfl ?_
        refine va_get (D := g.1) (ci := 2) (v := .int (nI sz)) (C := zRL) (T := zTL) (N := 2) hx hb hts ziL hown hK hP 0 rfl rfl 1 (by decide) (hts _ zlL_15) (fun _ h => h) rfl zdL_add_38 ?_
        refine lv_iconst (v := nI 1) hx hb zdL_add_41 (by decide) ?_
        refine si_iadd (v := nI (sz + 1)) hx hb zdL_add_42 (nI_add _ _) ?_
        refine va_put (D := g.1) (ci := 2) (v := .int (nI (sz + 1))) (ty := .int) (C := zRL) (T := zTL) (N := 2) hx hb hts ziL ztL ztoL znL hown hK hP hD hS 0 rfl rfl 1 (by decide) (hts _ zlL_15) (fun _ h => h) rfl (by decide +kernel) rfl rfl (Nat.le_of_ble_eq_true rfl) zdL_add_43 (fun H locs hP hD hS => ?_)
        have hP : va_P g.1 vwCl [(h0, .inr (2, [.ref a0, .int (nI (sz + 1))])), (a0, .inl (g.2.1, cap, .inl (upd f sz q)))] H := hP
        have hD : va_D A [(h0, .inr (2, [.ref a0, .int (nI (sz + 1))])), (a0, .inl (g.2.1, cap, .inl (upd f sz q)))] := hD
        refine lv_iconst (v := nI 1) hx hb zdL_add_46 (by decide) ?_
        exact hret (nI 1) (upd f sz q, sz + 1) _ _ _ _ (rfl) (by rw [hdc]; exact ⟨rfl, fun _ => ⟨rfl, rfl⟩, fun z => absurd z (by decide)⟩) (hP.sub [0, 1] rfl) (hD.sub [0, 1] (by decide) rfl) hS zdL_add_47
      · have hdc : decide (si_ch q ∧ sz < cap) = false := decide_eq_false (fun z => by have := z.2; omega)
        refine lv_iconst (v := nI 0) hx hb zdL_add_24 (by decide) ?_
        exact hret (nI 0) (f, sz) _ _ _ _ (rfl) (by rw [hdc]; exact ⟨rfl, fun z => absurd z (by decide), fun _ => ⟨rfl, rfl⟩⟩) (hP.sub [0, 1] rfl) (hD.sub [0, 1] (by decide) rfl) hS zdL_add_25

set_option maxHeartbeats 4000000 in
set_option maxRecDepth 100000 in
/-- dropLast -/
theorem cL_dropLast (l : Launch) (g : si_G) (h0 a0 cap sz : Nat) (f : Nat → Int32) (hcap : cap < 2 ^ 31) (hsz : sz ≤ cap) : si_Mi (S := Nat) l g vwCl zyL_dropLast zwL_dropLast ({ frames := 0, cells := 0, slots := 0, locals := 0 } : Room) [.ref h0] [(h0, .inr (2, [.ref a0, .int (nI sz)])), (a0, .inl (g.2.1, cap, .inl f))] (fun r u => (r = nI 1 ∧ sz ≠ 0 ∧ u = sz - 1) ∨ (r = nI 0 ∧ sz = 0 ∧ u = 0)) (fun u => [(h0, .inr (2, [.ref a0, .int (nI u)])), (a0, .inl (g.2.1, cap, .inl f))]) := by
  refine si_Mi.of (cc := zkL_dropLast) (maxL := 1) (by decide) rfl (Nat.le_of_ble_eq_true rfl) ?_
  intro p e s m args below meth c A Q ls hF0 hin hK hN hP hD hA hS hl hret
  obtain ⟨hx, hb, hml, hown, hts0⟩ := hF0
  have hts : ∀ w ∈ si_tbl, w.before args s = true := fun w hw => hts0 w (List.mem_cons_of_mem _ hw)
  have hF : CallFix p m c zkL_dropLast 1 s args si_tbl zRL := ⟨hx, hb, hml, hown, hts⟩
  have hl : lv_has ls 1 [(0, .ref h0)] := hl
  refine lv_aload_n hx hb zdL_dropLast_0 rfl (lv_at hl 0 rfl) ?_
  refine va_get (D := g.1) (ci := 2) (v := .int (nI sz)) (C := zRL) (T := zTL) (N := 2) hx hb hts ziL hown hK hP 0 rfl rfl 1 (by decide) (hts _ zlL_15) (fun _ h => h) rfl zdL_dropLast_1 ?_
  refine si_if_ne (tgt := 9) hx hb zdL_dropLast_4 rfl (by omega) (fun h4 => ?_) (fun h4 => ?_)
  · refine lv_aload_n hx hb zdL_dropLast_9 rfl (lv_at hl 0 rfl) ?_
    refine lv_dup hx hb zdL_dropLast_10 rfl ?_
    refine va_get (D := g.1) (ci := 2) (v := .int (nI sz)) (C := zRL) (T := zTL) (N := 2) hx hb hts ziL hown hK hP 0 rfl rfl 1 (by decide) (hts _ zlL_15) (fun _ h => h) rfl zdL_dropLast_11 ?_
    refine lv_iconst (v := nI 1) hx hb zdL_dropLast_14 (by decide) ?_
    refine si_isub (v := nI (sz - 1)) hx hb zdL_dropLast_15 (pk_sub (by omega)) ?_
    refine va_put (D := g.1) (ci := 2) (v := .int (nI (sz - 1))) (ty := .int) (C := zRL) (T := zTL) (N := 2) hx hb hts ziL ztL ztoL znL hown hK hP hD hS 0 rfl rfl 1 (by decide) (hts _ zlL_15) (fun _ h => h) rfl (by decide +kernel) rfl rfl (Nat.le_of_ble_eq_true rfl) zdL_dropLast_16 (fun H locs hP hD hS => ?_)
    have hP : va_P g.1 vwCl [(h0, .inr (2, [.ref a0, .int (nI (sz - 1))])), (a0, .inl (g.2.1, cap, .inl f))] H := hP
    have hD : va_D A [(h0, .inr (2, [.ref a0, .int (nI (sz - 1))])), (a0, .inl (g.2.1, cap, .inl f))] := hD
    refine lv_iconst (v := nI 1) hx hb zdL_dropLast_19 (by decide) ?_
    exact hret (nI 1) (sz - 1) _ _ _ _ (rfl) (Or.inl ⟨rfl, h4, rfl⟩) (hP.sub [0, 1] rfl) (hD.sub [0, 1] (by decide) rfl) hS zdL_dropLast_20
  · subst h4
    refine lv_iconst (v := nI 0) hx hb zdL_dropLast_7 (by decide) ?_
    exact hret (nI 0) 0 _ _ _ _ (rfl) (Or.inr ⟨rfl, rfl, rfl⟩) (hP.sub [0, 1] rfl) (hD.sub [0, 1] (by decide) rfl) hS zdL_dropLast_8

set_option maxHeartbeats 4000000 in
set_option maxRecDepth 100000 in
/-- clear -/
theorem cL_clear (l : Launch) (g : si_G) (h0 a0 cap : Nat) (f : Nat → Int32) (x : Int32)  : si_Mv (S := Unit) l g vwCl zyL_clear zwL_clear ({ frames := 0, cells := 0, slots := 0, locals := 0 } : Room) [.ref h0] [(h0, .inr (2, [.ref a0, .int x])), (a0, .inl (g.2.1, cap, .inl f))] (fun u => True) (fun u => [(h0, .inr (2, [.ref a0, .int (nI 0)])), (a0, .inl (g.2.1, cap, .inl f))]) := by
  refine si_Mv.of (cc := zkL_clear) (maxL := 1) (by decide) rfl (Nat.le_of_ble_eq_true rfl) ?_
  intro p e s m args below meth c A Q ls hF0 hin hK hN hP hD hA hS hl hret
  obtain ⟨hx, hb, hml, hown, hts0⟩ := hF0
  have hts : ∀ w ∈ si_tbl, w.before args s = true := fun w hw => hts0 w (List.mem_cons_of_mem _ hw)
  have hF : CallFix p m c zkL_clear 1 s args si_tbl zRL := ⟨hx, hb, hml, hown, hts⟩
  have hl : lv_has ls 1 [(0, .ref h0)] := hl
  refine lv_aload_n hx hb zdL_clear_0 rfl (lv_at hl 0 rfl) ?_
  refine lv_iconst (v := nI 0) hx hb zdL_clear_1 (by decide) ?_
  refine va_put (D := g.1) (ci := 2) (v := .int (nI 0)) (ty := .int) (C := zRL) (T := zTL) (N := 2) hx hb hts ziL ztL ztoL znL hown hK hP hD hS 0 rfl rfl 1 (by decide) (hts _ zlL_15) (fun _ h => h) rfl (by decide +kernel) rfl rfl (Nat.le_of_ble_eq_true rfl) zdL_clear_2 (fun H locs hP hD hS => ?_)
  have hP : va_P g.1 vwCl [(h0, .inr (2, [.ref a0, .int (nI 0)])), (a0, .inl (g.2.1, cap, .inl f))] H := hP
  have hD : va_D A [(h0, .inr (2, [.ref a0, .int (nI 0)])), (a0, .inl (g.2.1, cap, .inl f))] := hD
  exact hret () _ _ _ _ (trivial) (hP.sub [0, 1] rfl) (hD.sub [0, 1] (by decide) rfl) hS zdL_clear_5

set_option maxHeartbeats 4000000 in
set_option maxRecDepth 100000 in
/-- hasAt -/
theorem cL_hasAt (l : Launch) (g : si_G) (h0 a0 cap h1 a1 cap1 : Nat) (f f1 : Nat → Int32) (t b : List Nat) (k : Nat) (hcap : cap < 2 ^ 20) (hcap1 : cap1 < 2 ^ 20) (ht : t.length ≤ cap) (hb1 : b.length ≤ cap1) (hf : si_ln t f) (hf1 : si_ln b f1) (hval : ∀ z ∈ b, 32 ≤ z ∧ z ≤ 126) (htv : ∀ z ∈ t, 32 ≤ z ∧ z ≤ 126) (hk : k ≤ t.length) : si_Mi (S := Unit) l g vwCl zyL_hasAt zwL_hasAt ({ frames := 1, cells := 0, slots := 0, locals := 21 } : Room) [.ref h0, .ref h1, .int (nI k)] [(h0, .inr (2, [.ref a0, .int (nI t.length)])), (a0, .inl (g.2.1, cap, .inl f)), (h1, .inr (2, [.ref a1, .int (nI b.length)])), (a1, .inl (g.2.1, cap1, .inl f1))] (fun r u => r = nI (si_oc t b k).toNat) (fun u => [(h0, .inr (2, [.ref a0, .int (nI t.length)])), (a0, .inl (g.2.1, cap, .inl f)), (h1, .inr (2, [.ref a1, .int (nI b.length)])), (a1, .inl (g.2.1, cap1, .inl f1))]) := by
  refine si_Mi.of (cc := zkL_hasAt) (maxL := 4) (by decide) rfl (Nat.le_of_ble_eq_true rfl) ?_
  intro p e s m args below meth c A Q ls hF0 hin hK hN hP hD hA hS hl hret
  obtain ⟨hx, hb, hml, hown, hts0⟩ := hF0
  have hts : ∀ w ∈ si_tbl, w.before args s = true := fun w hw => hts0 w (List.mem_cons_of_mem _ hw)
  have hF : CallFix p m c zkL_hasAt 4 s args si_tbl zRL := ⟨hx, hb, hml, hown, hts⟩
  have hl : lv_has ls 4 [(0, .ref h0), (1, .ref h1), (2, .int (nI k))] := hl
  refine lv_iconst (v := nI 0) hx hb zdL_hasAt_0 (by decide) ?_
  refine lv_istore_n (lv' := [(3, .int (nI 0)), (0, .ref h0), (1, .ref h1), (2, .int (nI k))]) hx hb zdL_hasAt_1 rfl hl (Nat.le_of_ble_eq_true rfl) rfl (fun ls hl => ?_)
  have L2 : ∀ (N : Nat) (i : Nat) (H : Heap) (locs : List Loc) (ls : Array Slot), b.length - i < N → (i ≤ b.length) → (∀ j, j < i → si_g t (k + j) = si_g b j) → lv_has ls 4 [(0, .ref h0), (1, .ref h1), (2, .int (nI k)), (3, .int (nI i))] → va_P g.1 vwCl [(h0, .inr (2, [.ref a0, .int (nI t.length)])), (a0, .inl (g.2.1, cap, .inl f)), (h1, .inr (2, [.ref a1, .int (nI b.length)])), (a1, .inl (g.2.1, cap1, .inl f1))] H → va_D A [(h0, .inr (2, [.ref a0, .int (nI t.length)])), (a0, .inl (g.2.1, cap, .inl f)), (h1, .inr (2, [.ref a1, .int (nI b.length)])), (a1, .inl (g.2.1, cap1, .inl f1))] → va_S A s.heap H locs → W p l e ({ frames := 1, cells := 0, slots := 0, locals := 21 } : Room) s m args below meth c H locs 0 0 Q (F0 m 2 ls []) := by
    intro N
    induction N with
    | zero => intro i H locs ls hMs; exact absurd hMs (Nat.not_lt_zero _)
    | succ N ih2 =>
      intro i H locs ls hMs hi hall hl hP hD hS
      refine lv_iload_n hx hb zdL_hasAt_2 rfl (lv_at hl 3 rfl) ?_
      refine lv_aload_n hx hb zdL_hasAt_3 rfl (lv_at hl 1 rfl) ?_
      refine va_get (D := g.1) (ci := 2) (v := .int (nI b.length)) (C := zRL) (T := zTL) (N := 2) hx hb hts ziL hown hK hP 2 rfl rfl 1 (by decide) (hts _ zlL_15) (fun _ h => h) rfl zdL_hasAt_4 ?_
      refine si_icmp_ge (tgt := 33) hx hb zdL_hasAt_7 rfl (by omega) (by omega) (fun h7 => ?_) (fun h7 => ?_)
      · have hoc : si_oc t b k = true := (si_oc_iff2 hval hk).mpr (fun j hj => hall j (by omega))
        refine lv_iconst (v := nI 1) hx hb zdL_hasAt_33 (by decide) ?_
        exact hret (nI 1) () _ _ _ _ (rfl) (by rw [hoc]; rfl) (hP.sub [0, 1, 2, 3] rfl) (hD.sub [0, 1, 2, 3] (by decide) rfl) hS zdL_hasAt_34
      · refine lv_aload_n hx hb zdL_hasAt_10 rfl (lv_at hl 0 rfl) ?_
        refine lv_iload_n hx hb zdL_hasAt_11 rfl (lv_at hl 2 rfl) ?_
        refine lv_iload_n hx hb zdL_hasAt_12 rfl (lv_at hl 3 rfl) ?_
        refine si_iadd (v := nI (k + i)) hx hb zdL_hasAt_13 (nI_add _ _) ?_
        refine (cL_codeAt l g h0 a0 cap t.length f (nI (k + i)) (nI (si_g t (k + i))) (by omega) (by omega) (si_ca_n hf (by omega) (by omega))).callV (wr := [(h1, .inr (2, [.ref a1, .int (nI b.length)])), (a1, .inl (g.2.1, cap1, .inl f1))]) (As := [.int (nI (k + i))]) (rest := []) hF (si_cV 1 hts zcL_codeAt zlL_19 zimL_codeAt zseL_codeAt ziniL zhL_codeAt ⟨Nat.le_of_ble_eq_true rfl, Nat.le_of_ble_eq_true rfl⟩) hK hN hP hD hS hA [0, 1] [2, 3] rfl rfl (by decide) (by decide) (va_recv (q := (zRL, zTL, 2)) hK hP (ci := 2) (q0 := 0) rfl rfl) rfl hl.1 rfl (Nat.le_of_ble_eq_true rfl) zdL_hasAt_14 ⟨Nat.le_of_ble_eq_true rfl, Nat.le_of_ble_eq_true rfl⟩ rfl rfl (fun r_ _u H locs hq hP hD hS => ?_)
        subst hq
        have hP : va_P g.1 vwCl [(h1, .inr (2, [.ref a1, .int (nI b.length)])), (a1, .inl (g.2.1, cap1, .inl f1)), (h0, .inr (2, [.ref a0, .int (nI t.length)])), (a0, .inl (g.2.1, cap, .inl f))] H := hP
        have hD : va_D A [(h1, .inr (2, [.ref a1, .int (nI b.length)])), (a1, .inl (g.2.1, cap1, .inl f1)), (h0, .inr (2, [.ref a0, .int (nI t.length)])), (a0, .inl (g.2.1, cap, .inl f))] := hD
        refine lv_aload_n hx hb zdL_hasAt_17 rfl (lv_at hl 1 rfl) ?_
        refine lv_iload_n hx hb zdL_hasAt_18 rfl (lv_at hl 3 rfl) ?_
        refine (cL_codeAt l g h1 a1 cap1 b.length f1 (nI i) (nI (si_g b i)) (by omega) (by omega) (si_ca_n hf1 (by omega) (by omega))).callV (wr := [(h0, .inr (2, [.ref a0, .int (nI t.length)])), (a0, .inl (g.2.1, cap, .inl f))]) (As := [.int (nI i)]) (rest := [.int (nI (si_g t (k + i)))]) hF (si_cV 1 hts zcL_codeAt zlL_19 zimL_codeAt zseL_codeAt ziniL zhL_codeAt ⟨Nat.le_of_ble_eq_true rfl, Nat.le_of_ble_eq_true rfl⟩) hK hN hP hD hS hA [0, 1] [2, 3] rfl rfl (by decide) (by decide) (va_recv (q := (zRL, zTL, 2)) hK hP (ci := 2) (q0 := 0) rfl rfl) rfl hl.1 rfl (Nat.le_of_ble_eq_true rfl) zdL_hasAt_19 ⟨Nat.le_of_ble_eq_true rfl, Nat.le_of_ble_eq_true rfl⟩ rfl rfl (fun r_ _u H locs hq hP hD hS => ?_)
        subst hq
        have hP : va_P g.1 vwCl [(h0, .inr (2, [.ref a0, .int (nI t.length)])), (a0, .inl (g.2.1, cap, .inl f)), (h1, .inr (2, [.ref a1, .int (nI b.length)])), (a1, .inl (g.2.1, cap1, .inl f1))] H := hP
        have hD : va_D A [(h0, .inr (2, [.ref a0, .int (nI t.length)])), (a0, .inl (g.2.1, cap, .inl f)), (h1, .inr (2, [.ref a1, .int (nI b.length)])), (a1, .inl (g.2.1, cap1, .inl f1))] := hD
        refine si_icmp_eq (tgt := 27) hx hb zdL_hasAt_22 rfl (si_g_lt ‹_›) (si_g_lt ‹_›) (fun h22 => ?_) (fun h22 => ?_)
        · refine lv_iinc (k := 3) (v := nI (i + 1)) (lv' := [(3, .int (nI (i + 1))), (0, .ref h0), (1, .ref h1), (2, .int (nI k))]) hx hb zdL_hasAt_27 hl rfl (si_inc _) (Nat.le_of_ble_eq_true rfl) rfl (fun ls hl => ?_)
          refine lv_goto (tgt := 2) hx hb zdL_hasAt_30 rfl ?_
          exact ih2 (i + 1) _ _ _ (by omega) (by omega) (lt_s hall h22) (lv_sub hl [1, 2, 3, 0] rfl) (hP.sub [0, 1, 2, 3] rfl) (hD.sub [0, 1, 2, 3] (by decide) rfl) hS
        · have hoc : si_oc t b k = false := si_nt (fun z => h22 ((si_oc_iff2 hval hk).mp z i (by omega)))
          refine lv_iconst (v := nI 0) hx hb zdL_hasAt_25 (by decide) ?_
          exact hret (nI 0) () _ _ _ _ (rfl) (by rw [hoc]; rfl) (hP.sub [0, 1, 2, 3] rfl) (hD.sub [0, 1, 2, 3] (by decide) rfl) hS zdL_hasAt_26
  exact L2 (b.length - 0 + 1) 0 _ _ _ (by omega) (by omega) (fun j hj => absurd hj (Nat.not_lt_zero _)) (lv_sub hl [1, 2, 3, 0] rfl) (hP.sub [0, 1, 2, 3] rfl) (hD.sub [0, 1, 2, 3] (by decide) rfl) hS
end
section
/-! Contracts of the Suffixes. Written by wip/draft/p16.py -/
theorem si_sm_eq {t : List Nat} {q k : Nat} (hq : q < t.length) (hp : k < t.length) (he : si_g t q = si_g t k) : si_sf t q k = si_sf t (q + 1) (k + 1) := by
  rw [si_sf_s hq hp, he]
  simp
theorem si_sm_lt {t : List Nat} {q k : Nat} (hq : q ≤ t.length) (hp : k < t.length) (h : si_g t q < si_g t k) : si_sf t q k = true := by
  by_cases e : q = t.length
  · subst e; exact si_sf_e hp
  · rw [si_sf_s (by omega) hp]
    simp [h]
theorem si_sm_gt {t : List Nat} {q k : Nat} (hq : q ≤ t.length) (hp : k < t.length) (h : si_g t k < si_g t q) : si_sf t q k = false := by
  by_cases e : q = t.length
  · rw [e, si_g_out (Nat.le_refl _)] at h
    omega
  · rw [si_sf_s (by omega) hp]
    have h1 : ¬ si_g t q < si_g t k := by omega
    have h2 : ¬ si_g t q = si_g t k := by omega
    simp [h1, h2]
theorem si_cnA {n lo : Nat} {F : Nat → Bool} (h : lo ≤ n) (hF : F n = true) : si_cn (n + 1) (fun x => decide (lo ≤ x) && F x) = si_cn n (fun x => decide (lo ≤ x) && F x) + 1 := si_cn_t (by rw [hF, Bool.and_true]; exact decide_eq_true h)
theorem si_cnB {n lo : Nat} {F : Nat → Bool} (hF : F n = false) : si_cn (n + 1) (fun x => decide (lo ≤ x) && F x) = si_cn n (fun x => decide (lo ≤ x) && F x) := si_cn_f (by rw [hF, Bool.and_false])
theorem si_cnC {n : Nat} {F : Nat → Bool} : si_cn n (fun x => decide (n ≤ x) && F x) = 0 := si_cn_0 (fun x hx => by
  have : decide (n ≤ x) = false := decide_eq_false (by omega)
  rw [this, Bool.false_and])
theorem si_insA {t : List Nat} {kp q row : Nat} {f : Nat → Int32} (hrow : row = si_rr t (kp + 1) kp) (hq : kp + 1 ≤ q) (hn : q ≤ t.length) (hA : ∀ x, kp + 1 ≤ x → x < q → f x = nI (si_rr t kp x)) (hB : f q = nI (si_rr t (kp + 1) q)) (h : si_rr t (kp + 1) q < row) : ∀ x, kp + 1 ≤ x → x < q + 1 → f x = nI (si_rr t kp x) := by
  intro x h1 h2
  by_cases e : x = q
  · subst e
    rw [hB, si_rr_in (p := kp) (q := x) (by omega) hn, if_neg (by omega)]
    rfl
  · exact hA x h1 (by omega)
theorem si_insB {t : List Nat} {kp q row : Nat} {f : Nat → Int32} (hrow : row = si_rr t (kp + 1) kp) (hq : kp + 1 ≤ q) (hn : q ≤ t.length) (hA : ∀ x, kp + 1 ≤ x → x < q → f x = nI (si_rr t kp x)) (h : row ≤ si_rr t (kp + 1) q) : ∀ x, kp + 1 ≤ x → x < q + 1 → upd f q (nI (si_rr t (kp + 1) q + 1)) x = nI (si_rr t kp x) := by
  intro x h1 h2
  by_cases e : x = q
  · subst e
    rw [pk_us, si_rr_in (p := kp) (q := x) (by omega) hn, if_pos (by omega)]
  · rw [pk_un e]; exact hA x h1 (by omega)
theorem si_insC {t : List Nat} {kp row : Nat} {f : Nat → Int32} (hrow : row = si_rr t (kp + 1) kp) (hk : kp ≤ t.length) (hA : ∀ x, kp + 1 ≤ x → x ≤ t.length → f x = nI (si_rr t kp x)) : ∀ x, kp ≤ x → x ≤ t.length → upd f kp (nI row) x = nI (si_rr t kp x) := by
  intro x h1 h2
  by_cases e : x = kp
  · subst e
    rw [pk_us, hrow, si_rr_self hk]
  · rw [pk_un e]; exact hA x (by omega) h2
theorem si_plU {t : List Nat} {k : Nat} {f : Nat → Int32} (hk : k ≤ t.length) (h : ∀ x, x < k → f (si_rk t x) = nI x) : ∀ x, x < k + 1 → upd f (si_rk t k) (nI k) (si_rk t x) = nI x := by
  intro x hx
  by_cases e : x = k
  · subst e; rw [pk_us]
  · rw [pk_un (fun z => e (si_rk_inj (by omega) hk z))]
    exact h x (by omega)
set_option maxHeartbeats 4000000 in
set_option maxRecDepth 100000 in
/-- isSmaller -/
theorem cS_isSmaller (l : Launch) (g : si_G) (h0 a2 a3 : Nat) (fr fp : Nat → Int32) (last : Int32) (h1 a1 cap : Nat) (f : Nat → Int32) (t : List Nat) (kq kp : Nat) (hcap : cap < 2 ^ 20) (htc : t.length ≤ cap) (hok : si_ok t) (hf : si_ln t f) (hpq : kp < kq) (hqn : kq ≤ t.length) (hR : ∀ x, kp + 1 ≤ x → x ≤ t.length → fr x = nI (si_rr t (kp + 1) x)) : si_Mi (S := Unit) l g vwCl zyS_isSmaller zwS_isSmaller ({ frames := 1, cells := 0, slots := 0, locals := 21 } : Room) [.ref h0, .ref h1, .int (nI kq), .int (nI kp)] [(h0, .inr (4, [.ref a2, .ref a3, .int last])), (a2, .inl (g.2.1, 61, .inl fr)), (a3, .inl (g.2.1, 61, .inl fp)), (h1, .inr (2, [.ref a1, .int (nI t.length)])), (a1, .inl (g.2.1, cap, .inl f))] (fun r u => r = nI (si_sf t kq kp).toNat) (fun u => [(h0, .inr (4, [.ref a2, .ref a3, .int last])), (a2, .inl (g.2.1, 61, .inl fr)), (a3, .inl (g.2.1, 61, .inl fp)), (h1, .inr (2, [.ref a1, .int (nI t.length)])), (a1, .inl (g.2.1, cap, .inl f))]) := by
  refine si_Mi.of (cc := zkS_isSmaller) (maxL := 6) (by decide) rfl (Nat.le_of_ble_eq_true rfl) ?_
  intro p e s m args below meth c A Q ls hF0 hin hK hN hP hD hA hS hl hret
  obtain ⟨hx, hb, hml, hown, hts0⟩ := hF0
  have hts : ∀ w ∈ si_tbl, w.before args s = true := fun w hw => hts0 w (List.mem_cons_of_mem _ hw)
  have hF : CallFix p m c zkS_isSmaller 6 s args si_tbl zRS := ⟨hx, hb, hml, hown, hts⟩
  have hl : lv_has ls 6 [(0, .ref h0), (1, .ref h1), (2, .int (nI kq)), (3, .int (nI kp))] := hl
  have hn := hok.1
  refine lv_aload_n hx hb zdS_isSmaller_0 rfl (lv_at hl 1 rfl) ?_
  refine lv_iload_n hx hb zdS_isSmaller_1 rfl (lv_at hl 2 rfl) ?_
  refine (cL_codeAt l g h1 a1 cap t.length f (nI kq) (nI (si_g t kq)) (by omega) (by omega) (si_ca_n hf (by omega) (by omega))).callV (wr := [(h0, .inr (4, [.ref a2, .ref a3, .int last])), (a2, .inl (g.2.1, 61, .inl fr)), (a3, .inl (g.2.1, 61, .inl fp))]) (As := [.int (nI kq)]) (rest := []) hF (si_cV 1 hts zcL_codeAt zlS_35 zimL_codeAt zseL_codeAt ziniL zhL_codeAt ⟨Nat.le_of_ble_eq_true rfl, Nat.le_of_ble_eq_true rfl⟩) hK hN hP hD hS hA [3, 4] [0, 1, 2] rfl rfl (by decide) (by decide) (va_recv (q := (zRL, zTL, 2)) hK hP (ci := 2) (q0 := 3) rfl rfl) rfl hl.1 rfl (Nat.le_of_ble_eq_true rfl) zdS_isSmaller_2 ⟨Nat.le_of_ble_eq_true rfl, Nat.le_of_ble_eq_true rfl⟩ rfl rfl (fun r_ _u H locs hq hP hD hS => ?_)
  subst hq
  have hP : va_P g.1 vwCl [(h0, .inr (4, [.ref a2, .ref a3, .int last])), (a2, .inl (g.2.1, 61, .inl fr)), (a3, .inl (g.2.1, 61, .inl fp)), (h1, .inr (2, [.ref a1, .int (nI t.length)])), (a1, .inl (g.2.1, cap, .inl f))] H := hP
  have hD : va_D A [(h0, .inr (4, [.ref a2, .ref a3, .int last])), (a2, .inl (g.2.1, 61, .inl fr)), (a3, .inl (g.2.1, 61, .inl fp)), (h1, .inr (2, [.ref a1, .int (nI t.length)])), (a1, .inl (g.2.1, cap, .inl f))] := hD
  refine lv_istore (lv' := [(4, .int (nI (si_g t kq))), (0, .ref h0), (1, .ref h1), (2, .int (nI kq)), (3, .int (nI kp))]) hx hb zdS_isSmaller_5 hl (Nat.le_of_ble_eq_true rfl) rfl (fun ls hl => ?_)
  refine lv_aload_n hx hb zdS_isSmaller_7 rfl (lv_at hl 2 rfl) ?_
  refine lv_iload_n hx hb zdS_isSmaller_8 rfl (lv_at hl 4 rfl) ?_
  refine (cL_codeAt l g h1 a1 cap t.length f (nI kp) (nI (si_g t kp)) (by omega) (by omega) (si_ca_n hf (by omega) (by omega))).callV (wr := [(h0, .inr (4, [.ref a2, .ref a3, .int last])), (a2, .inl (g.2.1, 61, .inl fr)), (a3, .inl (g.2.1, 61, .inl fp))]) (As := [.int (nI kp)]) (rest := []) hF (si_cV 1 hts zcL_codeAt zlS_35 zimL_codeAt zseL_codeAt ziniL zhL_codeAt ⟨Nat.le_of_ble_eq_true rfl, Nat.le_of_ble_eq_true rfl⟩) hK hN hP hD hS hA [3, 4] [0, 1, 2] rfl rfl (by decide) (by decide) (va_recv (q := (zRL, zTL, 2)) hK hP (ci := 2) (q0 := 3) rfl rfl) rfl hl.1 rfl (Nat.le_of_ble_eq_true rfl) zdS_isSmaller_9 ⟨Nat.le_of_ble_eq_true rfl, Nat.le_of_ble_eq_true rfl⟩ rfl rfl (fun r_ _u H locs hq hP hD hS => ?_)
  subst hq
  have hP : va_P g.1 vwCl [(h0, .inr (4, [.ref a2, .ref a3, .int last])), (a2, .inl (g.2.1, 61, .inl fr)), (a3, .inl (g.2.1, 61, .inl fp)), (h1, .inr (2, [.ref a1, .int (nI t.length)])), (a1, .inl (g.2.1, cap, .inl f))] H := hP
  have hD : va_D A [(h0, .inr (4, [.ref a2, .ref a3, .int last])), (a2, .inl (g.2.1, 61, .inl fr)), (a3, .inl (g.2.1, 61, .inl fp)), (h1, .inr (2, [.ref a1, .int (nI t.length)])), (a1, .inl (g.2.1, cap, .inl f))] := hD
  refine lv_istore (lv' := [(5, .int (nI (si_g t kp))), (4, .int (nI (si_g t kq))), (0, .ref h0), (1, .ref h1), (2, .int (nI kq)), (3, .int (nI kp))]) hx hb zdS_isSmaller_12 hl (Nat.le_of_ble_eq_true rfl) rfl (fun ls hl => ?_)
  refine lv_iload hx hb zdS_isSmaller_14 (lv_at hl 1 rfl) ?_
  refine lv_iload hx hb zdS_isSmaller_16 (lv_at hl 0 rfl) ?_
  refine si_icmp_ne (tgt := 48) hx hb zdS_isSmaller_18 rfl (si_g_lt hok.2) (si_g_lt hok.2) (fun h18 => ?_) (fun h18 => ?_)
  · refine lv_iload hx hb zdS_isSmaller_48 (lv_at hl 1 rfl) ?_
    refine lv_iload hx hb zdS_isSmaller_50 (lv_at hl 0 rfl) ?_
    refine si_icmp_ge (tgt := 59) hx hb zdS_isSmaller_52 rfl (si_g_lt hok.2) (si_g_lt hok.2) (fun h52 => ?_) (fun h52 => ?_)
    · have hres : si_sf t kq kp = false := si_sm_gt hqn (by omega) (by omega)
      refine lv_iconst (v := nI 0) hx hb zdS_isSmaller_59 (by decide) ?_
      exact hret (nI 0) () _ _ _ _ (rfl) (by rw [hres]; rfl) (hP.sub [0, 1, 2, 3, 4] rfl) (hD.sub [0, 1, 2, 3, 4] (by decide) rfl) hS zdS_isSmaller_60
    · have hres : si_sf t kq kp = true := si_sm_lt hqn (by omega) h52
      refine lv_iconst (v := nI 1) hx hb zdS_isSmaller_55 (by decide) ?_
      refine lv_goto (tgt := 60) hx hb zdS_isSmaller_56 rfl ?_
      exact hret (nI 1) () _ _ _ _ (rfl) (by rw [hres]; rfl) (hP.sub [0, 1, 2, 3, 4] rfl) (hD.sub [0, 1, 2, 3, 4] (by decide) rfl) hS zdS_isSmaller_60
  · have hp32 := si_ok_at hok (show kp < t.length by omega)
    have hq1 : kq < t.length := by
      apply Classical.byContradiction
      intro z
      rw [si_g_out (by omega)] at h18
      omega
    have hse := si_sm_eq hq1 (by omega) h18
    have hb1 := si_rr_le t (kp + 1) (kq + 1) (by omega)
    have hb2 := si_rr_le t (kp + 1) (kp + 1) (by omega)
    have hiff := si_rr_iff (t := t) (lo := kp + 1) (q := kq + 1) (p := kp + 1) (by omega) (by omega) (by omega) (by omega)
    refine lv_aload_n hx hb zdS_isSmaller_21 rfl (lv_at hl 2 rfl) ?_
    refine va_get (D := g.1) (ci := 4) (v := .ref a2) (C := zRS) (T := zTS) (N := 3) hx hb hts ziS hown hK hP 0 rfl rfl 0 (by decide) (hts _ zlS_9) (fun _ h => h) rfl zdS_isSmaller_22 ?_
    refine lv_iload_n hx hb zdS_isSmaller_25 rfl (lv_at hl 4 rfl) ?_
    refine lv_iconst (v := nI 1) hx hb zdS_isSmaller_26 (by decide) ?_
    refine si_iadd (v := nI (kq + 1)) hx hb zdS_isSmaller_27 (nI_add _ _) ?_
    refine si_iald (v := nI (si_rr t (kp + 1) (kq + 1))) hx hb hK hP 1 0 rfl rfl (by decide) (by omega) (hR (kq + 1) (by omega) (by omega)) zdS_isSmaller_28 ?_
    refine lv_aload_n hx hb zdS_isSmaller_29 rfl (lv_at hl 2 rfl) ?_
    refine va_get (D := g.1) (ci := 4) (v := .ref a2) (C := zRS) (T := zTS) (N := 3) hx hb hts ziS hown hK hP 0 rfl rfl 0 (by decide) (hts _ zlS_9) (fun _ h => h) rfl zdS_isSmaller_30 ?_
    refine lv_iload_n hx hb zdS_isSmaller_33 rfl (lv_at hl 5 rfl) ?_
    refine lv_iconst (v := nI 1) hx hb zdS_isSmaller_34 (by decide) ?_
    refine si_iadd (v := nI (kp + 1)) hx hb zdS_isSmaller_35 (nI_add _ _) ?_
    refine si_iald (v := nI (si_rr t (kp + 1) (kp + 1))) hx hb hK hP 1 0 rfl rfl (by decide) (by omega) (hR (kp + 1) (by omega) (by omega)) zdS_isSmaller_36 ?_
    refine si_icmp_ge (tgt := 44) hx hb zdS_isSmaller_37 rfl (by omega) (by omega) (fun h37 => ?_) (fun h37 => ?_)
    · have hres : si_sf t kq kp = false := by rw [hse]; exact si_nt (fun z => by have := hiff.mpr z; omega)
      refine lv_iconst (v := nI 0) hx hb zdS_isSmaller_44 (by decide) ?_
      refine lv_goto (tgt := 60) hx hb zdS_isSmaller_45 rfl ?_
      exact hret (nI 0) () _ _ _ _ (rfl) (by rw [hres]; rfl) (hP.sub [0, 1, 2, 3, 4] rfl) (hD.sub [0, 1, 2, 3, 4] (by decide) rfl) hS zdS_isSmaller_60
    · have hres : si_sf t kq kp = true := by rw [hse]; exact hiff.mp h37
      refine lv_iconst (v := nI 1) hx hb zdS_isSmaller_40 (by decide) ?_
      refine lv_goto (tgt := 60) hx hb zdS_isSmaller_41 rfl ?_
      exact hret (nI 1) () _ _ _ _ (rfl) (by rw [hres]; rfl) (hP.sub [0, 1, 2, 3, 4] rfl) (hD.sub [0, 1, 2, 3, 4] (by decide) rfl) hS zdS_isSmaller_60

set_option maxHeartbeats 4000000 in
set_option maxRecDepth 100000 in
/-- insert -/
theorem cS_insert (l : Launch) (g : si_G) (h0 a2 a3 : Nat) (fr fp : Nat → Int32) (h1 a1 cap : Nat) (f : Nat → Int32) (t : List Nat) (kp : Nat) (hcap : cap < 2 ^ 20) (htc : t.length ≤ cap) (hok : si_ok t) (hf : si_ln t f) (hpn : kp ≤ t.length) (hR : ∀ x, kp + 1 ≤ x → x ≤ t.length → fr x = nI (si_rr t (kp + 1) x)) : si_Mv (S := Nat → Int32) l g vwCl zyS_insert zwS_insert ({ frames := 2, cells := 0, slots := 0, locals := 46 } : Room) [.ref h0, .ref h1, .int (nI kp)] [(h0, .inr (4, [.ref a2, .ref a3, .int (nI t.length)])), (a2, .inl (g.2.1, 61, .inl fr)), (a3, .inl (g.2.1, 61, .inl fp)), (h1, .inr (2, [.ref a1, .int (nI t.length)])), (a1, .inl (g.2.1, cap, .inl f))] (fun u => ∀ x, kp ≤ x → x ≤ t.length → u x = nI (si_rr t (kp) x)) (fun u => [(h0, .inr (4, [.ref a2, .ref a3, .int (nI t.length)])), (a2, .inl (g.2.1, 61, .inl u)), (a3, .inl (g.2.1, 61, .inl fp)), (h1, .inr (2, [.ref a1, .int (nI t.length)])), (a1, .inl (g.2.1, cap, .inl f))]) := by
  refine si_Mv.of (cc := zkS_insert) (maxL := 5) (by decide) rfl (Nat.le_of_ble_eq_true rfl) ?_
  intro p e s m args below meth c A Q ls hF0 hin hK hN hP hD hA hS hl hret
  obtain ⟨hx, hb, hml, hown, hts0⟩ := hF0
  have hts : ∀ w ∈ si_tbl, w.before args s = true := fun w hw => hts0 w (List.mem_cons_of_mem _ hw)
  have hF : CallFix p m c zkS_insert 5 s args si_tbl zRS := ⟨hx, hb, hml, hown, hts⟩
  have hl : lv_has ls 5 [(0, .ref h0), (1, .ref h1), (2, .int (nI kp))] := hl
  have hn := hok.1
  refine lv_iconst (v := nI 0) hx hb zdS_insert_0 (by decide) ?_
  refine lv_istore_n (lv' := [(3, .int (nI 0)), (0, .ref h0), (1, .ref h1), (2, .int (nI kp))]) hx hb zdS_insert_1 rfl hl (Nat.le_of_ble_eq_true rfl) rfl (fun ls hl => ?_)
  refine lv_iload_n hx hb zdS_insert_2 rfl (lv_at hl 3 rfl) ?_
  refine lv_iconst (v := nI 1) hx hb zdS_insert_3 (by decide) ?_
  refine si_iadd (v := nI (kp + 1)) hx hb zdS_insert_4 (nI_add _ _) ?_
  refine lv_istore (lv' := [(4, .int (nI (kp + 1))), (3, .int (nI 0)), (0, .ref h0), (1, .ref h1), (2, .int (nI kp))]) hx hb zdS_insert_5 hl (Nat.le_of_ble_eq_true rfl) rfl (fun ls hl => ?_)
  have L7 : ∀ (N : Nat) (q : Nat) (row : Nat) (H : Heap) (locs : List Loc) (ls : Array Slot), t.length + 1 - q < N → (kp + 1 ≤ q) → (q ≤ t.length + 1) → (row = si_cn q (fun x => decide (kp + 1 ≤ x) && si_sf t x kp)) → lv_has ls 5 [(0, .ref h0), (1, .ref h1), (2, .int (nI kp)), (3, .int (nI row)), (4, .int (nI q))] → va_P g.1 vwCl [(h0, .inr (4, [.ref a2, .ref a3, .int (nI t.length)])), (a2, .inl (g.2.1, 61, .inl fr)), (a3, .inl (g.2.1, 61, .inl fp)), (h1, .inr (2, [.ref a1, .int (nI t.length)])), (a1, .inl (g.2.1, cap, .inl f))] H → va_D A [(h0, .inr (4, [.ref a2, .ref a3, .int (nI t.length)])), (a2, .inl (g.2.1, 61, .inl fr)), (a3, .inl (g.2.1, 61, .inl fp)), (h1, .inr (2, [.ref a1, .int (nI t.length)])), (a1, .inl (g.2.1, cap, .inl f))] → va_S A s.heap H locs → W p l e ({ frames := 2, cells := 0, slots := 0, locals := 46 } : Room) s m args below meth c H locs 0 0 Q (F0 m 7 ls []) := by
    intro N
    induction N with
    | zero => intro q row H locs ls hMs; exact absurd hMs (Nat.not_lt_zero _)
    | succ N ih7 =>
      intro q row H locs ls hMs hq1 hq2 hrw hl hP hD hS
      refine lv_iload hx hb zdS_insert_7 (lv_at hl 4 rfl) ?_
      refine lv_aload_n hx hb zdS_insert_9 rfl (lv_at hl 0 rfl) ?_
      refine va_get (D := g.1) (ci := 4) (v := .int (nI t.length)) (C := zRS) (T := zTS) (N := 3) hx hb hts ziS hown hK hP 0 rfl rfl 2 (by decide) (hts _ zlS_18) (fun _ h => h) rfl zdS_insert_10 ?_
      refine si_icmp_gt (tgt := 36) hx hb zdS_insert_13 rfl (by omega) (by omega) (fun h13 => ?_) (fun h13 => ?_)
      · have hrow : row = si_rr t (kp + 1) kp := by rw [hrw, show q = t.length + 1 by omega]; rfl
        have hrl := si_rr_le t (kp + 1) kp (by omega)
        refine lv_iload_n hx hb zdS_insert_36 rfl (lv_at hl 2 rfl) ?_
        refine lv_iconst (v := nI 1) hx hb zdS_insert_37 (by decide) ?_
        refine si_iadd (v := nI (kp + 1)) hx hb zdS_insert_38 (nI_add _ _) ?_
        refine lv_istore (lv' := [(4, .int (nI (kp + 1))), (0, .ref h0), (1, .ref h1), (2, .int (nI kp)), (3, .int (nI row))]) hx hb zdS_insert_39 hl (Nat.le_of_ble_eq_true rfl) rfl (fun ls hl => ?_)
        have L41 : ∀ (N : Nat) (q : Nat) (f2 : Nat → Int32) (H : Heap) (locs : List Loc) (ls : Array Slot), t.length + 1 - q < N → (kp + 1 ≤ q) → (q ≤ t.length + 1) → (∀ x, kp + 1 ≤ x → x < q → f2 x = nI (si_rr t kp x)) → (∀ x, q ≤ x → x ≤ t.length → f2 x = nI (si_rr t (kp + 1) x)) → lv_has ls 5 [(0, .ref h0), (1, .ref h1), (2, .int (nI kp)), (3, .int (nI row)), (4, .int (nI q))] → va_P g.1 vwCl [(h0, .inr (4, [.ref a2, .ref a3, .int (nI t.length)])), (a2, .inl (g.2.1, 61, .inl f2)), (a3, .inl (g.2.1, 61, .inl fp)), (h1, .inr (2, [.ref a1, .int (nI t.length)])), (a1, .inl (g.2.1, cap, .inl f))] H → va_D A [(h0, .inr (4, [.ref a2, .ref a3, .int (nI t.length)])), (a2, .inl (g.2.1, 61, .inl f2)), (a3, .inl (g.2.1, 61, .inl fp)), (h1, .inr (2, [.ref a1, .int (nI t.length)])), (a1, .inl (g.2.1, cap, .inl f))] → va_S A s.heap H locs → W p l e ({ frames := 2, cells := 0, slots := 0, locals := 46 } : Room) s m args below meth c H locs 0 0 Q (F0 m 41 ls []) := by
          intro N
          induction N with
          | zero => intro q f2 H locs ls hMs; exact absurd hMs (Nat.not_lt_zero _)
          | succ N ih41 =>
            intro q f2 H locs ls hMs hq1 hq2 hA hB hl hP hD hS
            refine lv_iload hx hb zdS_insert_41 (lv_at hl 4 rfl) ?_
            refine lv_aload_n hx hb zdS_insert_43 rfl (lv_at hl 0 rfl) ?_
            refine va_get (D := g.1) (ci := 4) (v := .int (nI t.length)) (C := zRS) (T := zTS) (N := 3) hx hb hts ziS hown hK hP 0 rfl rfl 2 (by decide) (hts _ zlS_18) (fun _ h => h) rfl zdS_insert_44 ?_
            refine si_icmp_gt (tgt := 78) hx hb zdS_insert_47 rfl (by omega) (by omega) (fun h47 => ?_) (fun h47 => ?_)
            · refine lv_aload_n hx hb zdS_insert_78 rfl (lv_at hl 0 rfl) ?_
              refine va_get (D := g.1) (ci := 4) (v := .ref a2) (C := zRS) (T := zTS) (N := 3) hx hb hts ziS hown hK hP 0 rfl rfl 0 (by decide) (hts _ zlS_9) (fun _ h => h) rfl zdS_insert_79 ?_
              refine lv_iload_n hx hb zdS_insert_82 rfl (lv_at hl 2 rfl) ?_
              refine lv_iload_n hx hb zdS_insert_83 rfl (lv_at hl 3 rfl) ?_
              refine si_iast hx hb hK hP hD hS 1 0 rfl rfl (by decide) (by omega) zdS_insert_84 (fun H locs hP hD hS => ?_)
              have hP : va_P g.1 vwCl [(h0, .inr (4, [.ref a2, .ref a3, .int (nI t.length)])), (a2, .inl (g.2.1, 61, .inl (upd f2 kp (nI row)))), (a3, .inl (g.2.1, 61, .inl fp)), (h1, .inr (2, [.ref a1, .int (nI t.length)])), (a1, .inl (g.2.1, cap, .inl f))] H := hP
              have hD : va_D A [(h0, .inr (4, [.ref a2, .ref a3, .int (nI t.length)])), (a2, .inl (g.2.1, 61, .inl (upd f2 kp (nI row)))), (a3, .inl (g.2.1, 61, .inl fp)), (h1, .inr (2, [.ref a1, .int (nI t.length)])), (a1, .inl (g.2.1, cap, .inl f))] := hD
              exact hret (upd f2 kp (nI row)) _ _ _ _ (si_insC hrow hpn (fun x h1 h2 => hA x h1 (by omega))) (hP.sub [0, 1, 2, 3, 4] rfl) (hD.sub [0, 1, 2, 3, 4] (by decide) rfl) hS zdS_insert_85
            · have hql := si_rr_le t (kp + 1) q (by omega)
              refine lv_aload_n hx hb zdS_insert_50 rfl (lv_at hl 0 rfl) ?_
              refine va_get (D := g.1) (ci := 4) (v := .ref a2) (C := zRS) (T := zTS) (N := 3) hx hb hts ziS hown hK hP 0 rfl rfl 0 (by decide) (hts _ zlS_9) (fun _ h => h) rfl zdS_insert_51 ?_
              refine lv_iload hx hb zdS_insert_54 (lv_at hl 4 rfl) ?_
              refine si_iald (v := nI (si_rr t (kp + 1) q)) hx hb hK hP 1 0 rfl rfl (by decide) (by omega) (hB q (Nat.le_refl _) (by omega)) zdS_insert_56 ?_
              refine lv_iload_n hx hb zdS_insert_57 rfl (lv_at hl 3 rfl) ?_
              refine si_icmp_lt (tgt := 72) hx hb zdS_insert_58 rfl (by omega) (by omega) (fun h58 => ?_) (fun h58 => ?_)
              · refine lv_iinc (k := 4) (v := nI (q + 1)) (lv' := [(4, .int (nI (q + 1))), (0, .ref h0), (1, .ref h1), (2, .int (nI kp)), (3, .int (nI row))]) hx hb zdS_insert_72 hl rfl (si_inc _) (Nat.le_of_ble_eq_true rfl) rfl (fun ls hl => ?_)
                refine lv_goto (tgt := 41) hx hb zdS_insert_75 rfl ?_
                exact ih41 (q + 1) f2 _ _ _ (by omega) (by omega) (by omega) (by first | exact si_insB hrow hq1 (by omega) hA h58 | exact si_insA hrow hq1 (by omega) hA (hB q (Nat.le_refl _) (by omega)) h58) (fun x h1 h2 => by first | exact hB x (by omega) h2 | (rw [pk_un (by omega)]; exact hB x (by omega) h2)) (lv_sub hl [1, 2, 3, 4, 0] rfl) (hP.sub [0, 1, 2, 3, 4] rfl) (hD.sub [0, 1, 2, 3, 4] (by decide) rfl) hS
              · refine lv_aload_n hx hb zdS_insert_61 rfl (lv_at hl 0 rfl) ?_
                refine va_get (D := g.1) (ci := 4) (v := .ref a2) (C := zRS) (T := zTS) (N := 3) hx hb hts ziS hown hK hP 0 rfl rfl 0 (by decide) (hts _ zlS_9) (fun _ h => h) rfl zdS_insert_62 ?_
                refine lv_iload hx hb zdS_insert_65 (lv_at hl 4 rfl) ?_
                refine lv_dup2_11 hx hb zdS_insert_67 rfl rfl ?_
                refine si_iald (v := nI (si_rr t (kp + 1) q)) hx hb hK hP 1 0 rfl rfl (by decide) (by omega) (hB q (Nat.le_refl _) (by omega)) zdS_insert_68 ?_
                refine lv_iconst (v := nI 1) hx hb zdS_insert_69 (by decide) ?_
                refine si_iadd (v := nI (si_rr t (kp + 1) q + 1)) hx hb zdS_insert_70 (nI_add _ _) ?_
                refine si_iast hx hb hK hP hD hS 1 0 rfl rfl (by decide) (by omega) zdS_insert_71 (fun H locs hP hD hS => ?_)
                have hP : va_P g.1 vwCl [(h0, .inr (4, [.ref a2, .ref a3, .int (nI t.length)])), (a2, .inl (g.2.1, 61, .inl (upd f2 q (nI (si_rr t (kp + 1) q + 1))))), (a3, .inl (g.2.1, 61, .inl fp)), (h1, .inr (2, [.ref a1, .int (nI t.length)])), (a1, .inl (g.2.1, cap, .inl f))] H := hP
                have hD : va_D A [(h0, .inr (4, [.ref a2, .ref a3, .int (nI t.length)])), (a2, .inl (g.2.1, 61, .inl (upd f2 q (nI (si_rr t (kp + 1) q + 1))))), (a3, .inl (g.2.1, 61, .inl fp)), (h1, .inr (2, [.ref a1, .int (nI t.length)])), (a1, .inl (g.2.1, cap, .inl f))] := hD
                refine lv_iinc (k := 4) (v := nI (q + 1)) (lv' := [(4, .int (nI (q + 1))), (0, .ref h0), (1, .ref h1), (2, .int (nI kp)), (3, .int (nI row))]) hx hb zdS_insert_72 hl rfl (si_inc _) (Nat.le_of_ble_eq_true rfl) rfl (fun ls hl => ?_)
                refine lv_goto (tgt := 41) hx hb zdS_insert_75 rfl ?_
                exact ih41 (q + 1) (upd f2 q (nI (si_rr t (kp + 1) q + 1))) _ _ _ (by omega) (by omega) (by omega) (by first | exact si_insB hrow hq1 (by omega) hA h58 | exact si_insA hrow hq1 (by omega) hA (hB q (Nat.le_refl _) (by omega)) h58) (fun x h1 h2 => by first | exact hB x (by omega) h2 | (rw [pk_un (by omega)]; exact hB x (by omega) h2)) (lv_sub hl [1, 2, 3, 4, 0] rfl) (hP.sub [0, 1, 2, 3, 4] rfl) (hD.sub [0, 1, 2, 3, 4] (by decide) rfl) hS
        exact L41 (t.length + 1 - (kp + 1) + 1) (kp + 1) fr _ _ _ (by omega) (by omega) (by omega) (fun x h1 h2 => absurd h2 (by omega)) (fun x h1 h2 => hR x h1 h2) (lv_sub hl [1, 2, 3, 4, 0] rfl) (hP.sub [0, 1, 2, 3, 4] rfl) (hD.sub [0, 1, 2, 3, 4] (by decide) rfl) hS
      · have hrl : row ≤ q := by rw [hrw]; exact si_cn_le _ _
        refine lv_aload_n hx hb zdS_insert_16 rfl (lv_at hl 0 rfl) ?_
        refine lv_aload_n hx hb zdS_insert_17 rfl (lv_at hl 1 rfl) ?_
        refine lv_iload hx hb zdS_insert_18 (lv_at hl 4 rfl) ?_
        refine lv_iload_n hx hb zdS_insert_20 rfl (lv_at hl 2 rfl) ?_
        refine (cS_isSmaller l g h0 a2 a3 fr fp (nI t.length) h1 a1 cap f t q kp hcap htc hok hf (by omega) (by omega) hR).callV (wr := []) (As := [.ref h1, .int (nI q), .int (nI kp)]) (rest := []) hF (si_cV 3 hts zcS_isSmaller zlS_31 zimS_isSmaller zseS_isSmaller ziniS zhS_isSmaller ⟨Nat.le_of_ble_eq_true rfl, Nat.le_of_ble_eq_true rfl⟩) hK hN hP hD hS hA [0, 1, 2, 3, 4] [] rfl rfl (by decide) (by decide) (va_recv (q := (zRS, zTS, 3)) hK hP (ci := 4) (q0 := 0) rfl rfl) rfl hl.1 rfl (Nat.le_of_ble_eq_true rfl) zdS_insert_21 ⟨Nat.le_of_ble_eq_true rfl, Nat.le_of_ble_eq_true rfl⟩ rfl rfl (fun r_ _u H locs hq hP hD hS => ?_)
        subst hq
        have hP : va_P g.1 vwCl [(h0, .inr (4, [.ref a2, .ref a3, .int (nI t.length)])), (a2, .inl (g.2.1, 61, .inl fr)), (a3, .inl (g.2.1, 61, .inl fp)), (h1, .inr (2, [.ref a1, .int (nI t.length)])), (a1, .inl (g.2.1, cap, .inl f))] H := hP
        have hD : va_D A [(h0, .inr (4, [.ref a2, .ref a3, .int (nI t.length)])), (a2, .inl (g.2.1, 61, .inl fr)), (a3, .inl (g.2.1, 61, .inl fp)), (h1, .inr (2, [.ref a1, .int (nI t.length)])), (a1, .inl (g.2.1, cap, .inl f))] := hD
        refine si_if_eq (tgt := 30) hx hb zdS_insert_24 rfl (si_bn _) (fun h24 => ?_) (fun h24 => ?_)
        · have hs := si_b0 h24
          refine lv_iinc (k := 4) (v := nI (q + 1)) (lv' := [(4, .int (nI (q + 1))), (0, .ref h0), (1, .ref h1), (2, .int (nI kp)), (3, .int (nI row))]) hx hb zdS_insert_30 hl rfl (si_inc _) (Nat.le_of_ble_eq_true rfl) rfl (fun ls hl => ?_)
          refine lv_goto (tgt := 7) hx hb zdS_insert_33 rfl ?_
          exact ih7 (q + 1) row _ _ _ (by omega) (by omega) (by omega) (by first | (rw [si_cnA (F := fun x => si_sf t x kp) hq1 hs, hrw]; done) | (rw [si_cnB (F := fun x => si_sf t x kp) hs, hrw]; done)) (lv_sub hl [1, 2, 3, 4, 0] rfl) (hP.sub [0, 1, 2, 3, 4] rfl) (hD.sub [0, 1, 2, 3, 4] (by decide) rfl) hS
        · have hs := si_b1 h24
          refine lv_iinc (k := 3) (v := nI (row + 1)) (lv' := [(3, .int (nI (row + 1))), (0, .ref h0), (1, .ref h1), (2, .int (nI kp)), (4, .int (nI q))]) hx hb zdS_insert_27 hl rfl (si_inc _) (Nat.le_of_ble_eq_true rfl) rfl (fun ls hl => ?_)
          refine lv_iinc (k := 4) (v := nI (q + 1)) (lv' := [(4, .int (nI (q + 1))), (3, .int (nI (row + 1))), (0, .ref h0), (1, .ref h1), (2, .int (nI kp))]) hx hb zdS_insert_30 hl rfl (si_inc _) (Nat.le_of_ble_eq_true rfl) rfl (fun ls hl => ?_)
          refine lv_goto (tgt := 7) hx hb zdS_insert_33 rfl ?_
          exact ih7 (q + 1) (row + 1) _ _ _ (by omega) (by omega) (by omega) (by first | (rw [si_cnA (F := fun x => si_sf t x kp) hq1 hs, hrw]; done) | (rw [si_cnB (F := fun x => si_sf t x kp) hs, hrw]; done)) (lv_sub hl [2, 3, 4, 1, 0] rfl) (hP.sub [0, 1, 2, 3, 4] rfl) (hD.sub [0, 1, 2, 3, 4] (by decide) rfl) hS
  exact L7 (t.length + 1 - (kp + 1) + 1) (kp + 1) 0 _ _ _ (by omega) (by omega) (by omega) (si_cnC.symm) (lv_sub hl [2, 3, 4, 1, 0] rfl) (hP.sub [0, 1, 2, 3, 4] rfl) (hD.sub [0, 1, 2, 3, 4] (by decide) rfl) hS

set_option maxHeartbeats 4000000 in
set_option maxRecDepth 100000 in
/-- sort -/
theorem cS_sort (l : Launch) (g : si_G) (h0 a2 a3 : Nat) (fr fp : Nat → Int32) (last : Int32) (h1 a1 cap : Nat) (f : Nat → Int32) (t : List Nat) (hcap : cap < 2 ^ 20) (htc : t.length ≤ cap) (hok : si_ok t) (hf : si_ln t f) : si_Mv (S := (Nat → Int32) × (Nat → Int32)) l g vwCl zyS_sort zwS_sort ({ frames := 3, cells := 0, slots := 0, locals := 70 } : Room) [.ref h0, .ref h1] [(h0, .inr (4, [.ref a2, .ref a3, .int last])), (a2, .inl (g.2.1, 61, .inl fr)), (a3, .inl (g.2.1, 61, .inl fp)), (h1, .inr (2, [.ref a1, .int (nI t.length)])), (a1, .inl (g.2.1, cap, .inl f))] (fun u => si_su t u.1 u.2) (fun u => [(h0, .inr (4, [.ref a2, .ref a3, .int (nI t.length)])), (a2, .inl (g.2.1, 61, .inl u.1)), (a3, .inl (g.2.1, 61, .inl u.2)), (h1, .inr (2, [.ref a1, .int (nI t.length)])), (a1, .inl (g.2.1, cap, .inl f))]) := by
  refine si_Mv.of (cc := zkS_sort) (maxL := 3) (by decide) rfl (Nat.le_of_ble_eq_true rfl) ?_
  intro p e s m args below meth c A Q ls hF0 hin hK hN hP hD hA hS hl hret
  obtain ⟨hx, hb, hml, hown, hts0⟩ := hF0
  have hts : ∀ w ∈ si_tbl, w.before args s = true := fun w hw => hts0 w (List.mem_cons_of_mem _ hw)
  have hF : CallFix p m c zkS_sort 3 s args si_tbl zRS := ⟨hx, hb, hml, hown, hts⟩
  have hl : lv_has ls 3 [(0, .ref h0), (1, .ref h1)] := hl
  have hn := hok.1
  refine lv_aload_n hx hb zdS_sort_0 rfl (lv_at hl 0 rfl) ?_
  refine lv_aload_n hx hb zdS_sort_1 rfl (lv_at hl 1 rfl) ?_
  refine va_getN (D := g.1) (ci := 2) (v := .int (nI t.length)) (C := zRL) (T := zTL) (N := 2) hx hb hts ziL hown hK hP 3 rfl rfl 1 (by decide) (va_Nw.use rfl (hN _ zlS_22)) (fun _ h => h) rfl zdS_sort_2 ?_
  refine va_put (D := g.1) (ci := 4) (v := .int (nI t.length)) (ty := .int) (C := zRS) (T := zTS) (N := 3) hx hb hts ziS ztS ztoS znS hown hK hP hD hS 0 rfl rfl 2 (by decide) (hts _ zlS_18) (fun _ h => h) rfl (by decide +kernel) rfl rfl (Nat.le_of_ble_eq_true rfl) zdS_sort_5 (fun H locs hP hD hS => ?_)
  have hP : va_P g.1 vwCl [(h0, .inr (4, [.ref a2, .ref a3, .int (nI t.length)])), (a2, .inl (g.2.1, 61, .inl fr)), (a3, .inl (g.2.1, 61, .inl fp)), (h1, .inr (2, [.ref a1, .int (nI t.length)])), (a1, .inl (g.2.1, cap, .inl f))] H := hP
  have hD : va_D A [(h0, .inr (4, [.ref a2, .ref a3, .int (nI t.length)])), (a2, .inl (g.2.1, 61, .inl fr)), (a3, .inl (g.2.1, 61, .inl fp)), (h1, .inr (2, [.ref a1, .int (nI t.length)])), (a1, .inl (g.2.1, cap, .inl f))] := hD
  refine lv_aload_n hx hb zdS_sort_8 rfl (lv_at hl 0 rfl) ?_
  refine va_get (D := g.1) (ci := 4) (v := .int (nI t.length)) (C := zRS) (T := zTS) (N := 3) hx hb hts ziS hown hK hP 0 rfl rfl 2 (by decide) (hts _ zlS_18) (fun _ h => h) rfl zdS_sort_9 ?_
  refine lv_istore_n (lv' := [(2, .int (nI t.length)), (0, .ref h0), (1, .ref h1)]) hx hb zdS_sort_12 rfl hl (Nat.le_of_ble_eq_true rfl) rfl (fun ls hl => ?_)
  have L13 : ∀ (N : Nat) (k : Nat) (q : Int32) (f2 : Nat → Int32) (H : Heap) (locs : List Loc) (ls : Array Slot), k < N → (si_dw q k) → (k ≤ t.length + 1) → (∀ x, k ≤ x → x ≤ t.length → f2 x = nI (si_rr t k x)) → lv_has ls 3 [(0, .ref h0), (1, .ref h1), (2, .int q)] → va_P g.1 vwCl [(h0, .inr (4, [.ref a2, .ref a3, .int (nI t.length)])), (a2, .inl (g.2.1, 61, .inl f2)), (a3, .inl (g.2.1, 61, .inl fp)), (h1, .inr (2, [.ref a1, .int (nI t.length)])), (a1, .inl (g.2.1, cap, .inl f))] H → va_D A [(h0, .inr (4, [.ref a2, .ref a3, .int (nI t.length)])), (a2, .inl (g.2.1, 61, .inl f2)), (a3, .inl (g.2.1, 61, .inl fp)), (h1, .inr (2, [.ref a1, .int (nI t.length)])), (a1, .inl (g.2.1, cap, .inl f))] → va_S A s.heap H locs → W p l e ({ frames := 3, cells := 0, slots := 0, locals := 70 } : Room) s m args below meth c H locs 0 0 Q (F0 m 13 ls []) := by
    intro N
    induction N with
    | zero => intro k q f2 H locs ls hMs; exact absurd hMs (Nat.not_lt_zero _)
    | succ N ih13 =>
      intro k q f2 H locs ls hMs hdw hk hR hl hP hD hS
      refine lv_iload_n hx hb zdS_sort_13 rfl (lv_at hl 2 rfl) ?_
      refine lv_if_lt (tgt := 29) hx hb zdS_sort_14 rfl (fun h14 => ?_) (fun h14 => ?_)
      · have hk0 : k = 0 := si_dw_0 (by omega) hdw h14
        subst hk0
        refine lv_iconst (v := nI 0) hx hb zdS_sort_29 (by decide) ?_
        refine lv_istore_n (lv' := [(2, .int (nI 0)), (0, .ref h0), (1, .ref h1)]) hx hb zdS_sort_30 rfl hl (Nat.le_of_ble_eq_true rfl) rfl (fun ls hl => ?_)
        have L31 : ∀ (N : Nat) (k : Nat) (f3 : Nat → Int32) (H : Heap) (locs : List Loc) (ls : Array Slot), t.length + 1 - k < N → (k ≤ t.length + 1) → (∀ x, x < k → f3 (si_rk t x) = nI x) → lv_has ls 3 [(0, .ref h0), (1, .ref h1), (2, .int (nI k))] → va_P g.1 vwCl [(h0, .inr (4, [.ref a2, .ref a3, .int (nI t.length)])), (a2, .inl (g.2.1, 61, .inl f2)), (a3, .inl (g.2.1, 61, .inl f3)), (h1, .inr (2, [.ref a1, .int (nI t.length)])), (a1, .inl (g.2.1, cap, .inl f))] H → va_D A [(h0, .inr (4, [.ref a2, .ref a3, .int (nI t.length)])), (a2, .inl (g.2.1, 61, .inl f2)), (a3, .inl (g.2.1, 61, .inl f3)), (h1, .inr (2, [.ref a1, .int (nI t.length)])), (a1, .inl (g.2.1, cap, .inl f))] → va_S A s.heap H locs → W p l e ({ frames := 3, cells := 0, slots := 0, locals := 70 } : Room) s m args below meth c H locs 0 0 Q (F0 m 31 ls []) := by
          intro N
          induction N with
          | zero => intro k f3 H locs ls hMs; exact absurd hMs (Nat.not_lt_zero _)
          | succ N ih31 =>
            intro k f3 H locs ls hMs hk hPl hl hP hD hS
            refine lv_iload_n hx hb zdS_sort_31 rfl (lv_at hl 2 rfl) ?_
            refine lv_aload_n hx hb zdS_sort_32 rfl (lv_at hl 0 rfl) ?_
            refine va_get (D := g.1) (ci := 4) (v := .int (nI t.length)) (C := zRS) (T := zTS) (N := 3) hx hb hts ziS hown hK hP 0 rfl rfl 2 (by decide) (hts _ zlS_18) (fun _ h => h) rfl zdS_sort_33 ?_
            refine si_icmp_gt (tgt := 57) hx hb zdS_sort_36 rfl (by omega) (by omega) (fun h36 => ?_) (fun h36 => ?_)
            · have hsu : si_su t f2 f3 := ⟨fun x hx => (hR x (Nat.zero_le _) (by omega)).trans (by rw [si_rr_0]), si_pl_of (fun x hx => hPl x (by omega))⟩
              exact hret (f2, f3) _ _ _ _ (hsu) (hP.sub [0, 1, 2, 3, 4] rfl) (hD.sub [0, 1, 2, 3, 4] (by decide) rfl) hS zdS_sort_57
            · have hrk := si_rk_le (t := t) (p := k) (by omega)
              refine lv_aload_n hx hb zdS_sort_39 rfl (lv_at hl 0 rfl) ?_
              refine va_get (D := g.1) (ci := 4) (v := .ref a3) (C := zRS) (T := zTS) (N := 3) hx hb hts ziS hown hK hP 0 rfl rfl 1 (by decide) (hts _ zlS_15) (fun _ h => h) rfl zdS_sort_40 ?_
              refine lv_aload_n hx hb zdS_sort_43 rfl (lv_at hl 0 rfl) ?_
              refine va_get (D := g.1) (ci := 4) (v := .ref a2) (C := zRS) (T := zTS) (N := 3) hx hb hts ziS hown hK hP 0 rfl rfl 0 (by decide) (hts _ zlS_9) (fun _ h => h) rfl zdS_sort_44 ?_
              refine lv_iload_n hx hb zdS_sort_47 rfl (lv_at hl 2 rfl) ?_
              refine si_iald (v := nI (si_rk t k)) hx hb hK hP 1 0 rfl rfl (by decide) (by omega) ((hR k (Nat.zero_le _) (by omega)).trans (by rw [si_rr_0])) zdS_sort_48 ?_
              refine lv_iload_n hx hb zdS_sort_49 rfl (lv_at hl 2 rfl) ?_
              refine si_iast hx hb hK hP hD hS 2 0 rfl rfl (by decide) (by omega) zdS_sort_50 (fun H locs hP hD hS => ?_)
              have hP : va_P g.1 vwCl [(h0, .inr (4, [.ref a2, .ref a3, .int (nI t.length)])), (a2, .inl (g.2.1, 61, .inl f2)), (a3, .inl (g.2.1, 61, .inl (upd f3 (si_rk t k) (nI k)))), (h1, .inr (2, [.ref a1, .int (nI t.length)])), (a1, .inl (g.2.1, cap, .inl f))] H := hP
              have hD : va_D A [(h0, .inr (4, [.ref a2, .ref a3, .int (nI t.length)])), (a2, .inl (g.2.1, 61, .inl f2)), (a3, .inl (g.2.1, 61, .inl (upd f3 (si_rk t k) (nI k)))), (h1, .inr (2, [.ref a1, .int (nI t.length)])), (a1, .inl (g.2.1, cap, .inl f))] := hD
              refine lv_iinc (k := 2) (v := nI (k + 1)) (lv' := [(2, .int (nI (k + 1))), (0, .ref h0), (1, .ref h1)]) hx hb zdS_sort_51 hl rfl (si_inc _) (Nat.le_of_ble_eq_true rfl) rfl (fun ls hl => ?_)
              refine lv_goto (tgt := 31) hx hb zdS_sort_54 rfl ?_
              exact ih31 (k + 1) (upd f3 (si_rk t k) (nI k)) _ _ _ (by omega) (by omega) (si_plU (by omega) hPl) (lv_sub hl [1, 2, 0] rfl) (hP.sub [0, 1, 2, 3, 4] rfl) (hD.sub [0, 1, 2, 3, 4] (by decide) rfl) hS
        exact L31 (t.length + 1 - 0 + 1) 0 fp _ _ _ (by omega) (by omega) (fun x hx => absurd hx (Nat.not_lt_zero _)) (lv_sub hl [1, 2, 0] rfl) (hP.sub [0, 1, 2, 3, 4] rfl) (hD.sub [0, 1, 2, 3, 4] (by decide) rfl) hS
      · obtain ⟨j, rfl, rfl⟩ := si_dw_1 hdw h14
        refine lv_aload_n hx hb zdS_sort_17 rfl (lv_at hl 0 rfl) ?_
        refine lv_aload_n hx hb zdS_sort_18 rfl (lv_at hl 1 rfl) ?_
        refine lv_iload_n hx hb zdS_sort_19 rfl (lv_at hl 2 rfl) ?_
        refine (cS_insert l g h0 a2 a3 f2 fp h1 a1 cap f t j hcap htc hok hf (by omega) hR).callV (wr := []) (As := [.ref h1, .int (nI j)]) (rest := []) hF (si_cV 2 hts zcS_insert zlS_27 zimS_insert zseS_insert ziniS zhS_insert ⟨Nat.le_of_ble_eq_true rfl, Nat.le_of_ble_eq_true rfl⟩) hK hN hP hD hS hA [0, 1, 2, 3, 4] [] rfl rfl (by decide) (by decide) (va_recv (q := (zRS, zTS, 3)) hK hP (ci := 4) (q0 := 0) rfl rfl) rfl hl.1 rfl (Nat.le_of_ble_eq_true rfl) zdS_sort_20 ⟨Nat.le_of_ble_eq_true rfl, Nat.le_of_ble_eq_true rfl⟩ rfl rfl (fun f4 H locs hq hP hD hS => ?_)
        have hP : va_P g.1 vwCl [(h0, .inr (4, [.ref a2, .ref a3, .int (nI t.length)])), (a2, .inl (g.2.1, 61, .inl f4)), (a3, .inl (g.2.1, 61, .inl fp)), (h1, .inr (2, [.ref a1, .int (nI t.length)])), (a1, .inl (g.2.1, cap, .inl f))] H := hP
        have hD : va_D A [(h0, .inr (4, [.ref a2, .ref a3, .int (nI t.length)])), (a2, .inl (g.2.1, 61, .inl f4)), (a3, .inl (g.2.1, 61, .inl fp)), (h1, .inr (2, [.ref a1, .int (nI t.length)])), (a1, .inl (g.2.1, cap, .inl f))] := hD
        refine lv_iinc (k := 2) (v := nI j + Int32.ofInt (-1)) (lv' := [(2, .int (nI j + Int32.ofInt (-1))), (0, .ref h0), (1, .ref h1)]) hx hb zdS_sort_23 hl rfl (rfl) (Nat.le_of_ble_eq_true rfl) rfl (fun ls hl => ?_)
        refine lv_goto (tgt := 13) hx hb zdS_sort_26 rfl ?_
        exact ih13 j (nI j + Int32.ofInt (-1)) f4 _ _ _ (by omega) (si_dw_s j) (by omega) (hq) (lv_sub hl [1, 2, 0] rfl) (hP.sub [0, 1, 2, 3, 4] rfl) (hD.sub [0, 1, 2, 3, 4] (by decide) rfl) hS
  exact L13 ((t.length + 1) + 1) (t.length + 1) (nI t.length) fr _ _ _ (by omega) (si_dw_i _) (by omega) (fun x h1 h2 => absurd h2 (by omega)) (lv_sub hl [1, 2, 0] rfl) (hP.sub [0, 1, 2, 3, 4] rfl) (hD.sub [0, 1, 2, 3, 4] (by decide) rfl) hS
end
section
/-! Contracts of the Befores. Written by wip/draft/p17.py -/
theorem si_up {f : Nat → Int32} {F : Nat → Int32} {i : Nat} {v : Int32} (h : ∀ x, x < i → f x = F x) (hv : v = F i) : ∀ x, x < i + 1 → upd f i v x = F x := by
  intro x hx
  by_cases e : x = i
  · subst e; rw [pk_us, hv]
  · rw [pk_un e]; exact h x (by omega)
theorem si_nf {b : Bool} (h : ¬ b = false) : b = true := by cases b <;> first | rfl | exact absurd rfl h
section SIPO
variable {nn i zc oc : Nat} {b : Nat → Bool} {f2 f3 fo : Nat → Int32}
theorem si_poZ (hz : zc = si_cn i (fun k => !b k)) (hZ : ∀ x, x < i → b x = false → f2 (si_cn x (fun k => !b k)) = fo x) : ∀ x, x < i + 1 → b x = false → upd f2 zc (fo i) (si_cn x (fun k => !b k)) = fo x := by
  intro x hx hbx
  by_cases e : x = i
  · subst e; rw [← hz, pk_us]
  · have := si_cn_ups (P := fun k => !b k) (show x < i by omega) (by simp [hbx])
    rw [pk_un (by omega)]; exact hZ x (by omega) hbx
theorem si_poO (hz : oc = si_cn i b) (hO : ∀ x, x < i → b x = true → f3 (si_cn x b) = fo x) : ∀ x, x < i + 1 → b x = true → upd f3 oc (fo i) (si_cn x b) = fo x := by
  intro x hx hbx
  by_cases e : x = i
  · subst e; rw [← hz, pk_us]
  · have := si_cn_ups (show x < i by omega) hbx
    rw [pk_un (by omega)]; exact hO x (by omega) hbx
theorem si_poS {v : Bool} {F : Nat → Int32} {G : Nat → Nat} (hb : b i = v) (hZ : ∀ x, x < i → b x = (!v) → F (G x) = fo x) : ∀ x, x < i + 1 → b x = (!v) → F (G x) = fo x := by
  intro x hx hbx
  by_cases e : x = i
  · subst e; rw [hb] at hbx; cases v <;> exact absurd hbx (by decide)
  · exact hZ x (by omega) hbx
theorem si_poC (hzc : zc = si_cn (nn + 1) (fun k => !b k)) (hi : i < oc) (hC : ∀ x, x < nn + 1 → b x = true → si_cn x b < i → f2 (zc + si_cn x b) = fo x) (hO : ∀ x, x < nn + 1 → b x = true → f3 (si_cn x b) = fo x) : ∀ x, x < nn + 1 → b x = true → si_cn x b < i + 1 → upd f2 (zc + i) (f3 i) (zc + si_cn x b) = fo x := by
  intro x hx hbx h
  by_cases e : si_cn x b = i
  · rw [← e, pk_us]; exact hO x hx hbx
  · rw [pk_un (by omega)]; exact hC x hx hbx (by omega)
theorem si_poK (hzc : zc = si_cn (nn + 1) (fun k => !b k)) (hZ : ∀ x, x < nn + 1 → b x = false → f2 (si_cn x (fun k => !b k)) = fo x) {v : Int32} : ∀ x, x < nn + 1 → b x = false → upd f2 (zc + i) v (si_cn x (fun k => !b k)) = fo x := by
  intro x hx hbx
  have := si_cn_ups (P := fun k => !b k) hx (by simp [hbx])
  rw [pk_un (by omega)]; exact hZ x hx hbx
theorem si_poE (hzc : zc = si_cn (nn + 1) (fun k => !b k)) (hoc : oc = si_cn (nn + 1) b) (hZ : ∀ x, x < nn + 1 → b x = false → f2 (si_cn x (fun k => !b k)) = fo x) (hC : ∀ x, x < nn + 1 → b x = true → si_cn x b < oc → f2 (zc + si_cn x b) = fo x) : ∀ x, x < nn + 1 → f2 (si_ps (nn + 1) b x) = fo x := by
  intro x hx
  cases hb : b x with
  | false => rw [si_ps_f hb]; exact hZ x hx hb
  | true => rw [si_ps_t hb, ← hzc]; exact hC x hx hb (by rw [hoc]; exact si_cn_ups hx hb)
end SIPO
theorem si_bitj {k j : Nat} (hk : k < 128) : nI (k / 2 ^ (6 - j)) &&& nI 1 = nI (si_bt j k).toNat := by
  have h1 : k / 2 ^ (6 - j) ≤ k := Nat.div_le_self _ _
  rw [si_btn, pk_andN (m := nI 1) (by omega) 1 (by decide)]
theorem si_l2b (b : Bool) : (if b = true then (1 : Int64) else 0).toInt32 = nI b.toNat := by cases b <;> decide
theorem si_dlO {nn j : Nat} {w : Int64} {cx : Nat → Nat} {fo f2 : Nat → Int32} (hn : nn + 1 ≤ 64) (hw : w = si_wd (nn + 1) (si_lb cx (nn + 1) j)) (hO : ∀ x, x < nn + 1 → fo (si_lp cx (nn + 1) j x) = nI x) (h : ∀ i, i < nn + 1 → f2 (si_ps (nn + 1) (si_bi w) i) = fo i) : ∀ x, x < nn + 1 → f2 (si_lp cx (nn + 1) (j + 1) x) = nI x := by
  intro x hx
  have h1 := (si_lp_bij cx (nn + 1) j).1 x hx
  rw [si_lp_s, si_ps_congr (b' := si_bi w) (fun i hi => ?_) h1, h _ h1, hO x hx]
  rw [hw, si_wd_bi hn]
  simp [hi]
theorem si_ivv {n : Nat} {f : Nat → Nat} {F : Nat → Int32} (h : si_bij n f) (hF : ∀ x, x < n → F (f x) = nI x) {i : Nat} (hi : i < n) : F i = nI (si_iv n f i) := by
  have h1 := si_iv_ok h hi
  have h2 := hF _ h1.1
  rw [h1.2] at h2
  exact h2
/-- the row that follows row r -/
def si_fl (cx : Nat → Nat) (n r : Nat) : Nat := si_iv n (si_lf cx n) r
theorem si_rcU {b : Nat → Nat → Bool} {n j i : Nat} {F : Nat → Int32} (hi : i < n) (h1 : ∀ x, x < n → si_rp b n j x < i → F x = nI (si_rc b n (j + 1) x)) : ∀ x, x < n → si_rp b n j x < i + 1 → upd F (si_iv n (si_rp b n j) i) (nI (2 * si_rc b n j (si_iv n (si_rp b n j) i) + (b j i).toNat)) x = nI (si_rc b n (j + 1) x) := by
  intro x hx hr
  have hv := si_iv_ok (si_rp_bij b n j) hi
  by_cases e : x = si_iv n (si_rp b n j) i
  · rw [← e, pk_us, si_rc_s]
    have : si_rp b n j x = i := by rw [e]; exact hv.2
    rw [this]
    cases b j i <;> rfl
  · rw [pk_un e]
    refine h1 x hx ?_
    have : si_rp b n j x ≠ i := fun z => e ((si_rp_bij b n j).2 _ _ hx hv.1 (z.trans hv.2.symm))
    omega
theorem si_rcK {b : Nat → Nat → Bool} {n j i : Nat} {F : Nat → Int32} {v : Int32} (hi : i < n) (h2 : ∀ x, x < n → i ≤ si_rp b n j x → F x = nI (si_rc b n j x)) : ∀ x, x < n → i + 1 ≤ si_rp b n j x → upd F (si_iv n (si_rp b n j) i) v x = nI (si_rc b n j x) := by
  intro x hx hr
  have hv := si_iv_ok (si_rp_bij b n j) hi
  rw [pk_un (fun z => by rw [z, hv.2] at hr; omega)]
  exact h2 x hx (by omega)
theorem si_flU {cx : Nat → Nat} {n k : Nat} {F : Nat → Int32} (hk : k < n) (h : ∀ x, x < k → F (si_lf cx n x) = nI x) : ∀ x, x < k + 1 → upd F (si_lf cx n k) (nI k) (si_lf cx n x) = nI x := by
  intro x hx
  by_cases e : x = k
  · subst e; rw [pk_us]
  · rw [pk_un (fun z => e ((si_lf_bij cx n).2 _ _ (by omega) hk z))]
    exact h x (by omega)
theorem si_lf_congr {cx dx : Nat → Nat} {n r : Nat} (hr : r < n) (h : ∀ x, x < n → cx x = dx x) : si_lf cx n r = si_lf dx n r := si_cn_congr (fun i hi => by unfold si_lo; rw [h i hi, h r hr])
/-- going on: from the row of place k to the row of k + 1, and what stands before it -/
theorem si_fl_rk {cx : Nat → Nat} {v : List Nat} (hv : si_ok v) (h : ∀ x, x < v.length + 1 → cx x = si_B v x) {k : Nat} (hk : k < v.length) : si_fl cx (v.length + 1) (si_rk v k) = si_rk v (k + 1) ∧ cx (si_rk v (k + 1)) = si_g v k := by
  have h1 := si_lf_rk hv (p := k + 1) (by omega) (by omega)
  have hb := si_rk_le (t := v) (p := k + 1) (by omega)
  rw [Nat.add_sub_cancel] at h1
  rw [← si_lf_congr hb h] at h1
  refine ⟨?_, ?_⟩
  · unfold si_fl
    rw [← h1, si_iv_f (si_lf_bij cx _) hb]
  · rw [h _ hb, si_B_rk (by omega)]
    unfold si_bf
    rw [if_neg (by omega), Nat.add_sub_cancel]
theorem si_fl_0 {cx : Nat → Nat} {v : List Nat} (hv : si_ok v) (h : ∀ x, x < v.length + 1 → cx x = si_B v x) : si_fl cx (v.length + 1) 0 = si_rk v 0 := by
  have h1 := si_lf_0 hv
  have hb := si_rk_le (t := v) (p := 0) (by omega)
  rw [← si_lf_congr hb h] at h1
  have h2 := si_iv_f (si_lf_bij cx (v.length + 1)) hb
  rw [h1] at h2
  exact h2
/-- what is spelled after k steps: a text of k characters, the beginning of every text with these BEFOREs -/
def si_sp (cx : Nat → Nat) (nn k row : Nat) (f : Nat → Int32) : Prop := ∃ t : List Nat, t.length = k ∧ si_ok t ∧ si_ln t f ∧ ∀ v, si_ok v → v.length = nn → (∀ x, x < nn + 1 → cx x = si_B v x) → row = si_rk v k ∧ ∀ i, i < k → si_g v i = si_g t i
theorem si_sp_0 {cx : Nat → Nat} {nn : Nat} {f : Nat → Int32} : si_sp cx nn 0 (si_fl cx (nn + 1) 0) f :=
  ⟨[], rfl, ⟨by simp, fun c h => by cases h⟩, fun i hi => absurd hi (Nat.not_lt_zero _), fun v hv hl h => ⟨by subst hl; exact si_fl_0 hv h, fun i hi => absurd hi (Nat.not_lt_zero _)⟩⟩
theorem si_g_app {t : List Nat} {a i : Nat} : si_g (t ++ [a]) i = if i = t.length then a else si_g t i := by
  by_cases e : i = t.length
  · subst e; rw [if_pos rfl]; simp [si_g]
  · rw [if_neg e]
    by_cases q : i < t.length
    · rw [si_g_in (by simp; omega), si_g_in q, List.getElem_append_left q]
    · rw [si_g_out (by simp; omega), si_g_out (by omega)]
theorem si_ch_n {a : Nat} (ha : a < 2 ^ 31) : si_ch (nI a) ↔ 32 ≤ a ∧ a ≤ 126 := by
  have h1 := nI_ltI (a := a) (b := 32) ha (by decide)
  have h2 := nI_ltI (a := 126) (b := a) (by decide) ha
  constructor
  · intro h
    refine ⟨?_, ?_⟩
    · apply Classical.byContradiction; intro z; exact h.1 (h1.mpr (by omega))
    · apply Classical.byContradiction; intro z; exact h.2 (h2.mpr (by omega))
  · exact fun h => ⟨fun z => by have := h1.mp z; omega, fun z => by have := h2.mp z; omega⟩
theorem si_ok_app {t : List Nat} {a : Nat} (h : si_ok t) (hl : t.length < 60) (ha : 32 ≤ a ∧ a ≤ 126) : si_ok (t ++ [a]) := by
  refine ⟨by simp; omega, fun c hc => ?_⟩
  rcases List.mem_append.mp hc with q | q
  · exact h.2 c q
  · rw [List.mem_singleton.mp q]; exact ha
theorem si_ln_app {t : List Nat} {f : Nat → Int32} {a : Nat} (h : si_ln t f) : si_ln (t ++ [a]) (upd f t.length (nI a)) := by
  intro i hi
  rw [si_g_app]
  by_cases e : i = t.length
  · subst e; rw [pk_us, if_pos rfl]
  · rw [pk_un e, if_neg e]
    simp at hi
    exact h i (by omega)
theorem si_sp_s {cx : Nat → Nat} {nn k row : Nat} {f : Nat → Int32} (hcx : ∀ x, x < nn + 1 → cx x < 128) (hk : k < nn) (hn : nn ≤ 60) (hr : row < nn + 1) (h : si_sp cx nn k row f) (hc : si_ch (nI (cx (si_fl cx (nn + 1) row)))) : si_sp cx nn (k + 1) (si_fl cx (nn + 1) row) (upd f k (nI (cx (si_fl cx (nn + 1) row)))) := by
  obtain ⟨t, hl, ho, hf, hall⟩ := h
  have hfr := (si_iv_ok (si_lf_bij cx (nn + 1)) hr).1
  have hc2 := (si_ch_n (by have := hcx _ hfr; unfold si_fl; omega)).mp hc
  refine ⟨t ++ [cx (si_fl cx (nn + 1) row)], by simp [hl], si_ok_app ho (by omega) hc2, by rw [← hl]; exact si_ln_app hf, fun v hv hvl hB => ?_⟩
  obtain ⟨e1, e2⟩ := hall v hv hvl hB
  subst hvl
  obtain ⟨g1, g2⟩ := si_fl_rk hv hB (k := k) hk
  rw [← e1] at g1
  refine ⟨g1, fun i hi => ?_⟩
  rw [si_g_app]
  by_cases e : i = t.length
  · rw [if_pos e, g1, g2, e, hl]
  · rw [if_neg e]; exact e2 i (by omega)
theorem si_sp_no {cx : Nat → Nat} {nn k row : Nat} {f : Nat → Int32} (hcx : ∀ x, x < nn + 1 → cx x < 128) (hk : k < nn) (hr : row < nn + 1) (h : si_sp cx nn k row f) (hc : ¬ si_ch (nI (cx (si_fl cx (nn + 1) row)))) : ∀ v, si_ok v → v.length = nn → (∀ x, x < nn + 1 → cx x = si_B v x) → False := by
  intro v hv hvl hB
  obtain ⟨t, hl, ho, hf, hall⟩ := h
  obtain ⟨e1, e2⟩ := hall v hv hvl hB
  subst hvl
  obtain ⟨g1, g2⟩ := si_fl_rk hv hB (k := k) hk
  rw [← e1] at g1
  rw [g1, g2] at hc
  exact hc ((si_ch_n (si_g_lt hv.2)).mpr (si_ok_at hv hk))
theorem si_sp_end {cx : Nat → Nat} {nn row : Nat} {f : Nat → Int32} (h : si_sp cx nn nn row f) : ∃ t, si_ok t ∧ t.length = nn ∧ si_ln t f ∧ ∀ v, si_ok v → v.length = nn → (∀ x, x < nn + 1 → cx x = si_B v x) → v = t := by
  obtain ⟨t, hl, ho, hf, hall⟩ := h
  refine ⟨t, ho, hl, hf, fun v hv hvl hB => ?_⟩
  obtain ⟨e1, e2⟩ := hall v hv hvl hB
  apply List.ext_getElem (by omega)
  intro i h1 h2
  have := e2 i (by omega)
  rwa [si_g_in h1, si_g_in h2] at this
set_option maxHeartbeats 4000000 in
set_option maxRecDepth 100000 in
/-- startOrder -/
theorem cB_startOrder (l : Launch) (g : si_G) (h0 b1 b2 b3 b4 nn : Nat) (fo : Nat → Int32) (hn : nn ≤ 60) : si_Mv (S := Nat → Int32) l g vwCl zyB_startOrder zwB_startOrder ({ frames := 0, cells := 0, slots := 0, locals := 0 } : Room) [.ref h0] [(h0, .inr (0, [.ref b1, .ref b2, .ref b3, .ref b4, .int (nI nn)])), (b2, .inl (g.2.1, 61, .inl fo))] (fun u => ∀ x, x < nn + 1 → u x = nI x) (fun u => [(h0, .inr (0, [.ref b1, .ref b2, .ref b3, .ref b4, .int (nI nn)])), (b2, .inl (g.2.1, 61, .inl u))]) := by
  refine si_Mv.of (cc := zkB_startOrder) (maxL := 2) (by decide) rfl (Nat.le_of_ble_eq_true rfl) ?_
  intro p e s m args below meth c A Q ls hF0 hin hK hN hP hD hA hS hl hret
  obtain ⟨hx, hb, hml, hown, hts0⟩ := hF0
  have hts : ∀ w ∈ si_tbl, w.before args s = true := fun w hw => hts0 w (List.mem_cons_of_mem _ hw)
  have hF : CallFix p m c zkB_startOrder 2 s args si_tbl zRB := ⟨hx, hb, hml, hown, hts⟩
  have hl : lv_has ls 2 [(0, .ref h0)] := hl
  refine lv_iconst (v := nI 0) hx hb zdB_startOrder_0 (by decide) ?_
  refine lv_istore_n (lv' := [(1, .int (nI 0)), (0, .ref h0)]) hx hb zdB_startOrder_1 rfl hl (Nat.le_of_ble_eq_true rfl) rfl (fun ls hl => ?_)
  have L2 : ∀ (N : Nat) (i : Nat) (f2 : Nat → Int32) (H : Heap) (locs : List Loc) (ls : Array Slot), nn + 1 - i < N → (i ≤ nn + 1) → (∀ x, x < i → f2 x = nI x) → lv_has ls 2 [(0, .ref h0), (1, .int (nI i))] → va_P g.1 vwCl [(h0, .inr (0, [.ref b1, .ref b2, .ref b3, .ref b4, .int (nI nn)])), (b2, .inl (g.2.1, 61, .inl f2))] H → va_D A [(h0, .inr (0, [.ref b1, .ref b2, .ref b3, .ref b4, .int (nI nn)])), (b2, .inl (g.2.1, 61, .inl f2))] → va_S A s.heap H locs → W p l e ({ frames := 0, cells := 0, slots := 0, locals := 0 } : Room) s m args below meth c H locs 0 0 Q (F0 m 2 ls []) := by
    intro N
    induction N with
    | zero => intro i f2 H locs ls hMs; exact absurd hMs (Nat.not_lt_zero _)
    | succ N ih2 =>
      intro i f2 H locs ls hMs hi hO hl hP hD hS
      refine lv_iload_n hx hb zdB_startOrder_2 rfl (lv_at hl 1 rfl) ?_
      refine lv_aload_n hx hb zdB_startOrder_3 rfl (lv_at hl 0 rfl) ?_
      refine va_get (D := g.1) (ci := 0) (v := .int (nI nn)) (C := zRB) (T := zTB) (N := 5) hx hb hts ziB hown hK hP 0 rfl rfl 4 (by decide) (hts _ zlB_24) (fun _ h => h) rfl zdB_startOrder_4 ?_
      refine si_icmp_gt (tgt := 23) hx hb zdB_startOrder_7 rfl (by omega) (by omega) (fun h7 => ?_) (fun h7 => ?_)
      · exact hret f2 _ _ _ _ (fun x hx => hO x (by omega)) (hP.sub [0, 1] rfl) (hD.sub [0, 1] (by decide) rfl) hS zdB_startOrder_23
      · refine lv_aload_n hx hb zdB_startOrder_10 rfl (lv_at hl 0 rfl) ?_
        refine va_get (D := g.1) (ci := 0) (v := .ref b2) (C := zRB) (T := zTB) (N := 5) hx hb hts ziB hown hK hP 0 rfl rfl 1 (by decide) (hts _ zlB_15) (fun _ h => h) rfl zdB_startOrder_11 ?_
        refine lv_iload_n hx hb zdB_startOrder_14 rfl (lv_at hl 1 rfl) ?_
        refine lv_iload_n hx hb zdB_startOrder_15 rfl (lv_at hl 1 rfl) ?_
        refine si_iast hx hb hK hP hD hS 1 0 rfl rfl (by decide) (by omega) zdB_startOrder_16 (fun H locs hP hD hS => ?_)
        have hP : va_P g.1 vwCl [(h0, .inr (0, [.ref b1, .ref b2, .ref b3, .ref b4, .int (nI nn)])), (b2, .inl (g.2.1, 61, .inl (upd f2 i (nI i))))] H := hP
        have hD : va_D A [(h0, .inr (0, [.ref b1, .ref b2, .ref b3, .ref b4, .int (nI nn)])), (b2, .inl (g.2.1, 61, .inl (upd f2 i (nI i))))] := hD
        refine lv_iinc (k := 1) (v := nI (i + 1)) (lv' := [(1, .int (nI (i + 1))), (0, .ref h0)]) hx hb zdB_startOrder_17 hl rfl (si_inc _) (Nat.le_of_ble_eq_true rfl) rfl (fun ls hl => ?_)
        refine lv_goto (tgt := 2) hx hb zdB_startOrder_20 rfl ?_
        exact ih2 (i + 1) (upd f2 i (nI i)) _ _ _ (by omega) (by omega) (si_up (F := fun x => nI x) hO rfl) (lv_sub hl [1, 0] rfl) (hP.sub [0, 1] rfl) (hD.sub [0, 1] (by decide) rfl) hS
  exact L2 (nn + 1 - 0 + 1) 0 fo _ _ _ (by omega) (by omega) (fun x hx => absurd hx (Nat.not_lt_zero _)) (lv_sub hl [1, 0] rfl) (hP.sub [0, 1] rfl) (hD.sub [0, 1] (by decide) rfl) hS

set_option maxHeartbeats 4000000 in
set_option maxRecDepth 100000 in
/-- partOrder -/
theorem cB_partOrder (l : Launch) (g : si_G) (h0 b1 b2 b3 b4 nn : Nat) (fo fn : Nat → Int32) (w : Int64) (hn : nn ≤ 60) : si_Mv (S := (Nat → Int32) × (Nat → Int32)) l g vwCl zyB_partOrder zwB_partOrder ({ frames := 0, cells := 0, slots := 0, locals := 0 } : Room) [.ref h0, .long w] [(h0, .inr (0, [.ref b1, .ref b2, .ref b3, .ref b4, .int (nI nn)])), (b2, .inl (g.2.1, 61, .inl fo)), (b3, .inl (g.2.1, 61, .inl fn))] (fun u => ∀ x, x < nn + 1 → u.1 (si_ps (nn + 1) (si_bi w) x) = fo x) (fun u => [(h0, .inr (0, [.ref b1, .ref b2, .ref b3, .ref b4, .int (nI nn)])), (b2, .inl (g.2.1, 61, .inl u.1)), (b3, .inl (g.2.1, 61, .inl u.2))]) := by
  refine si_Mv.of (cc := zkB_partOrder) (maxL := 6) (by decide) rfl (Nat.le_of_ble_eq_true rfl) ?_
  intro p e s m args below meth c A Q ls hF0 hin hK hN hP hD hA hS hl hret
  obtain ⟨hx, hb, hml, hown, hts0⟩ := hF0
  have hts : ∀ w ∈ si_tbl, w.before args s = true := fun w hw => hts0 w (List.mem_cons_of_mem _ hw)
  have hF : CallFix p m c zkB_partOrder 6 s args si_tbl zRB := ⟨hx, hb, hml, hown, hts⟩
  have hl : lv_has ls 6 [(0, .ref h0), (1, .long w)] := hl
  refine lv_iconst (v := nI 0) hx hb zdB_partOrder_0 (by decide) ?_
  refine lv_istore_n (lv' := [(3, .int (nI 0)), (0, .ref h0), (1, .long w)]) hx hb zdB_partOrder_1 rfl hl (Nat.le_of_ble_eq_true rfl) rfl (fun ls hl => ?_)
  refine lv_iconst (v := nI 0) hx hb zdB_partOrder_2 (by decide) ?_
  refine lv_istore (lv' := [(4, .int (nI 0)), (3, .int (nI 0)), (0, .ref h0), (1, .long w)]) hx hb zdB_partOrder_3 hl (Nat.le_of_ble_eq_true rfl) rfl (fun ls hl => ?_)
  refine lv_iconst (v := nI 0) hx hb zdB_partOrder_5 (by decide) ?_
  refine lv_istore (lv' := [(5, .int (nI 0)), (4, .int (nI 0)), (3, .int (nI 0)), (0, .ref h0), (1, .long w)]) hx hb zdB_partOrder_6 hl (Nat.le_of_ble_eq_true rfl) rfl (fun ls hl => ?_)
  have L8 : ∀ (N : Nat) (i : Nat) (zc : Nat) (oc : Nat) (f2 : Nat → Int32) (f3 : Nat → Int32) (H : Heap) (locs : List Loc) (ls : Array Slot), nn + 1 - i < N → (i ≤ nn + 1) → (zc = si_cn i (fun k => !si_bi w k)) → (oc = si_cn i (si_bi w)) → (∀ x, x < i → si_bi w x = false → f2 (si_cn x (fun k => !si_bi w k)) = fo x) → (∀ x, x < i → si_bi w x = true → f3 (si_cn x (si_bi w)) = fo x) → (∀ x, i ≤ x → f2 x = fo x) → lv_has ls 6 [(0, .ref h0), (1, .long w), (3, .int (nI zc)), (4, .int (nI oc)), (5, .int (nI i))] → va_P g.1 vwCl [(h0, .inr (0, [.ref b1, .ref b2, .ref b3, .ref b4, .int (nI nn)])), (b2, .inl (g.2.1, 61, .inl f2)), (b3, .inl (g.2.1, 61, .inl f3))] H → va_D A [(h0, .inr (0, [.ref b1, .ref b2, .ref b3, .ref b4, .int (nI nn)])), (b2, .inl (g.2.1, 61, .inl f2)), (b3, .inl (g.2.1, 61, .inl f3))] → va_S A s.heap H locs → W p l e ({ frames := 0, cells := 0, slots := 0, locals := 0 } : Room) s m args below meth c H locs 0 0 Q (F0 m 8 ls []) := by
    intro N
    induction N with
    | zero => intro i zc oc f2 f3 H locs ls hMs; exact absurd hMs (Nat.not_lt_zero _)
    | succ N ih8 =>
      intro i zc oc f2 f3 H locs ls hMs hi hz ho hZ hO hT hl hP hD hS
      refine lv_iload hx hb zdB_partOrder_8 (lv_at hl 4 rfl) ?_
      refine lv_aload_n hx hb zdB_partOrder_10 rfl (lv_at hl 0 rfl) ?_
      refine va_get (D := g.1) (ci := 0) (v := .int (nI nn)) (C := zRB) (T := zTB) (N := 5) hx hb hts ziB hown hK hP 0 rfl rfl 4 (by decide) (hts _ zlB_24) (fun _ h => h) rfl zdB_partOrder_11 ?_
      refine si_icmp_gt (tgt := 70) hx hb zdB_partOrder_14 rfl (by omega) (by omega) (fun h14 => ?_) (fun h14 => ?_)
      · have hie : i = nn + 1 := by omega
        have hz2 : zc = si_cn (nn + 1) (fun k => !si_bi w k) := by rw [hz, hie]
        have ho2 : oc = si_cn (nn + 1) (si_bi w) := by rw [ho, hie]
        have hsum := si_cn_not (nn + 1) (si_bi w)
        have hO2 : ∀ x, x < nn + 1 → si_bi w x = true → f3 (si_cn x (si_bi w)) = fo x := fun x hx => hO x (by omega)
        refine lv_iconst (v := nI 0) hx hb zdB_partOrder_70 (by decide) ?_
        refine lv_istore (lv' := [(5, .int (nI 0)), (0, .ref h0), (1, .long w), (3, .int (nI zc)), (4, .int (nI oc))]) hx hb zdB_partOrder_71 hl (Nat.le_of_ble_eq_true rfl) rfl (fun ls hl => ?_)
        have L73 : ∀ (N : Nat) (i : Nat) (f2 : Nat → Int32) (H : Heap) (locs : List Loc) (ls : Array Slot), oc - i < N → (i ≤ oc) → (∀ x, x < nn + 1 → si_bi w x = false → f2 (si_cn x (fun k => !si_bi w k)) = fo x) → (∀ x, x < nn + 1 → si_bi w x = true → si_cn x (si_bi w) < i → f2 (zc + si_cn x (si_bi w)) = fo x) → lv_has ls 6 [(0, .ref h0), (1, .long w), (3, .int (nI zc)), (4, .int (nI oc)), (5, .int (nI i))] → va_P g.1 vwCl [(h0, .inr (0, [.ref b1, .ref b2, .ref b3, .ref b4, .int (nI nn)])), (b2, .inl (g.2.1, 61, .inl f2)), (b3, .inl (g.2.1, 61, .inl f3))] H → va_D A [(h0, .inr (0, [.ref b1, .ref b2, .ref b3, .ref b4, .int (nI nn)])), (b2, .inl (g.2.1, 61, .inl f2)), (b3, .inl (g.2.1, 61, .inl f3))] → va_S A s.heap H locs → W p l e ({ frames := 0, cells := 0, slots := 0, locals := 0 } : Room) s m args below meth c H locs 0 0 Q (F0 m 73 ls []) := by
          intro N
          induction N with
          | zero => intro i f2 H locs ls hMs; exact absurd hMs (Nat.not_lt_zero _)
          | succ N ih73 =>
            intro i f2 H locs ls hMs hi2 hZ2 hC hl hP hD hS
            refine lv_iload hx hb zdB_partOrder_73 (lv_at hl 4 rfl) ?_
            refine lv_iload hx hb zdB_partOrder_75 (lv_at hl 3 rfl) ?_
            refine si_icmp_ge (tgt := 102) hx hb zdB_partOrder_77 rfl (by omega) (by omega) (fun h77 => ?_) (fun h77 => ?_)
            · have hie2 : i = oc := by omega
              exact hret (f2, f3) _ _ _ _ (si_poE hz2 ho2 hZ2 (fun x hx hb9 hl9 => hC x hx hb9 (by omega))) (hP.sub [0, 1, 2] rfl) (hD.sub [0, 1, 2] (by decide) rfl) hS zdB_partOrder_102
            · refine lv_aload_n hx hb zdB_partOrder_80 rfl (lv_at hl 0 rfl) ?_
              refine va_get (D := g.1) (ci := 0) (v := .ref b2) (C := zRB) (T := zTB) (N := 5) hx hb hts ziB hown hK hP 0 rfl rfl 1 (by decide) (hts _ zlB_15) (fun _ h => h) rfl zdB_partOrder_81 ?_
              refine lv_iload_n hx hb zdB_partOrder_84 rfl (lv_at hl 2 rfl) ?_
              refine lv_iload hx hb zdB_partOrder_85 (lv_at hl 4 rfl) ?_
              refine si_iadd (v := nI (zc + i)) hx hb zdB_partOrder_87 (nI_add _ _) ?_
              refine lv_aload_n hx hb zdB_partOrder_88 rfl (lv_at hl 0 rfl) ?_
              refine va_get (D := g.1) (ci := 0) (v := .ref b3) (C := zRB) (T := zTB) (N := 5) hx hb hts ziB hown hK hP 0 rfl rfl 2 (by decide) (hts _ zlB_18) (fun _ h => h) rfl zdB_partOrder_89 ?_
              refine lv_iload hx hb zdB_partOrder_92 (lv_at hl 4 rfl) ?_
              refine si_iald (v := f3 i) hx hb hK hP 2 0 rfl rfl (by decide) (by omega) (rfl) zdB_partOrder_94 ?_
              refine si_iast hx hb hK hP hD hS 1 0 rfl rfl (by decide) (by omega) zdB_partOrder_95 (fun H locs hP hD hS => ?_)
              have hP : va_P g.1 vwCl [(h0, .inr (0, [.ref b1, .ref b2, .ref b3, .ref b4, .int (nI nn)])), (b2, .inl (g.2.1, 61, .inl (upd f2 (zc + i) (f3 i)))), (b3, .inl (g.2.1, 61, .inl f3))] H := hP
              have hD : va_D A [(h0, .inr (0, [.ref b1, .ref b2, .ref b3, .ref b4, .int (nI nn)])), (b2, .inl (g.2.1, 61, .inl (upd f2 (zc + i) (f3 i)))), (b3, .inl (g.2.1, 61, .inl f3))] := hD
              refine lv_iinc (k := 4) (v := nI (i + 1)) (lv' := [(5, .int (nI (i + 1))), (0, .ref h0), (1, .long w), (3, .int (nI zc)), (4, .int (nI oc))]) hx hb zdB_partOrder_96 hl rfl (si_inc _) (Nat.le_of_ble_eq_true rfl) rfl (fun ls hl => ?_)
              refine lv_goto (tgt := 73) hx hb zdB_partOrder_99 rfl ?_
              exact ih73 (i + 1) (upd f2 (zc + i) (f3 i)) _ _ _ (by omega) (by omega) (si_poK hz2 hZ2) (si_poC hz2 h77 hC hO2) (lv_sub hl [1, 2, 3, 4, 0] rfl) (hP.sub [0, 1, 2] rfl) (hD.sub [0, 1, 2] (by decide) rfl) hS
        exact L73 (oc - 0 + 1) 0 f2 _ _ _ (by omega) (by omega) (fun x hx => hZ x (by omega)) (fun x _ _ h => absurd h (Nat.not_lt_zero _)) (lv_sub hl [1, 2, 3, 4, 0] rfl) (hP.sub [0, 1, 2] rfl) (hD.sub [0, 1, 2] (by decide) rfl) hS
      · have hzl : zc ≤ i := by rw [hz]; exact si_cn_le _ _
        have hol : oc ≤ i := by rw [ho]; exact si_cn_le _ _
        refine lv_lload_n hx hb zdB_partOrder_17 rfl (lv_at hl 1 rfl) ?_
        refine lv_iload hx hb zdB_partOrder_18 (lv_at hl 4 rfl) ?_
        refine lv_lushr (v := (w.toUInt64 >>> ((nI i).toInt64.toUInt64 &&& Int64.toUInt64 63)).toInt64) hx hb zdB_partOrder_20 (rfl) ?_
        refine lv_lconst (v := 1) hx hb zdB_partOrder_21 (by decide) ?_
        refine si_land (v := if si_bi w i = true then 1 else 0) hx hb zdB_partOrder_22 (si_ush w (by omega)) ?_
        refine lv_lconst (v := 0) hx hb zdB_partOrder_23 (by decide) ?_
        refine W.lcmp hx hb zdB_partOrder_24 ?_
        refine lv_if_ne (tgt := 47) hx hb zdB_partOrder_25 rfl (fun h25 => ?_) (fun h25 => ?_)
        · have hbt : si_bi w i = true := si_nf (fun z => h25 ((si_bz _).mpr z))
          refine lv_aload_n hx hb zdB_partOrder_47 rfl (lv_at hl 0 rfl) ?_
          refine va_get (D := g.1) (ci := 0) (v := .ref b3) (C := zRB) (T := zTB) (N := 5) hx hb hts ziB hown hK hP 0 rfl rfl 2 (by decide) (hts _ zlB_18) (fun _ h => h) rfl zdB_partOrder_48 ?_
          refine lv_iload hx hb zdB_partOrder_51 (lv_at hl 3 rfl) ?_
          refine lv_aload_n hx hb zdB_partOrder_53 rfl (lv_at hl 0 rfl) ?_
          refine va_get (D := g.1) (ci := 0) (v := .ref b2) (C := zRB) (T := zTB) (N := 5) hx hb hts ziB hown hK hP 0 rfl rfl 1 (by decide) (hts _ zlB_15) (fun _ h => h) rfl zdB_partOrder_54 ?_
          refine lv_iload hx hb zdB_partOrder_57 (lv_at hl 4 rfl) ?_
          refine si_iald (v := fo i) hx hb hK hP 1 0 rfl rfl (by decide) (by omega) (hT i (Nat.le_refl _)) zdB_partOrder_59 ?_
          refine si_iast hx hb hK hP hD hS 2 0 rfl rfl (by decide) (by omega) zdB_partOrder_60 (fun H locs hP hD hS => ?_)
          have hP : va_P g.1 vwCl [(h0, .inr (0, [.ref b1, .ref b2, .ref b3, .ref b4, .int (nI nn)])), (b2, .inl (g.2.1, 61, .inl f2)), (b3, .inl (g.2.1, 61, .inl (upd f3 oc (fo i))))] H := hP
          have hD : va_D A [(h0, .inr (0, [.ref b1, .ref b2, .ref b3, .ref b4, .int (nI nn)])), (b2, .inl (g.2.1, 61, .inl f2)), (b3, .inl (g.2.1, 61, .inl (upd f3 oc (fo i))))] := hD
          refine lv_iinc (k := 3) (v := nI (oc + 1)) (lv' := [(4, .int (nI (oc + 1))), (0, .ref h0), (1, .long w), (3, .int (nI zc)), (5, .int (nI i))]) hx hb zdB_partOrder_61 hl rfl (si_inc _) (Nat.le_of_ble_eq_true rfl) rfl (fun ls hl => ?_)
          refine lv_iinc (k := 4) (v := nI (i + 1)) (lv' := [(5, .int (nI (i + 1))), (4, .int (nI (oc + 1))), (0, .ref h0), (1, .long w), (3, .int (nI zc))]) hx hb zdB_partOrder_64 hl rfl (si_inc _) (Nat.le_of_ble_eq_true rfl) rfl (fun ls hl => ?_)
          refine lv_goto (tgt := 8) hx hb zdB_partOrder_67 rfl ?_
          exact ih8 (i + 1) zc (oc + 1) f2 (upd f3 oc (fo i)) _ _ _ (by omega) (by omega) (by first | (rw [si_cn_t (P := (fun k => !si_bi w k)) (by simp [hbf]), hz]; done) | (rw [si_cn_f (P := (fun k => !si_bi w k)) (by simp [hbt]), hz]; done)) (by first | (rw [si_cn_t hbt, ho]; done) | (rw [si_cn_f hbf, ho]; done)) (by first | exact si_poZ hz hZ | exact si_poS (v := true) hbt hZ) (by first | exact si_poO ho hO | exact si_poS (v := false) hbf hO) (fun x hx => by first | exact hT x (by omega) | (rw [pk_un (by omega)]; exact hT x (by omega))) (lv_sub hl [2, 3, 4, 1, 0] rfl) (hP.sub [0, 1, 2] rfl) (hD.sub [0, 1, 2] (by decide) rfl) hS
        · have hbf : si_bi w i = false := (si_bz _).mp h25
          refine lv_aload_n hx hb zdB_partOrder_28 rfl (lv_at hl 0 rfl) ?_
          refine va_get (D := g.1) (ci := 0) (v := .ref b2) (C := zRB) (T := zTB) (N := 5) hx hb hts ziB hown hK hP 0 rfl rfl 1 (by decide) (hts _ zlB_15) (fun _ h => h) rfl zdB_partOrder_29 ?_
          refine lv_iload_n hx hb zdB_partOrder_32 rfl (lv_at hl 2 rfl) ?_
          refine lv_aload_n hx hb zdB_partOrder_33 rfl (lv_at hl 0 rfl) ?_
          refine va_get (D := g.1) (ci := 0) (v := .ref b2) (C := zRB) (T := zTB) (N := 5) hx hb hts ziB hown hK hP 0 rfl rfl 1 (by decide) (hts _ zlB_15) (fun _ h => h) rfl zdB_partOrder_34 ?_
          refine lv_iload hx hb zdB_partOrder_37 (lv_at hl 4 rfl) ?_
          refine si_iald (v := fo i) hx hb hK hP 1 0 rfl rfl (by decide) (by omega) (hT i (Nat.le_refl _)) zdB_partOrder_39 ?_
          refine si_iast hx hb hK hP hD hS 1 0 rfl rfl (by decide) (by omega) zdB_partOrder_40 (fun H locs hP hD hS => ?_)
          have hP : va_P g.1 vwCl [(h0, .inr (0, [.ref b1, .ref b2, .ref b3, .ref b4, .int (nI nn)])), (b2, .inl (g.2.1, 61, .inl (upd f2 zc (fo i)))), (b3, .inl (g.2.1, 61, .inl f3))] H := hP
          have hD : va_D A [(h0, .inr (0, [.ref b1, .ref b2, .ref b3, .ref b4, .int (nI nn)])), (b2, .inl (g.2.1, 61, .inl (upd f2 zc (fo i)))), (b3, .inl (g.2.1, 61, .inl f3))] := hD
          refine lv_iinc (k := 2) (v := nI (zc + 1)) (lv' := [(3, .int (nI (zc + 1))), (0, .ref h0), (1, .long w), (4, .int (nI oc)), (5, .int (nI i))]) hx hb zdB_partOrder_41 hl rfl (si_inc _) (Nat.le_of_ble_eq_true rfl) rfl (fun ls hl => ?_)
          refine lv_goto (tgt := 64) hx hb zdB_partOrder_44 rfl ?_
          refine lv_iinc (k := 4) (v := nI (i + 1)) (lv' := [(5, .int (nI (i + 1))), (3, .int (nI (zc + 1))), (0, .ref h0), (1, .long w), (4, .int (nI oc))]) hx hb zdB_partOrder_64 hl rfl (si_inc _) (Nat.le_of_ble_eq_true rfl) rfl (fun ls hl => ?_)
          refine lv_goto (tgt := 8) hx hb zdB_partOrder_67 rfl ?_
          exact ih8 (i + 1) (zc + 1) oc (upd f2 zc (fo i)) f3 _ _ _ (by omega) (by omega) (by first | (rw [si_cn_t (P := (fun k => !si_bi w k)) (by simp [hbf]), hz]; done) | (rw [si_cn_f (P := (fun k => !si_bi w k)) (by simp [hbt]), hz]; done)) (by first | (rw [si_cn_t hbt, ho]; done) | (rw [si_cn_f hbf, ho]; done)) (by first | exact si_poZ hz hZ | exact si_poS (v := true) hbt hZ) (by first | exact si_poO ho hO | exact si_poS (v := false) hbf hO) (fun x hx => by first | exact hT x (by omega) | (rw [pk_un (by omega)]; exact hT x (by omega))) (lv_sub hl [2, 3, 1, 4, 0] rfl) (hP.sub [0, 1, 2] rfl) (hD.sub [0, 1, 2] (by decide) rfl) hS
  exact L8 (nn + 1 - 0 + 1) 0 0 0 fo fn _ _ _ (by omega) (by omega) (rfl) (rfl) (fun x hx => absurd hx (Nat.not_lt_zero _)) (fun x hx => absurd hx (Nat.not_lt_zero _)) (fun x _ => rfl) (lv_sub hl [3, 4, 2, 1, 0] rfl) (hP.sub [0, 1, 2] rfl) (hD.sub [0, 1, 2] (by decide) rfl) hS

set_option maxHeartbeats 4000000 in
set_option maxRecDepth 100000 in
/-- takeFrom -/
theorem cB_takeFrom (l : Launch) (g : si_G) (h0 b1 b2 b3 b4 h2 a2 a3 : Nat) (last : Int32) (fc fp : Nat → Int32) (h1 a1 cap : Nat) (f : Nat → Int32) (t : List Nat) (hcap : cap < 2 ^ 20) (htc : t.length ≤ cap) (hok : si_ok t) (hf : si_ln t f) (hpl : ∀ x, x < t.length + 1 → fp x = nI (si_pl t x)) : si_Mv (S := Nat → Int32) l g vwCl zyB_takeFrom zwB_takeFrom ({ frames := 1, cells := 0, slots := 0, locals := 21 } : Room) [.ref h0, .ref h1, .ref h2] [(h0, .inr (0, [.ref b1, .ref b2, .ref b3, .ref b4, .int last])), (b1, .inl (g.2.1, 61, .inl fc)), (h1, .inr (2, [.ref a1, .int (nI t.length)])), (a1, .inl (g.2.1, cap, .inl f)), (h2, .inr (4, [.ref a2, .ref a3, .int (nI t.length)])), (a3, .inl (g.2.1, 61, .inl fp))] (fun u => ∀ x, x < t.length + 1 → u x = nI (si_B t x)) (fun u => [(h0, .inr (0, [.ref b1, .ref b2, .ref b3, .ref b4, .int (nI t.length)])), (b1, .inl (g.2.1, 61, .inl u)), (h1, .inr (2, [.ref a1, .int (nI t.length)])), (a1, .inl (g.2.1, cap, .inl f)), (h2, .inr (4, [.ref a2, .ref a3, .int (nI t.length)])), (a3, .inl (g.2.1, 61, .inl fp))]) := by
  refine si_Mv.of (cc := zkB_takeFrom) (maxL := 4) (by decide) rfl (Nat.le_of_ble_eq_true rfl) ?_
  intro p e s m args below meth c A Q ls hF0 hin hK hN hP hD hA hS hl hret
  obtain ⟨hx, hb, hml, hown, hts0⟩ := hF0
  have hts : ∀ w ∈ si_tbl, w.before args s = true := fun w hw => hts0 w (List.mem_cons_of_mem _ hw)
  have hF : CallFix p m c zkB_takeFrom 4 s args si_tbl zRB := ⟨hx, hb, hml, hown, hts⟩
  have hl : lv_has ls 4 [(0, .ref h0), (1, .ref h1), (2, .ref h2)] := hl
  have hn := hok.1
  refine lv_aload_n hx hb zdB_takeFrom_0 rfl (lv_at hl 0 rfl) ?_
  refine lv_aload_n hx hb zdB_takeFrom_1 rfl (lv_at hl 2 rfl) ?_
  refine va_getN (D := g.1) (ci := 4) (v := .int (nI t.length)) (C := zRS) (T := zTS) (N := 3) hx hb hts ziS hown hK hP 4 rfl rfl 2 (by decide) (va_Nw.use rfl (hN _ zlB_28)) (fun _ h => h) rfl zdB_takeFrom_2 ?_
  refine va_put (D := g.1) (ci := 0) (v := .int (nI t.length)) (ty := .int) (C := zRB) (T := zTB) (N := 5) hx hb hts ziB ztB ztoB znB hown hK hP hD hS 0 rfl rfl 4 (by decide) (hts _ zlB_24) (fun _ h => h) rfl (by decide +kernel) rfl rfl (Nat.le_of_ble_eq_true rfl) zdB_takeFrom_5 (fun H locs hP hD hS => ?_)
  have hP : va_P g.1 vwCl [(h0, .inr (0, [.ref b1, .ref b2, .ref b3, .ref b4, .int (nI t.length)])), (b1, .inl (g.2.1, 61, .inl fc)), (h1, .inr (2, [.ref a1, .int (nI t.length)])), (a1, .inl (g.2.1, cap, .inl f)), (h2, .inr (4, [.ref a2, .ref a3, .int (nI t.length)])), (a3, .inl (g.2.1, 61, .inl fp))] H := hP
  have hD : va_D A [(h0, .inr (0, [.ref b1, .ref b2, .ref b3, .ref b4, .int (nI t.length)])), (b1, .inl (g.2.1, 61, .inl fc)), (h1, .inr (2, [.ref a1, .int (nI t.length)])), (a1, .inl (g.2.1, cap, .inl f)), (h2, .inr (4, [.ref a2, .ref a3, .int (nI t.length)])), (a3, .inl (g.2.1, 61, .inl fp))] := hD
  refine lv_iconst (v := nI 0) hx hb zdB_takeFrom_8 (by decide) ?_
  refine lv_istore_n (lv' := [(3, .int (nI 0)), (0, .ref h0), (1, .ref h1), (2, .ref h2)]) hx hb zdB_takeFrom_9 rfl hl (Nat.le_of_ble_eq_true rfl) rfl (fun ls hl => ?_)
  have L10 : ∀ (N : Nat) (k : Nat) (f2 : Nat → Int32) (H : Heap) (locs : List Loc) (ls : Array Slot), t.length + 1 - k < N → (k ≤ t.length + 1) → (∀ x, x < k → f2 x = nI (si_B t x)) → lv_has ls 4 [(0, .ref h0), (1, .ref h1), (2, .ref h2), (3, .int (nI k))] → va_P g.1 vwCl [(h0, .inr (0, [.ref b1, .ref b2, .ref b3, .ref b4, .int (nI t.length)])), (b1, .inl (g.2.1, 61, .inl f2)), (h1, .inr (2, [.ref a1, .int (nI t.length)])), (a1, .inl (g.2.1, cap, .inl f)), (h2, .inr (4, [.ref a2, .ref a3, .int (nI t.length)])), (a3, .inl (g.2.1, 61, .inl fp))] H → va_D A [(h0, .inr (0, [.ref b1, .ref b2, .ref b3, .ref b4, .int (nI t.length)])), (b1, .inl (g.2.1, 61, .inl f2)), (h1, .inr (2, [.ref a1, .int (nI t.length)])), (a1, .inl (g.2.1, cap, .inl f)), (h2, .inr (4, [.ref a2, .ref a3, .int (nI t.length)])), (a3, .inl (g.2.1, 61, .inl fp))] → va_S A s.heap H locs → W p l e ({ frames := 1, cells := 0, slots := 0, locals := 21 } : Room) s m args below meth c H locs 0 0 Q (F0 m 10 ls []) := by
    intro N
    induction N with
    | zero => intro k f2 H locs ls hMs; exact absurd hMs (Nat.not_lt_zero _)
    | succ N ih10 =>
      intro k f2 H locs ls hMs hk hC hl hP hD hS
      refine lv_iload_n hx hb zdB_takeFrom_10 rfl (lv_at hl 3 rfl) ?_
      refine lv_aload_n hx hb zdB_takeFrom_11 rfl (lv_at hl 0 rfl) ?_
      refine va_get (D := g.1) (ci := 0) (v := .int (nI t.length)) (C := zRB) (T := zTB) (N := 5) hx hb hts ziB hown hK hP 0 rfl rfl 4 (by decide) (hts _ zlB_24) (fun _ h => h) rfl zdB_takeFrom_12 ?_
      refine si_icmp_gt (tgt := 42) hx hb zdB_takeFrom_15 rfl (by omega) (by omega) (fun h15 => ?_) (fun h15 => ?_)
      · exact hret f2 _ _ _ _ (fun x hx => hC x (by omega)) (hP.sub [0, 1, 2, 3, 4, 5] rfl) (hD.sub [0, 1, 2, 3, 4, 5] (by decide) rfl) hS zdB_takeFrom_42
      · refine lv_aload_n hx hb zdB_takeFrom_18 rfl (lv_at hl 0 rfl) ?_
        refine va_get (D := g.1) (ci := 0) (v := .ref b1) (C := zRB) (T := zTB) (N := 5) hx hb hts ziB hown hK hP 0 rfl rfl 0 (by decide) (hts _ zlB_9) (fun _ h => h) rfl zdB_takeFrom_19 ?_
        refine lv_iload_n hx hb zdB_takeFrom_22 rfl (lv_at hl 3 rfl) ?_
        refine lv_aload_n hx hb zdB_takeFrom_23 rfl (lv_at hl 1 rfl) ?_
        refine lv_aload_n hx hb zdB_takeFrom_24 rfl (lv_at hl 2 rfl) ?_
        refine va_getN (D := g.1) (ci := 4) (v := .ref a3) (C := zRS) (T := zTS) (N := 3) hx hb hts ziS hown hK hP 4 rfl rfl 1 (by decide) (va_Nw.use rfl (hN _ zlB_31)) (fun _ h => h) rfl zdB_takeFrom_25 ?_
        refine lv_iload_n hx hb zdB_takeFrom_28 rfl (lv_at hl 3 rfl) ?_
        refine si_iald (v := nI (si_pl t k)) hx hb hK hP 5 0 rfl rfl (by decide) (by omega) (hpl k (by omega)) zdB_takeFrom_29 ?_
        refine lv_iconst (v := nI 1) hx hb zdB_takeFrom_30 (by decide) ?_
        refine si_isub (v := nI (si_pl t k) - nI 1) hx hb zdB_takeFrom_31 (rfl) ?_
        refine (cL_codeAt l g h1 a1 cap t.length f (nI (si_pl t k) - nI 1) (nI (si_B t k)) (by omega) (by omega) (si_ca_b hf (si_pl_ok (by omega)).1 (by omega))).callV (wr := [(h0, .inr (0, [.ref b1, .ref b2, .ref b3, .ref b4, .int (nI t.length)])), (b1, .inl (g.2.1, 61, .inl f2)), (h2, .inr (4, [.ref a2, .ref a3, .int (nI t.length)])), (a3, .inl (g.2.1, 61, .inl fp))]) (As := [.int (nI (si_pl t k) - nI 1)]) (rest := [.int (nI k), .ref b1]) hF (si_cV 1 hts zcL_codeAt zlB_34 zimL_codeAt zseL_codeAt ziniL zhL_codeAt ⟨Nat.le_of_ble_eq_true rfl, Nat.le_of_ble_eq_true rfl⟩) hK hN hP hD hS hA [2, 3] [0, 1, 4, 5] rfl rfl (by decide) (by decide) (va_recv (q := (zRL, zTL, 2)) hK hP (ci := 2) (q0 := 2) rfl rfl) rfl hl.1 rfl (Nat.le_of_ble_eq_true rfl) zdB_takeFrom_32 ⟨Nat.le_of_ble_eq_true rfl, Nat.le_of_ble_eq_true rfl⟩ rfl rfl (fun r_ _u H locs hq hP hD hS => ?_)
        subst hq
        have hP : va_P g.1 vwCl [(h0, .inr (0, [.ref b1, .ref b2, .ref b3, .ref b4, .int (nI t.length)])), (b1, .inl (g.2.1, 61, .inl f2)), (h2, .inr (4, [.ref a2, .ref a3, .int (nI t.length)])), (a3, .inl (g.2.1, 61, .inl fp)), (h1, .inr (2, [.ref a1, .int (nI t.length)])), (a1, .inl (g.2.1, cap, .inl f))] H := hP
        have hD : va_D A [(h0, .inr (0, [.ref b1, .ref b2, .ref b3, .ref b4, .int (nI t.length)])), (b1, .inl (g.2.1, 61, .inl f2)), (h2, .inr (4, [.ref a2, .ref a3, .int (nI t.length)])), (a3, .inl (g.2.1, 61, .inl fp)), (h1, .inr (2, [.ref a1, .int (nI t.length)])), (a1, .inl (g.2.1, cap, .inl f))] := hD
        refine si_iast hx hb hK hP hD hS 1 0 rfl rfl (by decide) (by omega) zdB_takeFrom_35 (fun H locs hP hD hS => ?_)
        have hP : va_P g.1 vwCl [(h0, .inr (0, [.ref b1, .ref b2, .ref b3, .ref b4, .int (nI t.length)])), (b1, .inl (g.2.1, 61, .inl (upd f2 k (nI (si_B t k))))), (h2, .inr (4, [.ref a2, .ref a3, .int (nI t.length)])), (a3, .inl (g.2.1, 61, .inl fp)), (h1, .inr (2, [.ref a1, .int (nI t.length)])), (a1, .inl (g.2.1, cap, .inl f))] H := hP
        have hD : va_D A [(h0, .inr (0, [.ref b1, .ref b2, .ref b3, .ref b4, .int (nI t.length)])), (b1, .inl (g.2.1, 61, .inl (upd f2 k (nI (si_B t k))))), (h2, .inr (4, [.ref a2, .ref a3, .int (nI t.length)])), (a3, .inl (g.2.1, 61, .inl fp)), (h1, .inr (2, [.ref a1, .int (nI t.length)])), (a1, .inl (g.2.1, cap, .inl f))] := hD
        refine lv_iinc (k := 3) (v := nI (k + 1)) (lv' := [(3, .int (nI (k + 1))), (0, .ref h0), (1, .ref h1), (2, .ref h2)]) hx hb zdB_takeFrom_36 hl rfl (si_inc _) (Nat.le_of_ble_eq_true rfl) rfl (fun ls hl => ?_)
        refine lv_goto (tgt := 10) hx hb zdB_takeFrom_39 rfl ?_
        exact ih10 (k + 1) (upd f2 k (nI (si_B t k))) _ _ _ (by omega) (by omega) (si_up (F := fun x => nI (si_B t x)) hC rfl) (lv_sub hl [1, 2, 3, 0] rfl) (hP.sub [0, 1, 4, 5, 2, 3] rfl) (hD.sub [0, 1, 4, 5, 2, 3] (by decide) rfl) hS
  exact L10 (t.length + 1 - 0 + 1) 0 fc _ _ _ (by omega) (by omega) (fun x hx => absurd hx (Nat.not_lt_zero _)) (lv_sub hl [1, 2, 3, 0] rfl) (hP.sub [0, 1, 2, 3, 4, 5] rfl) (hD.sub [0, 1, 2, 3, 4, 5] (by decide) rfl) hS

set_option maxHeartbeats 4000000 in
set_option maxRecDepth 100000 in
/-- rowBefore -/
theorem cB_rowBefore (l : Launch) (g : si_G) (h0 b1 b2 b3 b4 nn : Nat) (fc : Nat → Int32) (cx : Nat → Nat) (kr : Nat) (hn : nn ≤ 60) (hcx : ∀ x, x < nn + 1 → fc x = nI (cx x)) (hc7 : ∀ x, x < nn + 1 → cx x < 128) (hkr : kr < nn + 1) : si_Mi (S := Unit) l g vwCl zyB_rowBefore zwB_rowBefore ({ frames := 0, cells := 0, slots := 0, locals := 0 } : Room) [.ref h0, .int (nI kr)] [(h0, .inr (0, [.ref b1, .ref b2, .ref b3, .ref b4, .int (nI nn)])), (b1, .inl (g.2.1, 61, .inl fc))] (fun r u => r = nI (si_lf cx (nn + 1) kr)) (fun u => [(h0, .inr (0, [.ref b1, .ref b2, .ref b3, .ref b4, .int (nI nn)])), (b1, .inl (g.2.1, 61, .inl fc))]) := by
  refine si_Mi.of (cc := zkB_rowBefore) (maxL := 4) (by decide) rfl (Nat.le_of_ble_eq_true rfl) ?_
  intro p e s m args below meth c A Q ls hF0 hin hK hN hP hD hA hS hl hret
  obtain ⟨hx, hb, hml, hown, hts0⟩ := hF0
  have hts : ∀ w ∈ si_tbl, w.before args s = true := fun w hw => hts0 w (List.mem_cons_of_mem _ hw)
  have hF : CallFix p m c zkB_rowBefore 4 s args si_tbl zRB := ⟨hx, hb, hml, hown, hts⟩
  have hl : lv_has ls 4 [(0, .ref h0), (1, .int (nI kr))] := hl
  have hckr := hc7 kr hkr
  refine lv_iconst (v := nI 0) hx hb zdB_rowBefore_0 (by decide) ?_
  refine lv_istore_n (lv' := [(2, .int (nI 0)), (0, .ref h0), (1, .int (nI kr))]) hx hb zdB_rowBefore_1 rfl hl (Nat.le_of_ble_eq_true rfl) rfl (fun ls hl => ?_)
  refine lv_iconst (v := nI 0) hx hb zdB_rowBefore_2 (by decide) ?_
  refine lv_istore_n (lv' := [(3, .int (nI 0)), (2, .int (nI 0)), (0, .ref h0), (1, .int (nI kr))]) hx hb zdB_rowBefore_3 rfl hl (Nat.le_of_ble_eq_true rfl) rfl (fun ls hl => ?_)
  have L4 : ∀ (N : Nat) (k : Nat) (row : Nat) (H : Heap) (locs : List Loc) (ls : Array Slot), nn + 1 - k < N → (k ≤ nn + 1) → (row = si_cn k (fun x => si_lo cx x kr)) → lv_has ls 4 [(0, .ref h0), (1, .int (nI kr)), (2, .int (nI row)), (3, .int (nI k))] → va_P g.1 vwCl [(h0, .inr (0, [.ref b1, .ref b2, .ref b3, .ref b4, .int (nI nn)])), (b1, .inl (g.2.1, 61, .inl fc))] H → va_D A [(h0, .inr (0, [.ref b1, .ref b2, .ref b3, .ref b4, .int (nI nn)])), (b1, .inl (g.2.1, 61, .inl fc))] → va_S A s.heap H locs → W p l e ({ frames := 0, cells := 0, slots := 0, locals := 0 } : Room) s m args below meth c H locs 0 0 Q (F0 m 4 ls []) := by
    intro N
    induction N with
    | zero => intro k row H locs ls hMs; exact absurd hMs (Nat.not_lt_zero _)
    | succ N ih4 =>
      intro k row H locs ls hMs hk hrw hl hP hD hS
      refine lv_iload_n hx hb zdB_rowBefore_4 rfl (lv_at hl 3 rfl) ?_
      refine lv_aload_n hx hb zdB_rowBefore_5 rfl (lv_at hl 0 rfl) ?_
      refine va_get (D := g.1) (ci := 0) (v := .int (nI nn)) (C := zRB) (T := zTB) (N := 5) hx hb hts ziB hown hK hP 0 rfl rfl 4 (by decide) (hts _ zlB_24) (fun _ h => h) rfl zdB_rowBefore_6 ?_
      refine si_icmp_gt (tgt := 56) hx hb zdB_rowBefore_9 rfl (by omega) (by omega) (fun h9 => ?_) (fun h9 => ?_)
      · refine lv_iload_n hx hb zdB_rowBefore_56 rfl (lv_at hl 2 rfl) ?_
        exact hret (nI row) () _ _ _ _ (rfl) (by rw [hrw, show k = nn + 1 by omega]; rfl) (hP.sub [0, 1] rfl) (hD.sub [0, 1] (by decide) rfl) hS zdB_rowBefore_57
      · have hck := hc7 k (by omega)
        have hrl : row ≤ k := by rw [hrw]; exact si_cn_le _ _
        refine lv_aload_n hx hb zdB_rowBefore_12 rfl (lv_at hl 0 rfl) ?_
        refine va_get (D := g.1) (ci := 0) (v := .ref b1) (C := zRB) (T := zTB) (N := 5) hx hb hts ziB hown hK hP 0 rfl rfl 0 (by decide) (hts _ zlB_9) (fun _ h => h) rfl zdB_rowBefore_13 ?_
        refine lv_iload_n hx hb zdB_rowBefore_16 rfl (lv_at hl 3 rfl) ?_
        refine si_iald (v := nI (cx k)) hx hb hK hP 1 0 rfl rfl (by decide) (by omega) (hcx k (by omega)) zdB_rowBefore_17 ?_
        refine lv_aload_n hx hb zdB_rowBefore_18 rfl (lv_at hl 0 rfl) ?_
        refine va_get (D := g.1) (ci := 0) (v := .ref b1) (C := zRB) (T := zTB) (N := 5) hx hb hts ziB hown hK hP 0 rfl rfl 0 (by decide) (hts _ zlB_9) (fun _ h => h) rfl zdB_rowBefore_19 ?_
        refine lv_iload_n hx hb zdB_rowBefore_22 rfl (lv_at hl 1 rfl) ?_
        refine si_iald (v := nI (cx kr)) hx hb hK hP 1 0 rfl rfl (by decide) (by omega) (hcx kr hkr) zdB_rowBefore_23 ?_
        refine si_icmp_lt (tgt := 47) hx hb zdB_rowBefore_24 rfl (by omega) (by omega) (fun h24 => ?_) (fun h24 => ?_)
        · have hs : si_lo cx k kr = true := by simp [si_lo, h24]
          refine lv_iinc (k := 2) (v := nI (row + 1)) (lv' := [(2, .int (nI (row + 1))), (0, .ref h0), (1, .int (nI kr)), (3, .int (nI k))]) hx hb zdB_rowBefore_47 hl rfl (si_inc _) (Nat.le_of_ble_eq_true rfl) rfl (fun ls hl => ?_)
          refine lv_iinc (k := 3) (v := nI (k + 1)) (lv' := [(3, .int (nI (k + 1))), (2, .int (nI (row + 1))), (0, .ref h0), (1, .int (nI kr))]) hx hb zdB_rowBefore_50 hl rfl (si_inc _) (Nat.le_of_ble_eq_true rfl) rfl (fun ls hl => ?_)
          refine lv_goto (tgt := 4) hx hb zdB_rowBefore_53 rfl ?_
          exact ih4 (k + 1) (row + 1) _ _ _ (by omega) (by omega) (by first | (rw [si_cn_t (P := fun x => si_lo cx x kr) hs, hrw]; done) | (rw [si_cn_f (P := fun x => si_lo cx x kr) hs2, hrw]; done)) (lv_sub hl [2, 3, 1, 0] rfl) (hP.sub [0, 1] rfl) (hD.sub [0, 1] (by decide) rfl) hS
        · refine lv_aload_n hx hb zdB_rowBefore_27 rfl (lv_at hl 0 rfl) ?_
          refine va_get (D := g.1) (ci := 0) (v := .ref b1) (C := zRB) (T := zTB) (N := 5) hx hb hts ziB hown hK hP 0 rfl rfl 0 (by decide) (hts _ zlB_9) (fun _ h => h) rfl zdB_rowBefore_28 ?_
          refine lv_iload_n hx hb zdB_rowBefore_31 rfl (lv_at hl 3 rfl) ?_
          refine si_iald (v := nI (cx k)) hx hb hK hP 1 0 rfl rfl (by decide) (by omega) (hcx k (by omega)) zdB_rowBefore_32 ?_
          refine lv_aload_n hx hb zdB_rowBefore_33 rfl (lv_at hl 0 rfl) ?_
          refine va_get (D := g.1) (ci := 0) (v := .ref b1) (C := zRB) (T := zTB) (N := 5) hx hb hts ziB hown hK hP 0 rfl rfl 0 (by decide) (hts _ zlB_9) (fun _ h => h) rfl zdB_rowBefore_34 ?_
          refine lv_iload_n hx hb zdB_rowBefore_37 rfl (lv_at hl 1 rfl) ?_
          refine si_iald (v := nI (cx kr)) hx hb hK hP 1 0 rfl rfl (by decide) (by omega) (hcx kr hkr) zdB_rowBefore_38 ?_
          refine si_icmp_ne (tgt := 50) hx hb zdB_rowBefore_39 rfl (by omega) (by omega) (fun h39 => ?_) (fun h39 => ?_)
          · have hs2 : si_lo cx k kr = false := by
              have h9 : ¬ cx k < cx kr := by omega
              simp [si_lo, h9, h39]
            refine lv_iinc (k := 3) (v := nI (k + 1)) (lv' := [(3, .int (nI (k + 1))), (0, .ref h0), (1, .int (nI kr)), (2, .int (nI row))]) hx hb zdB_rowBefore_50 hl rfl (si_inc _) (Nat.le_of_ble_eq_true rfl) rfl (fun ls hl => ?_)
            refine lv_goto (tgt := 4) hx hb zdB_rowBefore_53 rfl ?_
            exact ih4 (k + 1) row _ _ _ (by omega) (by omega) (by first | (rw [si_cn_t (P := fun x => si_lo cx x kr) hs, hrw]; done) | (rw [si_cn_f (P := fun x => si_lo cx x kr) hs2, hrw]; done)) (lv_sub hl [1, 2, 3, 0] rfl) (hP.sub [0, 1] rfl) (hD.sub [0, 1] (by decide) rfl) hS
          · refine lv_iload_n hx hb zdB_rowBefore_42 rfl (lv_at hl 3 rfl) ?_
            refine lv_iload_n hx hb zdB_rowBefore_43 rfl (lv_at hl 1 rfl) ?_
            refine si_icmp_ge (tgt := 50) hx hb zdB_rowBefore_44 rfl (by omega) (by omega) (fun h44 => ?_) (fun h44 => ?_)
            · have hs2 : si_lo cx k kr = false := by
                have h9 : ¬ cx k < cx kr := by omega
                have h8 : ¬ k < kr := by omega
                simp [si_lo, h8, h9]
              refine lv_iinc (k := 3) (v := nI (k + 1)) (lv' := [(3, .int (nI (k + 1))), (0, .ref h0), (1, .int (nI kr)), (2, .int (nI row))]) hx hb zdB_rowBefore_50 hl rfl (si_inc _) (Nat.le_of_ble_eq_true rfl) rfl (fun ls hl => ?_)
              refine lv_goto (tgt := 4) hx hb zdB_rowBefore_53 rfl ?_
              exact ih4 (k + 1) row _ _ _ (by omega) (by omega) (by first | (rw [si_cn_t (P := fun x => si_lo cx x kr) hs, hrw]; done) | (rw [si_cn_f (P := fun x => si_lo cx x kr) hs2, hrw]; done)) (lv_sub hl [1, 2, 3, 0] rfl) (hP.sub [0, 1] rfl) (hD.sub [0, 1] (by decide) rfl) hS
            · have hs : si_lo cx k kr = true := by simp [si_lo, h39, h44]
              refine lv_iinc (k := 2) (v := nI (row + 1)) (lv' := [(2, .int (nI (row + 1))), (0, .ref h0), (1, .int (nI kr)), (3, .int (nI k))]) hx hb zdB_rowBefore_47 hl rfl (si_inc _) (Nat.le_of_ble_eq_true rfl) rfl (fun ls hl => ?_)
              refine lv_iinc (k := 3) (v := nI (k + 1)) (lv' := [(3, .int (nI (k + 1))), (2, .int (nI (row + 1))), (0, .ref h0), (1, .int (nI kr))]) hx hb zdB_rowBefore_50 hl rfl (si_inc _) (Nat.le_of_ble_eq_true rfl) rfl (fun ls hl => ?_)
              refine lv_goto (tgt := 4) hx hb zdB_rowBefore_53 rfl ?_
              exact ih4 (k + 1) (row + 1) _ _ _ (by omega) (by omega) (by first | (rw [si_cn_t (P := fun x => si_lo cx x kr) hs, hrw]; done) | (rw [si_cn_f (P := fun x => si_lo cx x kr) hs2, hrw]; done)) (lv_sub hl [2, 3, 1, 0] rfl) (hP.sub [0, 1] rfl) (hD.sub [0, 1] (by decide) rfl) hS
  exact L4 (nn + 1 - 0 + 1) 0 0 _ _ _ (by omega) (by omega) (rfl) (lv_sub hl [2, 3, 1, 0] rfl) (hP.sub [0, 1] rfl) (hD.sub [0, 1] (by decide) rfl) hS
end
section
/-! Contracts of the Befores, second part. Written by wip/draft/p17.py -/
theorem si_upL {f : Nat → Int64} {F : Nat → Int64} {j : Nat} {v : Int64} (h : ∀ k, k < j → f (1 + k) = F k) (hv : v = F j) : ∀ k, k < j + 1 → vp_updL f (1 + j) v (1 + k) = F k := by
  intro k hk
  by_cases e : k = j
  · subst e; rw [pk_uLs, hv]
  · rw [pk_uLn (by omega)]; exact h k (by omega)
set_option maxHeartbeats 4000000 in
set_option maxRecDepth 100000 in
/-- drawLevels -/
theorem cB_drawLevels (l : Launch) (g : si_G) (h0 b1 b2 b3 b4 nn : Nat) (h1 a1 : Nat) (fc fo fn : Nat → Int32) (fw : Nat → Int64) (cx : Nat → Nat) (hn : nn ≤ 60) (hcx : ∀ x, x < nn + 1 → fc x = nI (cx x)) (hc7 : ∀ x, x < nn + 1 → cx x < 128) : si_Mv (S := (Nat → Int32) × (Nat → Int32) × (Nat → Int64)) l g vwCl zyB_drawLevels zwB_drawLevels ({ frames := 1, cells := 0, slots := 0, locals := 25 } : Room) [.ref h0, .ref h1] [(h0, .inr (0, [.ref b1, .ref b2, .ref b3, .ref b4, .int (nI nn)])), (b1, .inl (g.2.1, 61, .inl fc)), (b2, .inl (g.2.1, 61, .inl fo)), (b3, .inl (g.2.1, 61, .inl fn)), (h1, .inr (1, [.ref a1])), (a1, .inl (g.2.2, 23, .inr (.inl fw)))] (fun u => (∀ k, k < 7 → u.2.2 (1 + k) = si_wd (nn + 1) (si_lb cx (nn + 1) k)) ∧ ∀ k, k = 0 ∨ 8 ≤ k → u.2.2 k = fw k) (fun u => [(h0, .inr (0, [.ref b1, .ref b2, .ref b3, .ref b4, .int (nI nn)])), (b1, .inl (g.2.1, 61, .inl fc)), (b2, .inl (g.2.1, 61, .inl u.1)), (b3, .inl (g.2.1, 61, .inl u.2.1)), (h1, .inr (1, [.ref a1])), (a1, .inl (g.2.2, 23, .inr (.inl u.2.2)))]) := by
  refine si_Mv.of (cc := zkB_drawLevels) (maxL := 8) (by decide) rfl (Nat.le_of_ble_eq_true rfl) ?_
  intro p e s m args below meth c A Q ls hF0 hin hK hN hP hD hA hS hl hret
  obtain ⟨hx, hb, hml, hown, hts0⟩ := hF0
  have hts : ∀ w ∈ si_tbl, w.before args s = true := fun w hw => hts0 w (List.mem_cons_of_mem _ hw)
  have hF : CallFix p m c zkB_drawLevels 8 s args si_tbl zRB := ⟨hx, hb, hml, hown, hts⟩
  have hl : lv_has ls 8 [(0, .ref h0), (1, .ref h1)] := hl
  refine lv_aload_n hx hb zdB_drawLevels_0 rfl (lv_at hl 0 rfl) ?_
  refine (cB_startOrder l g h0 b1 b2 b3 b4 nn fo hn).callV (wr := [(b1, .inl (g.2.1, 61, .inl fc)), (b3, .inl (g.2.1, 61, .inl fn)), (h1, .inr (1, [.ref a1])), (a1, .inl (g.2.2, 23, .inr (.inl fw)))]) (As := []) (rest := []) hF (si_cV 0 hts zcB_startOrder zlB_40 zimB_startOrder zseB_startOrder ziniB zhB_startOrder ⟨Nat.le_of_ble_eq_true rfl, Nat.le_of_ble_eq_true rfl⟩) hK hN hP hD hS hA [0, 2] [1, 3, 4, 5] rfl rfl (by decide) (by decide) (va_recv (q := (zRB, zTB, 5)) hK hP (ci := 0) (q0 := 0) rfl rfl) rfl hl.1 rfl (Nat.le_of_ble_eq_true rfl) zdB_drawLevels_1 ⟨Nat.le_of_ble_eq_true rfl, Nat.le_of_ble_eq_true rfl⟩ rfl rfl (fun f0 H locs hq hP hD hS => ?_)
  have hP : va_P g.1 vwCl [(b1, .inl (g.2.1, 61, .inl fc)), (b3, .inl (g.2.1, 61, .inl fn)), (h1, .inr (1, [.ref a1])), (a1, .inl (g.2.2, 23, .inr (.inl fw))), (h0, .inr (0, [.ref b1, .ref b2, .ref b3, .ref b4, .int (nI nn)])), (b2, .inl (g.2.1, 61, .inl f0))] H := hP
  have hD : va_D A [(b1, .inl (g.2.1, 61, .inl fc)), (b3, .inl (g.2.1, 61, .inl fn)), (h1, .inr (1, [.ref a1])), (a1, .inl (g.2.2, 23, .inr (.inl fw))), (h0, .inr (0, [.ref b1, .ref b2, .ref b3, .ref b4, .int (nI nn)])), (b2, .inl (g.2.1, 61, .inl f0))] := hD
  refine lv_iconst (v := nI 0) hx hb zdB_drawLevels_4 (by decide) ?_
  refine lv_istore_n (lv' := [(2, .int (nI 0)), (0, .ref h0), (1, .ref h1)]) hx hb zdB_drawLevels_5 rfl hl (Nat.le_of_ble_eq_true rfl) rfl (fun ls hl => ?_)
  have L6 : ∀ (N : Nat) (j : Nat) (f2 : Nat → Int32) (f3 : Nat → Int32) (w2 : Nat → Int64) (H : Heap) (locs : List Loc) (ls : Array Slot), 7 - j < N → (j ≤ 7) → (∀ x, x < nn + 1 → f2 (si_lp cx (nn + 1) j x) = nI x) → (∀ k, k < j → w2 (1 + k) = si_wd (nn + 1) (si_lb cx (nn + 1) k)) → (∀ k, k = 0 ∨ 8 ≤ k → w2 k = fw k) → lv_has ls 8 [(0, .ref h0), (1, .ref h1), (2, .int (nI j))] → va_P g.1 vwCl [(h0, .inr (0, [.ref b1, .ref b2, .ref b3, .ref b4, .int (nI nn)])), (b1, .inl (g.2.1, 61, .inl fc)), (b2, .inl (g.2.1, 61, .inl f2)), (b3, .inl (g.2.1, 61, .inl f3)), (h1, .inr (1, [.ref a1])), (a1, .inl (g.2.2, 23, .inr (.inl w2)))] H → va_D A [(h0, .inr (0, [.ref b1, .ref b2, .ref b3, .ref b4, .int (nI nn)])), (b1, .inl (g.2.1, 61, .inl fc)), (b2, .inl (g.2.1, 61, .inl f2)), (b3, .inl (g.2.1, 61, .inl f3)), (h1, .inr (1, [.ref a1])), (a1, .inl (g.2.2, 23, .inr (.inl w2)))] → va_S A s.heap H locs → W p l e ({ frames := 1, cells := 0, slots := 0, locals := 25 } : Room) s m args below meth c H locs 0 0 Q (F0 m 6 ls []) := by
    intro N
    induction N with
    | zero => intro j f2 f3 w2 H locs ls hMs; exact absurd hMs (Nat.not_lt_zero _)
    | succ N ih6 =>
      intro j f2 f3 w2 H locs ls hMs hj hO hW hW0 hl hP hD hS
      refine lv_iload_n hx hb zdB_drawLevels_6 rfl (lv_at hl 2 rfl) ?_
      refine lv_bipush (v := nI 7) hx hb zdB_drawLevels_7 (by decide) ?_
      refine si_icmp_ge (tgt := 82) hx hb zdB_drawLevels_9 rfl (by omega) (by decide) (fun h9 => ?_) (fun h9 => ?_)
      · exact hret (f2, f3, w2) _ _ _ _ (⟨fun k hk => hW k (by omega), hW0⟩) (hP.sub [0, 1, 2, 3, 4, 5] rfl) (hD.sub [0, 1, 2, 3, 4, 5] (by decide) rfl) hS zdB_drawLevels_82
      · refine lv_lconst (v := 0) hx hb zdB_drawLevels_12 (by decide) ?_
        refine lv_lstore_n (lv' := [(3, .long (0 : Int64)), (0, .ref h0), (1, .ref h1), (2, .int (nI j))]) hx hb zdB_drawLevels_13 rfl hl (Nat.le_of_ble_eq_true rfl) rfl (fun ls hl => ?_)
        refine lv_iconst (v := nI 0) hx hb zdB_drawLevels_14 (by decide) ?_
        refine lv_istore (lv' := [(5, .int (nI 0)), (3, .long (0 : Int64)), (0, .ref h0), (1, .ref h1), (2, .int (nI j))]) hx hb zdB_drawLevels_15 hl (Nat.le_of_ble_eq_true rfl) rfl (fun ls hl => ?_)
        have L17 : ∀ (N : Nat) (i : Nat) (w : Int64) (H : Heap) (locs : List Loc) (ls : Array Slot), nn + 1 - i < N → (i ≤ nn + 1) → (w = si_wd i (si_lb cx (nn + 1) j)) → lv_has ls 8 [(0, .ref h0), (1, .ref h1), (2, .int (nI j)), (3, .long w), (5, .int (nI i))] → va_P g.1 vwCl [(h0, .inr (0, [.ref b1, .ref b2, .ref b3, .ref b4, .int (nI nn)])), (b1, .inl (g.2.1, 61, .inl fc)), (b2, .inl (g.2.1, 61, .inl f2)), (b3, .inl (g.2.1, 61, .inl f3)), (h1, .inr (1, [.ref a1])), (a1, .inl (g.2.2, 23, .inr (.inl w2)))] H → va_D A [(h0, .inr (0, [.ref b1, .ref b2, .ref b3, .ref b4, .int (nI nn)])), (b1, .inl (g.2.1, 61, .inl fc)), (b2, .inl (g.2.1, 61, .inl f2)), (b3, .inl (g.2.1, 61, .inl f3)), (h1, .inr (1, [.ref a1])), (a1, .inl (g.2.2, 23, .inr (.inl w2)))] → va_S A s.heap H locs → W p l e ({ frames := 1, cells := 0, slots := 0, locals := 25 } : Room) s m args below meth c H locs 0 0 Q (F0 m 17 ls []) := by
          intro N
          induction N with
          | zero => intro i w H locs ls hMs; exact absurd hMs (Nat.not_lt_zero _)
          | succ N ih17 =>
            intro i w H locs ls hMs hi hw hl hP hD hS
            refine lv_iload hx hb zdB_drawLevels_17 (lv_at hl 4 rfl) ?_
            refine lv_aload_n hx hb zdB_drawLevels_19 rfl (lv_at hl 0 rfl) ?_
            refine va_get (D := g.1) (ci := 0) (v := .int (nI nn)) (C := zRB) (T := zTB) (N := 5) hx hb hts ziB hown hK hP 0 rfl rfl 4 (by decide) (hts _ zlB_24) (fun _ h => h) rfl zdB_drawLevels_20 ?_
            refine si_icmp_gt (tgt := 62) hx hb zdB_drawLevels_23 rfl (by omega) (by omega) (fun h23 => ?_) (fun h23 => ?_)
            · have hwe : w = si_wd (nn + 1) (si_lb cx (nn + 1) j) := by rw [hw, show i = nn + 1 by omega]
              refine lv_aload_n hx hb zdB_drawLevels_62 rfl (lv_at hl 1 rfl) ?_
              refine va_getN (D := g.1) (ci := 1) (v := .ref a1) (C := zRI) (T := zTI) (N := 1) hx hb hts ziI hown hK hP 4 rfl rfl 0 (by decide) (va_Nw.use rfl (hN _ zlB_43)) (fun _ h => h) rfl zdB_drawLevels_63 ?_
              refine lv_iconst (v := nI 1) hx hb zdB_drawLevels_66 (by decide) ?_
              refine lv_iload_n hx hb zdB_drawLevels_67 rfl (lv_at hl 2 rfl) ?_
              refine si_iadd (v := nI (1 + j)) hx hb zdB_drawLevels_68 (nI_add _ _) ?_
              refine lv_lload_n hx hb zdB_drawLevels_69 rfl (lv_at hl 3 rfl) ?_
              refine si_last hx hb hK hP hD hS 5 1 rfl rfl (by decide) (by omega) zdB_drawLevels_70 (fun H locs hP hD hS => ?_)
              have hP : va_P g.1 vwCl [(h0, .inr (0, [.ref b1, .ref b2, .ref b3, .ref b4, .int (nI nn)])), (b1, .inl (g.2.1, 61, .inl fc)), (b2, .inl (g.2.1, 61, .inl f2)), (b3, .inl (g.2.1, 61, .inl f3)), (h1, .inr (1, [.ref a1])), (a1, .inl (g.2.2, 23, .inr (.inl (vp_updL w2 (1 + j) w))))] H := hP
              have hD : va_D A [(h0, .inr (0, [.ref b1, .ref b2, .ref b3, .ref b4, .int (nI nn)])), (b1, .inl (g.2.1, 61, .inl fc)), (b2, .inl (g.2.1, 61, .inl f2)), (b3, .inl (g.2.1, 61, .inl f3)), (h1, .inr (1, [.ref a1])), (a1, .inl (g.2.2, 23, .inr (.inl (vp_updL w2 (1 + j) w))))] := hD
              refine lv_aload_n hx hb zdB_drawLevels_71 rfl (lv_at hl 0 rfl) ?_
              refine lv_lload_n hx hb zdB_drawLevels_72 rfl (lv_at hl 3 rfl) ?_
              refine (cB_partOrder l g h0 b1 b2 b3 b4 nn f2 f3 w hn).callV (wr := [(b1, .inl (g.2.1, 61, .inl fc)), (h1, .inr (1, [.ref a1])), (a1, .inl (g.2.2, 23, .inr (.inl (vp_updL w2 (1 + j) w))))]) (As := [.long w]) (rest := []) hF (si_cV 1 hts zcB_partOrder zlB_49 zimB_partOrder zseB_partOrder ziniB zhB_partOrder ⟨Nat.le_of_ble_eq_true rfl, Nat.le_of_ble_eq_true rfl⟩) hK hN hP hD hS hA [0, 2, 3] [1, 4, 5] rfl rfl (by decide) (by decide) (va_recv (q := (zRB, zTB, 5)) hK hP (ci := 0) (q0 := 0) rfl rfl) rfl hl.1 rfl (Nat.le_of_ble_eq_true rfl) zdB_drawLevels_73 ⟨Nat.le_of_ble_eq_true rfl, Nat.le_of_ble_eq_true rfl⟩ rfl rfl (fun u_ H locs hq hP hD hS => ?_)
              obtain ⟨f4, f5⟩ := u_
              have hq : ∀ x, x < nn + 1 → f4 (si_ps (nn + 1) (si_bi w) x) = f2 x := hq
              have hP : va_P g.1 vwCl [(b1, .inl (g.2.1, 61, .inl fc)), (h1, .inr (1, [.ref a1])), (a1, .inl (g.2.2, 23, .inr (.inl (vp_updL w2 (1 + j) w)))), (h0, .inr (0, [.ref b1, .ref b2, .ref b3, .ref b4, .int (nI nn)])), (b2, .inl (g.2.1, 61, .inl f4)), (b3, .inl (g.2.1, 61, .inl f5))] H := hP
              have hD : va_D A [(b1, .inl (g.2.1, 61, .inl fc)), (h1, .inr (1, [.ref a1])), (a1, .inl (g.2.2, 23, .inr (.inl (vp_updL w2 (1 + j) w)))), (h0, .inr (0, [.ref b1, .ref b2, .ref b3, .ref b4, .int (nI nn)])), (b2, .inl (g.2.1, 61, .inl f4)), (b3, .inl (g.2.1, 61, .inl f5))] := hD
              refine lv_iinc (k := 2) (v := nI (j + 1)) (lv' := [(2, .int (nI (j + 1))), (0, .ref h0), (1, .ref h1), (3, .long w), (5, .int (nI i))]) hx hb zdB_drawLevels_76 hl rfl (si_inc _) (Nat.le_of_ble_eq_true rfl) rfl (fun ls hl => ?_)
              refine lv_goto (tgt := 6) hx hb zdB_drawLevels_79 rfl ?_
              exact ih6 (j + 1) f4 f5 (vp_updL w2 (1 + j) w) _ _ _ (by omega) (by omega) (si_dlO (by omega) hwe hO hq) (si_upL (F := fun k => si_wd (nn + 1) (si_lb cx (nn + 1) k)) hW hwe) (fun k hk => by rw [pk_uLn (by omega)]; exact hW0 k hk) (lv_sub hl [1, 2, 0] rfl) (hP.sub [3, 0, 4, 5, 1, 2] rfl) (hD.sub [3, 0, 4, 5, 1, 2] (by decide) rfl) hS
            · have hxi := si_iv_ok (si_lp_bij cx (nn + 1) j) (show i < nn + 1 by omega)
              have hcv := hc7 _ hxi.1
              have hdv : cx (si_iv (nn + 1) (si_lp cx (nn + 1) j) i) / 2 ^ (6 - j) ≤ cx (si_iv (nn + 1) (si_lp cx (nn + 1) j) i) := Nat.div_le_self _ _
              refine lv_aload_n hx hb zdB_drawLevels_26 rfl (lv_at hl 0 rfl) ?_
              refine va_get (D := g.1) (ci := 0) (v := .ref b1) (C := zRB) (T := zTB) (N := 5) hx hb hts ziB hown hK hP 0 rfl rfl 0 (by decide) (hts _ zlB_9) (fun _ h => h) rfl zdB_drawLevels_27 ?_
              refine lv_aload_n hx hb zdB_drawLevels_30 rfl (lv_at hl 0 rfl) ?_
              refine va_get (D := g.1) (ci := 0) (v := .ref b2) (C := zRB) (T := zTB) (N := 5) hx hb hts ziB hown hK hP 0 rfl rfl 1 (by decide) (hts _ zlB_15) (fun _ h => h) rfl zdB_drawLevels_31 ?_
              refine lv_iload hx hb zdB_drawLevels_34 (lv_at hl 4 rfl) ?_
              refine si_iald (v := nI (si_iv (nn + 1) (si_lp cx (nn + 1) j) i)) hx hb hK hP 2 0 rfl rfl (by decide) (by omega) (si_ivv (si_lp_bij cx (nn + 1) j) hO (by omega)) zdB_drawLevels_36 ?_
              refine si_iald (v := nI (cx (si_iv (nn + 1) (si_lp cx (nn + 1) j) i))) hx hb hK hP 1 0 rfl rfl (by decide) (by omega) (hcx _ hxi.1) zdB_drawLevels_37 ?_
              refine lv_bipush (v := nI 6) hx hb zdB_drawLevels_38 (by decide) ?_
              refine lv_iload_n hx hb zdB_drawLevels_40 rfl (lv_at hl 2 rfl) ?_
              refine si_isub (v := nI (6 - j)) hx hb zdB_drawLevels_41 (pk_sub (by omega)) ?_
              refine si_ishr (v := nI (cx (si_iv (nn + 1) (si_lp cx (nn + 1) j) i) / 2 ^ (6 - j))) hx hb zdB_drawLevels_42 (pk_shrN (by omega) _ _ (si_sl5 _ (by omega))) ?_
              refine lv_iconst (v := nI 1) hx hb zdB_drawLevels_43 (by decide) ?_
              refine si_iand (v := nI ((si_lb cx (nn + 1) j i).toNat)) hx hb zdB_drawLevels_44 (si_bitj hcv) ?_
              refine lv_i2l (v := lN (si_lb cx (nn + 1) j i).toNat) hx hb zdB_drawLevels_45 (nI_l (si_bn _)) ?_
              refine lv_lstore (lv' := [(6, .long (lN (si_lb cx (nn + 1) j i).toNat)), (0, .ref h0), (1, .ref h1), (2, .int (nI j)), (3, .long w), (5, .int (nI i))]) hx hb zdB_drawLevels_46 hl (Nat.le_of_ble_eq_true rfl) rfl (fun ls hl => ?_)
              refine lv_lload_n hx hb zdB_drawLevels_48 rfl (lv_at hl 4 rfl) ?_
              refine lv_lload hx hb zdB_drawLevels_49 (lv_at hl 0 rfl) ?_
              refine lv_iload hx hb zdB_drawLevels_51 (lv_at hl 5 rfl) ?_
              refine lv_lshl (v := (lN (si_lb cx (nn + 1) j i).toNat) <<< ((nI i).toInt64 &&& 63)) hx hb zdB_drawLevels_53 (rfl) ?_
              refine si_lor (v := w ||| ((lN (si_lb cx (nn + 1) j i).toNat) <<< ((nI i).toInt64 &&& 63))) hx hb zdB_drawLevels_54 (rfl) ?_
              refine lv_lstore_n (lv' := [(3, .long (w ||| ((lN (si_lb cx (nn + 1) j i).toNat) <<< ((nI i).toInt64 &&& 63)))), (6, .long (lN (si_lb cx (nn + 1) j i).toNat)), (0, .ref h0), (1, .ref h1), (2, .int (nI j)), (5, .int (nI i))]) hx hb zdB_drawLevels_55 rfl hl (Nat.le_of_ble_eq_true rfl) rfl (fun ls hl => ?_)
              refine lv_iinc (k := 5) (v := nI (i + 1)) (lv' := [(5, .int (nI (i + 1))), (3, .long (w ||| ((lN (si_lb cx (nn + 1) j i).toNat) <<< ((nI i).toInt64 &&& 63)))), (6, .long (lN (si_lb cx (nn + 1) j i).toNat)), (0, .ref h0), (1, .ref h1), (2, .int (nI j))]) hx hb zdB_drawLevels_56 hl rfl (si_inc _) (Nat.le_of_ble_eq_true rfl) rfl (fun ls hl => ?_)
              refine lv_goto (tgt := 17) hx hb zdB_drawLevels_59 rfl ?_
              exact ih17 (i + 1) (w ||| ((lN (si_lb cx (nn + 1) j i).toNat) <<< ((nI i).toInt64 &&& 63))) _ _ _ (by omega) (by omega) (by rw [hw]; exact si_wd_s _ (by omega)) (lv_sub hl [3, 4, 5, 1, 0] rfl) (hP.sub [0, 1, 2, 3, 4, 5] rfl) (hD.sub [0, 1, 2, 3, 4, 5] (by decide) rfl) hS
        exact L17 (nn + 1 - 0 + 1) 0 (0 : Int64) _ _ _ (by omega) (by omega) (rfl) (lv_sub hl [2, 3, 4, 1, 0] rfl) (hP.sub [0, 1, 2, 3, 4, 5] rfl) (hD.sub [0, 1, 2, 3, 4, 5] (by decide) rfl) hS
  exact L6 (7 - 0 + 1) 0 f0 fn fw _ _ _ (by omega) (by omega) (hq) (fun k hk => absurd hk (Nat.not_lt_zero _)) (fun k _ => rfl) (lv_sub hl [1, 2, 0] rfl) (hP.sub [4, 0, 5, 1, 2, 3] rfl) (hD.sub [4, 0, 5, 1, 2, 3] (by decide) rfl) hS

set_option maxHeartbeats 4000000 in
set_option maxRecDepth 100000 in
/-- readLevels -/
theorem cB_readLevels (l : Launch) (g : si_G) (h0 b1 b2 b3 b4 nn h1 a1 : Nat) (last : Int32) (fc fo fn : Nat → Int32) (fw : Nat → Int64) (hn : nn ≤ 60) : si_Mv (S := (Nat → Int32) × (Nat → Int32) × (Nat → Int32)) l g vwCl zyB_readLevels zwB_readLevels ({ frames := 1, cells := 0, slots := 0, locals := 25 } : Room) [.ref h0, .ref h1, .int (nI nn)] [(h0, .inr (0, [.ref b1, .ref b2, .ref b3, .ref b4, .int last])), (b1, .inl (g.2.1, 61, .inl fc)), (b2, .inl (g.2.1, 61, .inl fo)), (b3, .inl (g.2.1, 61, .inl fn)), (h1, .inr (1, [.ref a1])), (a1, .inl (g.2.2, 23, .inr (.inl fw)))] (fun u => ∀ x, x < nn + 1 → u.1 x = nI (si_rc (si_db fw) (nn + 1) 7 x)) (fun u => [(h0, .inr (0, [.ref b1, .ref b2, .ref b3, .ref b4, .int (nI nn)])), (b1, .inl (g.2.1, 61, .inl u.1)), (b2, .inl (g.2.1, 61, .inl u.2.1)), (b3, .inl (g.2.1, 61, .inl u.2.2)), (h1, .inr (1, [.ref a1])), (a1, .inl (g.2.2, 23, .inr (.inl fw)))]) := by
  refine si_Mv.of (cc := zkB_readLevels) (maxL := 8) (by decide) rfl (Nat.le_of_ble_eq_true rfl) ?_
  intro p e s m args below meth c A Q ls hF0 hin hK hN hP hD hA hS hl hret
  obtain ⟨hx, hb, hml, hown, hts0⟩ := hF0
  have hts : ∀ w ∈ si_tbl, w.before args s = true := fun w hw => hts0 w (List.mem_cons_of_mem _ hw)
  have hF : CallFix p m c zkB_readLevels 8 s args si_tbl zRB := ⟨hx, hb, hml, hown, hts⟩
  have hl : lv_has ls 8 [(0, .ref h0), (1, .ref h1), (2, .int (nI nn))] := hl
  refine lv_aload_n hx hb zdB_readLevels_0 rfl (lv_at hl 0 rfl) ?_
  refine lv_iload_n hx hb zdB_readLevels_1 rfl (lv_at hl 2 rfl) ?_
  refine va_put (D := g.1) (ci := 0) (v := .int (nI nn)) (ty := .int) (C := zRB) (T := zTB) (N := 5) hx hb hts ziB ztB ztoB znB hown hK hP hD hS 0 rfl rfl 4 (by decide) (hts _ zlB_24) (fun _ h => h) rfl (by decide +kernel) rfl rfl (Nat.le_of_ble_eq_true rfl) zdB_readLevels_2 (fun H locs hP hD hS => ?_)
  have hP : va_P g.1 vwCl [(h0, .inr (0, [.ref b1, .ref b2, .ref b3, .ref b4, .int (nI nn)])), (b1, .inl (g.2.1, 61, .inl fc)), (b2, .inl (g.2.1, 61, .inl fo)), (b3, .inl (g.2.1, 61, .inl fn)), (h1, .inr (1, [.ref a1])), (a1, .inl (g.2.2, 23, .inr (.inl fw)))] H := hP
  have hD : va_D A [(h0, .inr (0, [.ref b1, .ref b2, .ref b3, .ref b4, .int (nI nn)])), (b1, .inl (g.2.1, 61, .inl fc)), (b2, .inl (g.2.1, 61, .inl fo)), (b3, .inl (g.2.1, 61, .inl fn)), (h1, .inr (1, [.ref a1])), (a1, .inl (g.2.2, 23, .inr (.inl fw)))] := hD
  refine lv_aload_n hx hb zdB_readLevels_5 rfl (lv_at hl 0 rfl) ?_
  refine (cB_startOrder l g h0 b1 b2 b3 b4 nn fo hn).callV (wr := [(b1, .inl (g.2.1, 61, .inl fc)), (b3, .inl (g.2.1, 61, .inl fn)), (h1, .inr (1, [.ref a1])), (a1, .inl (g.2.2, 23, .inr (.inl fw)))]) (As := []) (rest := []) hF (si_cV 0 hts zcB_startOrder zlB_40 zimB_startOrder zseB_startOrder ziniB zhB_startOrder ⟨Nat.le_of_ble_eq_true rfl, Nat.le_of_ble_eq_true rfl⟩) hK hN hP hD hS hA [0, 2] [1, 3, 4, 5] rfl rfl (by decide) (by decide) (va_recv (q := (zRB, zTB, 5)) hK hP (ci := 0) (q0 := 0) rfl rfl) rfl hl.1 rfl (Nat.le_of_ble_eq_true rfl) zdB_readLevels_6 ⟨Nat.le_of_ble_eq_true rfl, Nat.le_of_ble_eq_true rfl⟩ rfl rfl (fun f0 H locs hq hP hD hS => ?_)
  have hP : va_P g.1 vwCl [(b1, .inl (g.2.1, 61, .inl fc)), (b3, .inl (g.2.1, 61, .inl fn)), (h1, .inr (1, [.ref a1])), (a1, .inl (g.2.2, 23, .inr (.inl fw))), (h0, .inr (0, [.ref b1, .ref b2, .ref b3, .ref b4, .int (nI nn)])), (b2, .inl (g.2.1, 61, .inl f0))] H := hP
  have hD : va_D A [(b1, .inl (g.2.1, 61, .inl fc)), (b3, .inl (g.2.1, 61, .inl fn)), (h1, .inr (1, [.ref a1])), (a1, .inl (g.2.2, 23, .inr (.inl fw))), (h0, .inr (0, [.ref b1, .ref b2, .ref b3, .ref b4, .int (nI nn)])), (b2, .inl (g.2.1, 61, .inl f0))] := hD
  refine lv_iconst (v := nI 0) hx hb zdB_readLevels_9 (by decide) ?_
  refine lv_istore_n (lv' := [(3, .int (nI 0)), (0, .ref h0), (1, .ref h1), (2, .int (nI nn))]) hx hb zdB_readLevels_10 rfl hl (Nat.le_of_ble_eq_true rfl) rfl (fun ls hl => ?_)
  have L11 : ∀ (N : Nat) (k : Nat) (f2 : Nat → Int32) (H : Heap) (locs : List Loc) (ls : Array Slot), nn + 1 - k < N → (k ≤ nn + 1) → (∀ x, x < k → f2 x = nI 0) → lv_has ls 8 [(0, .ref h0), (1, .ref h1), (3, .int (nI k))] → va_P g.1 vwCl [(h0, .inr (0, [.ref b1, .ref b2, .ref b3, .ref b4, .int (nI nn)])), (b1, .inl (g.2.1, 61, .inl f2)), (b2, .inl (g.2.1, 61, .inl f0)), (b3, .inl (g.2.1, 61, .inl fn)), (h1, .inr (1, [.ref a1])), (a1, .inl (g.2.2, 23, .inr (.inl fw)))] H → va_D A [(h0, .inr (0, [.ref b1, .ref b2, .ref b3, .ref b4, .int (nI nn)])), (b1, .inl (g.2.1, 61, .inl f2)), (b2, .inl (g.2.1, 61, .inl f0)), (b3, .inl (g.2.1, 61, .inl fn)), (h1, .inr (1, [.ref a1])), (a1, .inl (g.2.2, 23, .inr (.inl fw)))] → va_S A s.heap H locs → W p l e ({ frames := 1, cells := 0, slots := 0, locals := 25 } : Room) s m args below meth c H locs 0 0 Q (F0 m 11 ls []) := by
    intro N
    induction N with
    | zero => intro k f2 H locs ls hMs; exact absurd hMs (Nat.not_lt_zero _)
    | succ N ih11 =>
      intro k f2 H locs ls hMs hk hZ hl hP hD hS
      refine lv_iload_n hx hb zdB_readLevels_11 rfl (lv_at hl 2 rfl) ?_
      refine lv_aload_n hx hb zdB_readLevels_12 rfl (lv_at hl 0 rfl) ?_
      refine va_get (D := g.1) (ci := 0) (v := .int (nI nn)) (C := zRB) (T := zTB) (N := 5) hx hb hts ziB hown hK hP 0 rfl rfl 4 (by decide) (hts _ zlB_24) (fun _ h => h) rfl zdB_readLevels_13 ?_
      refine si_icmp_gt (tgt := 32) hx hb zdB_readLevels_16 rfl (by omega) (by omega) (fun h16 => ?_) (fun h16 => ?_)
      · refine lv_iconst (v := nI 0) hx hb zdB_readLevels_32 (by decide) ?_
        refine lv_istore_n (lv' := [(3, .int (nI 0)), (0, .ref h0), (1, .ref h1)]) hx hb zdB_readLevels_33 rfl hl (Nat.le_of_ble_eq_true rfl) rfl (fun ls hl => ?_)
        have L34 : ∀ (N : Nat) (j : Nat) (g1 : Nat → Int32) (g2 : Nat → Int32) (g3 : Nat → Int32) (H : Heap) (locs : List Loc) (ls : Array Slot), 7 - j < N → (j ≤ 7) → (∀ x, x < nn + 1 → g2 (si_rp (si_db fw) (nn + 1) j x) = nI x) → (∀ x, x < nn + 1 → g1 x = nI (si_rc (si_db fw) (nn + 1) j x)) → lv_has ls 8 [(0, .ref h0), (1, .ref h1), (3, .int (nI j))] → va_P g.1 vwCl [(h0, .inr (0, [.ref b1, .ref b2, .ref b3, .ref b4, .int (nI nn)])), (b1, .inl (g.2.1, 61, .inl g1)), (b2, .inl (g.2.1, 61, .inl g2)), (b3, .inl (g.2.1, 61, .inl g3)), (h1, .inr (1, [.ref a1])), (a1, .inl (g.2.2, 23, .inr (.inl fw)))] H → va_D A [(h0, .inr (0, [.ref b1, .ref b2, .ref b3, .ref b4, .int (nI nn)])), (b1, .inl (g.2.1, 61, .inl g1)), (b2, .inl (g.2.1, 61, .inl g2)), (b3, .inl (g.2.1, 61, .inl g3)), (h1, .inr (1, [.ref a1])), (a1, .inl (g.2.2, 23, .inr (.inl fw)))] → va_S A s.heap H locs → W p l e ({ frames := 1, cells := 0, slots := 0, locals := 25 } : Room) s m args below meth c H locs 0 0 Q (F0 m 34 ls []) := by
          intro N
          induction N with
          | zero => intro j g1 g2 g3 H locs ls hMs; exact absurd hMs (Nat.not_lt_zero _)
          | succ N ih34 =>
            intro j g1 g2 g3 H locs ls hMs hj hO hC hl hP hD hS
            refine lv_iload_n hx hb zdB_readLevels_34 rfl (lv_at hl 2 rfl) ?_
            refine lv_bipush (v := nI 7) hx hb zdB_readLevels_35 (by decide) ?_
            refine si_icmp_ge (tgt := 119) hx hb zdB_readLevels_37 rfl (by omega) (by decide) (fun h37 => ?_) (fun h37 => ?_)
            · have hj7 : j = 7 := by omega
              subst hj7
              exact hret (g1, g2, g3) _ _ _ _ (hC) (hP.sub [0, 1, 2, 3, 4, 5] rfl) (hD.sub [0, 1, 2, 3, 4, 5] (by decide) rfl) hS zdB_readLevels_119
            · refine lv_aload_n hx hb zdB_readLevels_40 rfl (lv_at hl 1 rfl) ?_
              refine va_getN (D := g.1) (ci := 1) (v := .ref a1) (C := zRI) (T := zTI) (N := 1) hx hb hts ziI hown hK hP 4 rfl rfl 0 (by decide) (va_Nw.use rfl (hN _ zlB_43)) (fun _ h => h) rfl zdB_readLevels_41 ?_
              refine lv_iconst (v := nI 1) hx hb zdB_readLevels_44 (by decide) ?_
              refine lv_iload_n hx hb zdB_readLevels_45 rfl (lv_at hl 2 rfl) ?_
              refine si_iadd (v := nI (1 + j)) hx hb zdB_readLevels_46 (nI_add _ _) ?_
              refine si_lald (v := fw (1 + j)) hx hb hK hP 5 1 rfl rfl (by decide) (by omega) (rfl) zdB_readLevels_47 ?_
              refine lv_lstore (lv' := [(4, .long (fw (1 + j))), (0, .ref h0), (1, .ref h1), (3, .int (nI j))]) hx hb zdB_readLevels_48 hl (Nat.le_of_ble_eq_true rfl) rfl (fun ls hl => ?_)
              refine lv_iconst (v := nI 0) hx hb zdB_readLevels_50 (by decide) ?_
              refine lv_istore (lv' := [(6, .int (nI 0)), (4, .long (fw (1 + j))), (0, .ref h0), (1, .ref h1), (3, .int (nI j))]) hx hb zdB_readLevels_51 hl (Nat.le_of_ble_eq_true rfl) rfl (fun ls hl => ?_)
              have L53 : ∀ (N : Nat) (i : Nat) (g4 : Nat → Int32) (H : Heap) (locs : List Loc) (ls : Array Slot), nn + 1 - i < N → (i ≤ nn + 1) → (∀ x, x < nn + 1 → si_rp (si_db fw) (nn + 1) j x < i → g4 x = nI (si_rc (si_db fw) (nn + 1) (j + 1) x)) → (∀ x, x < nn + 1 → i ≤ si_rp (si_db fw) (nn + 1) j x → g4 x = nI (si_rc (si_db fw) (nn + 1) j x)) → lv_has ls 8 [(0, .ref h0), (1, .ref h1), (3, .int (nI j)), (4, .long (fw (1 + j))), (6, .int (nI i))] → va_P g.1 vwCl [(h0, .inr (0, [.ref b1, .ref b2, .ref b3, .ref b4, .int (nI nn)])), (b1, .inl (g.2.1, 61, .inl g4)), (b2, .inl (g.2.1, 61, .inl g2)), (b3, .inl (g.2.1, 61, .inl g3)), (h1, .inr (1, [.ref a1])), (a1, .inl (g.2.2, 23, .inr (.inl fw)))] H → va_D A [(h0, .inr (0, [.ref b1, .ref b2, .ref b3, .ref b4, .int (nI nn)])), (b1, .inl (g.2.1, 61, .inl g4)), (b2, .inl (g.2.1, 61, .inl g2)), (b3, .inl (g.2.1, 61, .inl g3)), (h1, .inr (1, [.ref a1])), (a1, .inl (g.2.2, 23, .inr (.inl fw)))] → va_S A s.heap H locs → W p l e ({ frames := 1, cells := 0, slots := 0, locals := 25 } : Room) s m args below meth c H locs 0 0 Q (F0 m 53 ls []) := by
                intro N
                induction N with
                | zero => intro i g4 H locs ls hMs; exact absurd hMs (Nat.not_lt_zero _)
                | succ N ih53 =>
                  intro i g4 H locs ls hMs hi hC1 hC2 hl hP hD hS
                  refine lv_iload hx hb zdB_readLevels_53 (lv_at hl 4 rfl) ?_
                  refine lv_aload_n hx hb zdB_readLevels_55 rfl (lv_at hl 0 rfl) ?_
                  refine va_get (D := g.1) (ci := 0) (v := .int (nI nn)) (C := zRB) (T := zTB) (N := 5) hx hb hts ziB hown hK hP 0 rfl rfl 4 (by decide) (hts _ zlB_24) (fun _ h => h) rfl zdB_readLevels_56 ?_
                  refine si_icmp_gt (tgt := 107) hx hb zdB_readLevels_59 rfl (by omega) (by omega) (fun h59 => ?_) (fun h59 => ?_)
                  · refine lv_aload_n hx hb zdB_readLevels_107 rfl (lv_at hl 0 rfl) ?_
                    refine lv_lload hx hb zdB_readLevels_108 (lv_at hl 3 rfl) ?_
                    refine (cB_partOrder l g h0 b1 b2 b3 b4 nn g2 g3 (fw (1 + j)) hn).callV (wr := [(b1, .inl (g.2.1, 61, .inl g4)), (h1, .inr (1, [.ref a1])), (a1, .inl (g.2.2, 23, .inr (.inl fw)))]) (As := [.long (fw (1 + j))]) (rest := []) hF (si_cV 1 hts zcB_partOrder zlB_49 zimB_partOrder zseB_partOrder ziniB zhB_partOrder ⟨Nat.le_of_ble_eq_true rfl, Nat.le_of_ble_eq_true rfl⟩) hK hN hP hD hS hA [0, 2, 3] [1, 4, 5] rfl rfl (by decide) (by decide) (va_recv (q := (zRB, zTB, 5)) hK hP (ci := 0) (q0 := 0) rfl rfl) rfl hl.1 rfl (Nat.le_of_ble_eq_true rfl) zdB_readLevels_110 ⟨Nat.le_of_ble_eq_true rfl, Nat.le_of_ble_eq_true rfl⟩ rfl rfl (fun u_ H locs hq2 hP hD hS => ?_)
                    obtain ⟨f4, f5⟩ := u_
                    have hq2 : ∀ x, x < nn + 1 → f4 (si_ps (nn + 1) (si_db fw j) x) = g2 x := hq2
                    have hP : va_P g.1 vwCl [(b1, .inl (g.2.1, 61, .inl g4)), (h1, .inr (1, [.ref a1])), (a1, .inl (g.2.2, 23, .inr (.inl fw))), (h0, .inr (0, [.ref b1, .ref b2, .ref b3, .ref b4, .int (nI nn)])), (b2, .inl (g.2.1, 61, .inl f4)), (b3, .inl (g.2.1, 61, .inl f5))] H := hP
                    have hD : va_D A [(b1, .inl (g.2.1, 61, .inl g4)), (h1, .inr (1, [.ref a1])), (a1, .inl (g.2.2, 23, .inr (.inl fw))), (h0, .inr (0, [.ref b1, .ref b2, .ref b3, .ref b4, .int (nI nn)])), (b2, .inl (g.2.1, 61, .inl f4)), (b3, .inl (g.2.1, 61, .inl f5))] := hD
                    refine lv_iinc (k := 2) (v := nI (j + 1)) (lv' := [(3, .int (nI (j + 1))), (0, .ref h0), (1, .ref h1), (4, .long (fw (1 + j))), (6, .int (nI i))]) hx hb zdB_readLevels_113 hl rfl (si_inc _) (Nat.le_of_ble_eq_true rfl) rfl (fun ls hl => ?_)
                    refine lv_goto (tgt := 34) hx hb zdB_readLevels_116 rfl ?_
                    exact ih34 (j + 1) g4 f4 f5 _ _ _ (by omega) (by omega) (fun x hx => (hq2 _ ((si_rp_bij (si_db fw) (nn + 1) j).1 x hx)).trans (hO x hx)) (fun x hx => hC1 x hx (by have := (si_rp_bij (si_db fw) (nn + 1) j).1 x hx; omega)) (lv_sub hl [1, 2, 0] rfl) (hP.sub [3, 0, 4, 5, 1, 2] rfl) (hD.sub [3, 0, 4, 5, 1, 2] (by decide) rfl) hS
                  · have hxi := si_iv_ok (si_rp_bij (si_db fw) (nn + 1) j) (show i < nn + 1 by omega)
                    refine lv_lload hx hb zdB_readLevels_62 (lv_at hl 3 rfl) ?_
                    refine lv_iload hx hb zdB_readLevels_64 (lv_at hl 4 rfl) ?_
                    refine lv_lushr (v := ((fw (1 + j)).toUInt64 >>> ((nI i).toInt64.toUInt64 &&& Int64.toUInt64 63)).toInt64) hx hb zdB_readLevels_66 (rfl) ?_
                    refine lv_lconst (v := 1) hx hb zdB_readLevels_67 (by decide) ?_
                    refine si_land (v := if si_bi (fw (1 + j)) i = true then 1 else 0) hx hb zdB_readLevels_68 (si_ush _ (by omega)) ?_
                    refine lv_l2i (v := nI ((si_bi (fw (1 + j)) i).toNat)) hx hb zdB_readLevels_69 (si_l2b _) ?_
                    refine lv_istore (lv' := [(7, .int (nI ((si_bi (fw (1 + j)) i).toNat))), (0, .ref h0), (1, .ref h1), (3, .int (nI j)), (4, .long (fw (1 + j))), (6, .int (nI i))]) hx hb zdB_readLevels_70 hl (Nat.le_of_ble_eq_true rfl) rfl (fun ls hl => ?_)
                    refine lv_aload_n hx hb zdB_readLevels_72 rfl (lv_at hl 1 rfl) ?_
                    refine va_get (D := g.1) (ci := 0) (v := .ref b1) (C := zRB) (T := zTB) (N := 5) hx hb hts ziB hown hK hP 0 rfl rfl 0 (by decide) (hts _ zlB_9) (fun _ h => h) rfl zdB_readLevels_73 ?_
                    refine lv_aload_n hx hb zdB_readLevels_76 rfl (lv_at hl 1 rfl) ?_
                    refine va_get (D := g.1) (ci := 0) (v := .ref b2) (C := zRB) (T := zTB) (N := 5) hx hb hts ziB hown hK hP 0 rfl rfl 1 (by decide) (hts _ zlB_15) (fun _ h => h) rfl zdB_readLevels_77 ?_
                    refine lv_iload hx hb zdB_readLevels_80 (lv_at hl 5 rfl) ?_
                    refine si_iald (v := nI (si_iv (nn + 1) (si_rp (si_db fw) (nn + 1) j) i)) hx hb hK hP 2 0 rfl rfl (by decide) (by omega) (si_ivv (si_rp_bij (si_db fw) (nn + 1) j) hO (by omega)) zdB_readLevels_82 ?_
                    refine lv_iconst (v := nI 2) hx hb zdB_readLevels_83 (by decide) ?_
                    refine lv_aload_n hx hb zdB_readLevels_84 rfl (lv_at hl 1 rfl) ?_
                    refine va_get (D := g.1) (ci := 0) (v := .ref b1) (C := zRB) (T := zTB) (N := 5) hx hb hts ziB hown hK hP 0 rfl rfl 0 (by decide) (hts _ zlB_9) (fun _ h => h) rfl zdB_readLevels_85 ?_
                    refine lv_aload_n hx hb zdB_readLevels_88 rfl (lv_at hl 1 rfl) ?_
                    refine va_get (D := g.1) (ci := 0) (v := .ref b2) (C := zRB) (T := zTB) (N := 5) hx hb hts ziB hown hK hP 0 rfl rfl 1 (by decide) (hts _ zlB_15) (fun _ h => h) rfl zdB_readLevels_89 ?_
                    refine lv_iload hx hb zdB_readLevels_92 (lv_at hl 5 rfl) ?_
                    refine si_iald (v := nI (si_iv (nn + 1) (si_rp (si_db fw) (nn + 1) j) i)) hx hb hK hP 2 0 rfl rfl (by decide) (by omega) (si_ivv (si_rp_bij (si_db fw) (nn + 1) j) hO (by omega)) zdB_readLevels_94 ?_
                    refine si_iald (v := nI (si_rc (si_db fw) (nn + 1) j (si_iv (nn + 1) (si_rp (si_db fw) (nn + 1) j) i))) hx hb hK hP 1 0 rfl rfl (by decide) (by omega) (hC2 _ hxi.1 (by rw [hxi.2]; exact Nat.le_refl _)) zdB_readLevels_95 ?_
                    refine si_imul (v := nI (2 * (si_rc (si_db fw) (nn + 1) j (si_iv (nn + 1) (si_rp (si_db fw) (nn + 1) j) i)))) hx hb zdB_readLevels_96 (pk_mul _ _) ?_
                    refine lv_iload hx hb zdB_readLevels_97 (lv_at hl 0 rfl) ?_
                    refine si_iadd (v := nI (2 * (si_rc (si_db fw) (nn + 1) j (si_iv (nn + 1) (si_rp (si_db fw) (nn + 1) j) i)) + ((si_bi (fw (1 + j)) i).toNat))) hx hb zdB_readLevels_99 (nI_add _ _) ?_
                    refine si_iast hx hb hK hP hD hS 1 0 rfl rfl (by decide) (by omega) zdB_readLevels_100 (fun H locs hP hD hS => ?_)
                    have hP : va_P g.1 vwCl [(h0, .inr (0, [.ref b1, .ref b2, .ref b3, .ref b4, .int (nI nn)])), (b1, .inl (g.2.1, 61, .inl (upd g4 (si_iv (nn + 1) (si_rp (si_db fw) (nn + 1) j) i) (nI (2 * (si_rc (si_db fw) (nn + 1) j (si_iv (nn + 1) (si_rp (si_db fw) (nn + 1) j) i)) + ((si_bi (fw (1 + j)) i).toNat)))))), (b2, .inl (g.2.1, 61, .inl g2)), (b3, .inl (g.2.1, 61, .inl g3)), (h1, .inr (1, [.ref a1])), (a1, .inl (g.2.2, 23, .inr (.inl fw)))] H := hP
                    have hD : va_D A [(h0, .inr (0, [.ref b1, .ref b2, .ref b3, .ref b4, .int (nI nn)])), (b1, .inl (g.2.1, 61, .inl (upd g4 (si_iv (nn + 1) (si_rp (si_db fw) (nn + 1) j) i) (nI (2 * (si_rc (si_db fw) (nn + 1) j (si_iv (nn + 1) (si_rp (si_db fw) (nn + 1) j) i)) + ((si_bi (fw (1 + j)) i).toNat)))))), (b2, .inl (g.2.1, 61, .inl g2)), (b3, .inl (g.2.1, 61, .inl g3)), (h1, .inr (1, [.ref a1])), (a1, .inl (g.2.2, 23, .inr (.inl fw)))] := hD
                    refine lv_iinc (k := 5) (v := nI (i + 1)) (lv' := [(6, .int (nI (i + 1))), (7, .int (nI ((si_bi (fw (1 + j)) i).toNat))), (0, .ref h0), (1, .ref h1), (3, .int (nI j)), (4, .long (fw (1 + j)))]) hx hb zdB_readLevels_101 hl rfl (si_inc _) (Nat.le_of_ble_eq_true rfl) rfl (fun ls hl => ?_)
                    refine lv_goto (tgt := 53) hx hb zdB_readLevels_104 rfl ?_
                    exact ih53 (i + 1) (upd g4 (si_iv (nn + 1) (si_rp (si_db fw) (nn + 1) j) i) (nI (2 * (si_rc (si_db fw) (nn + 1) j (si_iv (nn + 1) (si_rp (si_db fw) (nn + 1) j) i)) + ((si_bi (fw (1 + j)) i).toNat)))) _ _ _ (by omega) (by omega) (si_rcU (b := si_db fw) (by omega) hC1) (si_rcK (b := si_db fw) (by omega) hC2) (lv_sub hl [2, 3, 4, 5, 0] rfl) (hP.sub [0, 1, 2, 3, 4, 5] rfl) (hD.sub [0, 1, 2, 3, 4, 5] (by decide) rfl) hS
              exact L53 (nn + 1 - 0 + 1) 0 g1 _ _ _ (by omega) (by omega) (fun x _ h => absurd h (Nat.not_lt_zero _)) (fun x hx _ => hC x hx) (lv_sub hl [2, 3, 4, 1, 0] rfl) (hP.sub [0, 1, 2, 3, 4, 5] rfl) (hD.sub [0, 1, 2, 3, 4, 5] (by decide) rfl) hS
        exact L34 (7 - 0 + 1) 0 f2 f0 fn _ _ _ (by omega) (by omega) (hq) (fun x hx => hZ x (by omega)) (lv_sub hl [1, 2, 0] rfl) (hP.sub [0, 1, 2, 3, 4, 5] rfl) (hD.sub [0, 1, 2, 3, 4, 5] (by decide) rfl) hS
      · refine lv_aload_n hx hb zdB_readLevels_19 rfl (lv_at hl 0 rfl) ?_
        refine va_get (D := g.1) (ci := 0) (v := .ref b1) (C := zRB) (T := zTB) (N := 5) hx hb hts ziB hown hK hP 0 rfl rfl 0 (by decide) (hts _ zlB_9) (fun _ h => h) rfl zdB_readLevels_20 ?_
        refine lv_iload_n hx hb zdB_readLevels_23 rfl (lv_at hl 2 rfl) ?_
        refine lv_iconst (v := nI 0) hx hb zdB_readLevels_24 (by decide) ?_
        refine si_iast hx hb hK hP hD hS 1 0 rfl rfl (by decide) (by omega) zdB_readLevels_25 (fun H locs hP hD hS => ?_)
        have hP : va_P g.1 vwCl [(h0, .inr (0, [.ref b1, .ref b2, .ref b3, .ref b4, .int (nI nn)])), (b1, .inl (g.2.1, 61, .inl (upd f2 k (nI 0)))), (b2, .inl (g.2.1, 61, .inl f0)), (b3, .inl (g.2.1, 61, .inl fn)), (h1, .inr (1, [.ref a1])), (a1, .inl (g.2.2, 23, .inr (.inl fw)))] H := hP
        have hD : va_D A [(h0, .inr (0, [.ref b1, .ref b2, .ref b3, .ref b4, .int (nI nn)])), (b1, .inl (g.2.1, 61, .inl (upd f2 k (nI 0)))), (b2, .inl (g.2.1, 61, .inl f0)), (b3, .inl (g.2.1, 61, .inl fn)), (h1, .inr (1, [.ref a1])), (a1, .inl (g.2.2, 23, .inr (.inl fw)))] := hD
        refine lv_iinc (k := 2) (v := nI (k + 1)) (lv' := [(3, .int (nI (k + 1))), (0, .ref h0), (1, .ref h1)]) hx hb zdB_readLevels_26 hl rfl (si_inc _) (Nat.le_of_ble_eq_true rfl) rfl (fun ls hl => ?_)
        refine lv_goto (tgt := 11) hx hb zdB_readLevels_29 rfl ?_
        exact ih11 (k + 1) (upd f2 k (nI 0)) _ _ _ (by omega) (by omega) (si_up (F := fun _ => nI 0) hZ rfl) (lv_sub hl [1, 2, 0] rfl) (hP.sub [0, 1, 2, 3, 4, 5] rfl) (hD.sub [0, 1, 2, 3, 4, 5] (by decide) rfl) hS
  exact L11 (nn + 1 - 0 + 1) 0 fc _ _ _ (by omega) (by omega) (fun x hx => absurd hx (Nat.not_lt_zero _)) (lv_sub hl [1, 2, 0] rfl) (hP.sub [4, 0, 5, 1, 2, 3] rfl) (hD.sub [4, 0, 5, 1, 2, 3] (by decide) rfl) hS

set_option maxHeartbeats 4000000 in
set_option maxRecDepth 100000 in
/-- spell -/
theorem cB_spell (l : Launch) (g : si_G) (h0 b1 b2 b3 b4 nn : Nat) (h1 a1 : Nat) (fc ff f : Nat → Int32) (xs : Int32) (cx : Nat → Nat) (hn : nn ≤ 60) (hcx : ∀ x, x < nn + 1 → fc x = nI (cx x)) (hc7 : ∀ x, x < nn + 1 → cx x < 128) : si_Mi (S := (Nat → Int32) × (Nat → Int32) × Nat) l g vwCl zyB_spell zwB_spell ({ frames := 1, cells := 0, slots := 0, locals := 23 } : Room) [.ref h0, .ref h1] [(h0, .inr (0, [.ref b1, .ref b2, .ref b3, .ref b4, .int (nI nn)])), (b1, .inl (g.2.1, 61, .inl fc)), (b4, .inl (g.2.1, 61, .inl ff)), (h1, .inr (2, [.ref a1, .int xs])), (a1, .inl (g.2.1, 60, .inl f))] (fun r u => (r = nI 1 ∧ u.2.2 = nn ∧ ∃ t, si_ok t ∧ t.length = nn ∧ si_ln t u.2.1 ∧ ∀ v, si_ok v → v.length = nn → (∀ x, x < nn + 1 → cx x = si_B v x) → v = t) ∨ (r = nI 0 ∧ ∀ v, si_ok v → v.length = nn → (∀ x, x < nn + 1 → cx x = si_B v x) → False)) (fun u => [(h0, .inr (0, [.ref b1, .ref b2, .ref b3, .ref b4, .int (nI nn)])), (b1, .inl (g.2.1, 61, .inl fc)), (b4, .inl (g.2.1, 61, .inl u.1)), (h1, .inr (2, [.ref a1, .int (nI u.2.2)])), (a1, .inl (g.2.1, 60, .inl u.2.1))]) := by
  refine si_Mi.of (cc := zkB_spell) (maxL := 4) (by decide) rfl (Nat.le_of_ble_eq_true rfl) ?_
  intro p e s m args below meth c A Q ls hF0 hin hK hN hP hD hA hS hl hret
  obtain ⟨hx, hb, hml, hown, hts0⟩ := hF0
  have hts : ∀ w ∈ si_tbl, w.before args s = true := fun w hw => hts0 w (List.mem_cons_of_mem _ hw)
  have hF : CallFix p m c zkB_spell 4 s args si_tbl zRB := ⟨hx, hb, hml, hown, hts⟩
  have hl : lv_has ls 4 [(0, .ref h0), (1, .ref h1)] := hl
  refine lv_iconst (v := nI 0) hx hb zdB_spell_0 (by decide) ?_
  refine lv_istore_n (lv' := [(2, .int (nI 0)), (0, .ref h0), (1, .ref h1)]) hx hb zdB_spell_1 rfl hl (Nat.le_of_ble_eq_true rfl) rfl (fun ls hl => ?_)
  have L2 : ∀ (N : Nat) (k : Nat) (f2 : Nat → Int32) (H : Heap) (locs : List Loc) (ls : Array Slot), nn + 1 - k < N → (k ≤ nn + 1) → (∀ x, x < k → f2 (si_lf cx (nn + 1) x) = nI x) → lv_has ls 4 [(0, .ref h0), (1, .ref h1), (2, .int (nI k))] → va_P g.1 vwCl [(h0, .inr (0, [.ref b1, .ref b2, .ref b3, .ref b4, .int (nI nn)])), (b1, .inl (g.2.1, 61, .inl fc)), (b4, .inl (g.2.1, 61, .inl f2)), (h1, .inr (2, [.ref a1, .int xs])), (a1, .inl (g.2.1, 60, .inl f))] H → va_D A [(h0, .inr (0, [.ref b1, .ref b2, .ref b3, .ref b4, .int (nI nn)])), (b1, .inl (g.2.1, 61, .inl fc)), (b4, .inl (g.2.1, 61, .inl f2)), (h1, .inr (2, [.ref a1, .int xs])), (a1, .inl (g.2.1, 60, .inl f))] → va_S A s.heap H locs → W p l e ({ frames := 1, cells := 0, slots := 0, locals := 23 } : Room) s m args below meth c H locs 0 0 Q (F0 m 2 ls []) := by
    intro N
    induction N with
    | zero => intro k f2 H locs ls hMs; exact absurd hMs (Nat.not_lt_zero _)
    | succ N ih2 =>
      intro k f2 H locs ls hMs hk hF2 hl hP hD hS
      refine lv_iload_n hx hb zdB_spell_2 rfl (lv_at hl 2 rfl) ?_
      refine lv_aload_n hx hb zdB_spell_3 rfl (lv_at hl 0 rfl) ?_
      refine va_get (D := g.1) (ci := 0) (v := .int (nI nn)) (C := zRB) (T := zTB) (N := 5) hx hb hts ziB hown hK hP 0 rfl rfl 4 (by decide) (hts _ zlB_24) (fun _ h => h) rfl zdB_spell_4 ?_
      refine si_icmp_gt (tgt := 27) hx hb zdB_spell_7 rfl (by omega) (by omega) (fun h7 => ?_) (fun h7 => ?_)
      · refine lv_aload_n hx hb zdB_spell_27 rfl (lv_at hl 1 rfl) ?_
        refine (cL_clear l g h1 a1 60 f xs).callV (wr := [(h0, .inr (0, [.ref b1, .ref b2, .ref b3, .ref b4, .int (nI nn)])), (b1, .inl (g.2.1, 61, .inl fc)), (b4, .inl (g.2.1, 61, .inl f2))]) (As := []) (rest := []) hF (si_cV 0 hts zcL_clear zlB_56 zimL_clear zseL_clear ziniL zhL_clear ⟨Nat.le_of_ble_eq_true rfl, Nat.le_of_ble_eq_true rfl⟩) hK hN hP hD hS hA [3, 4] [0, 1, 2] rfl rfl (by decide) (by decide) (va_recv (q := (zRL, zTL, 2)) hK hP (ci := 2) (q0 := 3) rfl rfl) rfl hl.1 rfl (Nat.le_of_ble_eq_true rfl) zdB_spell_28 ⟨Nat.le_of_ble_eq_true rfl, Nat.le_of_ble_eq_true rfl⟩ rfl rfl (fun _u H locs _hq hP hD hS => ?_)
        have hP : va_P g.1 vwCl [(h0, .inr (0, [.ref b1, .ref b2, .ref b3, .ref b4, .int (nI nn)])), (b1, .inl (g.2.1, 61, .inl fc)), (b4, .inl (g.2.1, 61, .inl f2)), (h1, .inr (2, [.ref a1, .int (nI 0)])), (a1, .inl (g.2.1, 60, .inl f))] H := hP
        have hD : va_D A [(h0, .inr (0, [.ref b1, .ref b2, .ref b3, .ref b4, .int (nI nn)])), (b1, .inl (g.2.1, 61, .inl fc)), (b4, .inl (g.2.1, 61, .inl f2)), (h1, .inr (2, [.ref a1, .int (nI 0)])), (a1, .inl (g.2.1, 60, .inl f))] := hD
        refine lv_aload_n hx hb zdB_spell_31 rfl (lv_at hl 0 rfl) ?_
        refine va_get (D := g.1) (ci := 0) (v := .ref b4) (C := zRB) (T := zTB) (N := 5) hx hb hts ziB hown hK hP 0 rfl rfl 3 (by decide) (hts _ zlB_21) (fun _ h => h) rfl zdB_spell_32 ?_
        refine lv_iconst (v := nI 0) hx hb zdB_spell_35 (by decide) ?_
        refine si_iald (v := nI (si_fl cx (nn + 1) 0)) hx hb hK hP 2 0 rfl rfl (by decide) (by omega) (si_ivv (si_lf_bij cx (nn + 1)) (fun x hx => hF2 x (by omega)) (by omega)) zdB_spell_36 ?_
        refine lv_istore_n (lv' := [(2, .int (nI (si_fl cx (nn + 1) 0))), (0, .ref h0), (1, .ref h1)]) hx hb zdB_spell_37 rfl hl (Nat.le_of_ble_eq_true rfl) rfl (fun ls hl => ?_)
        refine lv_iconst (v := nI 0) hx hb zdB_spell_38 (by decide) ?_
        refine lv_istore_n (lv' := [(3, .int (nI 0)), (2, .int (nI (si_fl cx (nn + 1) 0))), (0, .ref h0), (1, .ref h1)]) hx hb zdB_spell_39 rfl hl (Nat.le_of_ble_eq_true rfl) rfl (fun ls hl => ?_)
        have L40 : ∀ (N : Nat) (kk : Nat) (row : Nat) (f3 : Nat → Int32) (H : Heap) (locs : List Loc) (ls : Array Slot), nn - kk < N → (kk ≤ nn) → (row < nn + 1) → (si_sp cx nn kk row f3) → lv_has ls 4 [(0, .ref h0), (1, .ref h1), (2, .int (nI row)), (3, .int (nI kk))] → va_P g.1 vwCl [(h0, .inr (0, [.ref b1, .ref b2, .ref b3, .ref b4, .int (nI nn)])), (b1, .inl (g.2.1, 61, .inl fc)), (b4, .inl (g.2.1, 61, .inl f2)), (h1, .inr (2, [.ref a1, .int (nI kk)])), (a1, .inl (g.2.1, 60, .inl f3))] H → va_D A [(h0, .inr (0, [.ref b1, .ref b2, .ref b3, .ref b4, .int (nI nn)])), (b1, .inl (g.2.1, 61, .inl fc)), (b4, .inl (g.2.1, 61, .inl f2)), (h1, .inr (2, [.ref a1, .int (nI kk)])), (a1, .inl (g.2.1, 60, .inl f3))] → va_S A s.heap H locs → W p l e ({ frames := 1, cells := 0, slots := 0, locals := 23 } : Room) s m args below meth c H locs 0 0 Q (F0 m 40 ls []) := by
          intro N
          induction N with
          | zero => intro kk row f3 H locs ls hMs; exact absurd hMs (Nat.not_lt_zero _)
          | succ N ih40 =>
            intro kk row f3 H locs ls hMs hkk hrow hsp hl hP hD hS
            refine lv_iload_n hx hb zdB_spell_40 rfl (lv_at hl 3 rfl) ?_
            refine lv_aload_n hx hb zdB_spell_41 rfl (lv_at hl 0 rfl) ?_
            refine va_get (D := g.1) (ci := 0) (v := .int (nI nn)) (C := zRB) (T := zTB) (N := 5) hx hb hts ziB hown hK hP 0 rfl rfl 4 (by decide) (hts _ zlB_24) (fun _ h => h) rfl zdB_spell_42 ?_
            refine si_icmp_ge (tgt := 76) hx hb zdB_spell_45 rfl (by omega) (by omega) (fun h45 => ?_) (fun h45 => ?_)
            · have hke : kk = nn := by omega
              subst hke
              refine lv_iconst (v := nI 1) hx hb zdB_spell_76 (by decide) ?_
              exact hret (nI 1) (f2, f3, kk) _ _ _ _ (rfl) (Or.inl ⟨rfl, rfl, si_sp_end hsp⟩) (hP.sub [0, 1, 2, 3, 4] rfl) (hD.sub [0, 1, 2, 3, 4] (by decide) rfl) hS zdB_spell_77
            · have hfr : si_fl cx (nn + 1) row < nn + 1 := (si_iv_ok (si_lf_bij cx (nn + 1)) hrow).1
              refine lv_aload_n hx hb zdB_spell_48 rfl (lv_at hl 0 rfl) ?_
              refine va_get (D := g.1) (ci := 0) (v := .ref b4) (C := zRB) (T := zTB) (N := 5) hx hb hts ziB hown hK hP 0 rfl rfl 3 (by decide) (hts _ zlB_21) (fun _ h => h) rfl zdB_spell_49 ?_
              refine lv_iload_n hx hb zdB_spell_52 rfl (lv_at hl 2 rfl) ?_
              refine si_iald (v := nI (si_fl cx (nn + 1) row)) hx hb hK hP 2 0 rfl rfl (by decide) (by omega) (si_ivv (si_lf_bij cx (nn + 1)) (fun x hx => hF2 x (by omega)) hrow) zdB_spell_53 ?_
              refine lv_istore_n (lv' := [(2, .int (nI (si_fl cx (nn + 1) row))), (0, .ref h0), (1, .ref h1), (3, .int (nI kk))]) hx hb zdB_spell_54 rfl hl (Nat.le_of_ble_eq_true rfl) rfl (fun ls hl => ?_)
              refine lv_aload_n hx hb zdB_spell_55 rfl (lv_at hl 2 rfl) ?_
              refine lv_aload_n hx hb zdB_spell_56 rfl (lv_at hl 1 rfl) ?_
              refine va_get (D := g.1) (ci := 0) (v := .ref b1) (C := zRB) (T := zTB) (N := 5) hx hb hts ziB hown hK hP 0 rfl rfl 0 (by decide) (hts _ zlB_9) (fun _ h => h) rfl zdB_spell_57 ?_
              refine lv_iload_n hx hb zdB_spell_60 rfl (lv_at hl 0 rfl) ?_
              refine si_iald (v := nI (cx (si_fl cx (nn + 1) row))) hx hb hK hP 1 0 rfl rfl (by decide) (by omega) (hcx _ hfr) zdB_spell_61 ?_
              refine (cL_add l g h1 a1 60 kk f3 (nI (cx (si_fl cx (nn + 1) row))) (by decide) (by omega)).callV (wr := [(h0, .inr (0, [.ref b1, .ref b2, .ref b3, .ref b4, .int (nI nn)])), (b1, .inl (g.2.1, 61, .inl fc)), (b4, .inl (g.2.1, 61, .inl f2))]) (As := [.int (nI (cx (si_fl cx (nn + 1) row)))]) (rest := []) hF (si_cV 1 hts zcL_add zlB_59 zimL_add zseL_add ziniL zhL_add ⟨Nat.le_of_ble_eq_true rfl, Nat.le_of_ble_eq_true rfl⟩) hK hN hP hD hS hA [3, 4] [0, 1, 2] rfl rfl (by decide) (by decide) (va_recv (q := (zRL, zTL, 2)) hK hP (ci := 2) (q0 := 3) rfl rfl) rfl hl.1 rfl (Nat.le_of_ble_eq_true rfl) zdB_spell_62 ⟨Nat.le_of_ble_eq_true rfl, Nat.le_of_ble_eq_true rfl⟩ rfl rfl (fun r_ u_ H locs hq_ hP hD hS => ?_)
              obtain ⟨f5, z5⟩ := u_
              obtain ⟨hq, hqt, hqf⟩ := hq_
              subst hq
              have hP : va_P g.1 vwCl [(h0, .inr (0, [.ref b1, .ref b2, .ref b3, .ref b4, .int (nI nn)])), (b1, .inl (g.2.1, 61, .inl fc)), (b4, .inl (g.2.1, 61, .inl f2)), (h1, .inr (2, [.ref a1, .int (nI z5)])), (a1, .inl (g.2.1, 60, .inl f5))] H := hP
              have hD : va_D A [(h0, .inr (0, [.ref b1, .ref b2, .ref b3, .ref b4, .int (nI nn)])), (b1, .inl (g.2.1, 61, .inl fc)), (b4, .inl (g.2.1, 61, .inl f2)), (h1, .inr (2, [.ref a1, .int (nI z5)])), (a1, .inl (g.2.1, 60, .inl f5))] := hD
              refine si_if_ne (tgt := 70) hx hb zdB_spell_65 rfl (si_bn _) (fun h65 => ?_) (fun h65 => ?_)
              · have hdc := si_b1 h65
                obtain ⟨e1, e2⟩ := hqt hdc
                have e1 : f5 = _ := e1
                have e2 : z5 = _ := e2
                subst e1 e2
                have hch := (of_decide_eq_true hdc).1
                refine lv_iinc (k := 3) (v := nI (kk + 1)) (lv' := [(3, .int (nI (kk + 1))), (2, .int (nI (si_fl cx (nn + 1) row))), (0, .ref h0), (1, .ref h1)]) hx hb zdB_spell_70 hl rfl (si_inc _) (Nat.le_of_ble_eq_true rfl) rfl (fun ls hl => ?_)
                refine lv_goto (tgt := 40) hx hb zdB_spell_73 rfl ?_
                exact ih40 (kk + 1) (si_fl cx (nn + 1) row) (upd f3 kk (nI (cx (si_fl cx (nn + 1) row)))) _ _ _ (by omega) (by omega) (hfr) (si_sp_s hc7 (by omega) hn hrow hsp hch) (lv_sub hl [2, 3, 1, 0] rfl) (hP.sub [0, 1, 2, 3, 4] rfl) (hD.sub [0, 1, 2, 3, 4] (by decide) rfl) hS
              · have hdc := si_b0 h65
                have hno := si_sp_no hc7 (by omega) hrow hsp (fun z => of_decide_eq_false hdc ⟨z, by omega⟩)
                refine lv_iconst (v := nI 0) hx hb zdB_spell_68 (by decide) ?_
                exact hret (nI 0) (f2, f5, z5) _ _ _ _ (rfl) (Or.inr ⟨rfl, hno⟩) (hP.sub [0, 1, 2, 3, 4] rfl) (hD.sub [0, 1, 2, 3, 4] (by decide) rfl) hS zdB_spell_69
        exact L40 (nn - 0 + 1) 0 (si_fl cx (nn + 1) 0) f _ _ _ (by omega) (by omega) ((si_iv_ok (si_lf_bij cx (nn + 1)) (by omega)).1) (si_sp_0) (lv_sub hl [2, 3, 1, 0] rfl) (hP.sub [0, 1, 2, 3, 4] rfl) (hD.sub [0, 1, 2, 3, 4] (by decide) rfl) hS
      · refine lv_aload_n hx hb zdB_spell_10 rfl (lv_at hl 0 rfl) ?_
        refine va_get (D := g.1) (ci := 0) (v := .ref b4) (C := zRB) (T := zTB) (N := 5) hx hb hts ziB hown hK hP 0 rfl rfl 3 (by decide) (hts _ zlB_21) (fun _ h => h) rfl zdB_spell_11 ?_
        refine lv_aload_n hx hb zdB_spell_14 rfl (lv_at hl 0 rfl) ?_
        refine lv_iload_n hx hb zdB_spell_15 rfl (lv_at hl 2 rfl) ?_
        refine (cB_rowBefore l g h0 b1 b2 b3 b4 nn fc cx k hn hcx hc7 (by omega)).callV (wr := [(b4, .inl (g.2.1, 61, .inl f2)), (h1, .inr (2, [.ref a1, .int xs])), (a1, .inl (g.2.1, 60, .inl f))]) (As := [.int (nI k)]) (rest := [.ref b4]) hF (si_cV 1 hts zcB_rowBefore zlB_53 zimB_rowBefore zseB_rowBefore ziniB zhB_rowBefore ⟨Nat.le_of_ble_eq_true rfl, Nat.le_of_ble_eq_true rfl⟩) hK hN hP hD hS hA [0, 1] [2, 3, 4] rfl rfl (by decide) (by decide) (va_recv (q := (zRB, zTB, 5)) hK hP (ci := 0) (q0 := 0) rfl rfl) rfl hl.1 rfl (Nat.le_of_ble_eq_true rfl) zdB_spell_16 ⟨Nat.le_of_ble_eq_true rfl, Nat.le_of_ble_eq_true rfl⟩ rfl rfl (fun r_ _u H locs hq hP hD hS => ?_)
        subst hq
        have hlf := (si_lf_bij cx (nn + 1)).1 k (by omega)
        have hP : va_P g.1 vwCl [(b4, .inl (g.2.1, 61, .inl f2)), (h1, .inr (2, [.ref a1, .int xs])), (a1, .inl (g.2.1, 60, .inl f)), (h0, .inr (0, [.ref b1, .ref b2, .ref b3, .ref b4, .int (nI nn)])), (b1, .inl (g.2.1, 61, .inl fc))] H := hP
        have hD : va_D A [(b4, .inl (g.2.1, 61, .inl f2)), (h1, .inr (2, [.ref a1, .int xs])), (a1, .inl (g.2.1, 60, .inl f)), (h0, .inr (0, [.ref b1, .ref b2, .ref b3, .ref b4, .int (nI nn)])), (b1, .inl (g.2.1, 61, .inl fc))] := hD
        refine lv_iload_n hx hb zdB_spell_19 rfl (lv_at hl 2 rfl) ?_
        refine si_iast hx hb hK hP hD hS 0 0 rfl rfl (by decide) (by omega) zdB_spell_20 (fun H locs hP hD hS => ?_)
        have hP : va_P g.1 vwCl [(b4, .inl (g.2.1, 61, .inl (upd f2 (si_lf cx (nn + 1) k) (nI k)))), (h1, .inr (2, [.ref a1, .int xs])), (a1, .inl (g.2.1, 60, .inl f)), (h0, .inr (0, [.ref b1, .ref b2, .ref b3, .ref b4, .int (nI nn)])), (b1, .inl (g.2.1, 61, .inl fc))] H := hP
        have hD : va_D A [(b4, .inl (g.2.1, 61, .inl (upd f2 (si_lf cx (nn + 1) k) (nI k)))), (h1, .inr (2, [.ref a1, .int xs])), (a1, .inl (g.2.1, 60, .inl f)), (h0, .inr (0, [.ref b1, .ref b2, .ref b3, .ref b4, .int (nI nn)])), (b1, .inl (g.2.1, 61, .inl fc))] := hD
        refine lv_iinc (k := 2) (v := nI (k + 1)) (lv' := [(2, .int (nI (k + 1))), (0, .ref h0), (1, .ref h1)]) hx hb zdB_spell_21 hl rfl (si_inc _) (Nat.le_of_ble_eq_true rfl) rfl (fun ls hl => ?_)
        refine lv_goto (tgt := 2) hx hb zdB_spell_24 rfl ?_
        exact ih2 (k + 1) (upd f2 (si_lf cx (nn + 1) k) (nI k)) _ _ _ (by omega) (by omega) (si_flU (by omega) hF2) (lv_sub hl [1, 2, 0] rfl) (hP.sub [3, 4, 0, 1, 2] rfl) (hD.sub [3, 4, 0, 1, 2] (by decide) rfl) hS
  exact L2 (nn + 1 - 0 + 1) 0 ff _ _ _ (by omega) (by omega) (fun x hx => absurd hx (Nat.not_lt_zero _)) (lv_sub hl [1, 2, 0] rfl) (hP.sub [0, 1, 2, 3, 4] rfl) (hD.sub [0, 1, 2, 3, 4] (by decide) rfl) hS
end
section
/-! Contracts of the Image. Written by wip/draft/p19.py -/
theorem si_dnE {f F : Nat → Int64} {fw i v : Nat} (h : ∀ x, 8 ≤ x → x < 23 → f x = F x) (hf : 8 ≤ fw) : ∀ x, 8 ≤ x → x < 23 → vp_updL f (fw + i / 10) (f (fw + i / 10) ||| (lN v <<< ((nI (6 * (i % 10))).toInt64 &&& 63))) x = si_dn F fw i v x := by
  intro x h8 h23
  unfold si_dn
  by_cases e : x = fw + i / 10
  · rw [← e, pk_uLs, pk_uLs, h x h8 h23]
  · rw [pk_uLn e, pk_uLn e]; exact h x h8 h23
theorem si_mkE {f F : Nat → Int64} {w : Int64} (h : ∀ x, 8 ≤ x → x < 23 → f x = F x) : ∀ x, 8 ≤ x → x < 23 → vp_updL f 8 (f 8 ||| w) x = vp_updL F 8 (F 8 ||| w) x := by
  intro x h8 h23
  by_cases e : x = 8
  · subst e; rw [pk_uLs, pk_uLs, h 8 h8 h23]
  · rw [pk_uLn e, pk_uLn e]; exact h x h8 h23
theorem si_lo8 {f f0 : Nat → Int64} {k : Nat} {w : Int64} (hk : 8 ≤ k) (h : ∀ x, x < 8 → f x = f0 x) : ∀ x, x < 8 → vp_updL f k w x = f0 x := fun x hx => by
  rw [pk_uLn (by omega)]; exact h x hx
set_option maxHeartbeats 4000000 in
set_option maxRecDepth 100000 in
/-- isSameAs -/
theorem cI_isSameAs (l : Launch) (g : si_G) (h0 a0 h1 a1 : Nat) (f f1 : Nat → Int64)  : si_Mi (S := Bool) l g vwCl zyI_isSameAs zwI_isSameAs ({ frames := 0, cells := 0, slots := 0, locals := 0 } : Room) [.ref h0, .ref h1] [(h0, .inr (1, [.ref a0])), (a0, .inl (g.2.2, 23, .inr (.inl f))), (h1, .inr (1, [.ref a1])), (a1, .inl (g.2.2, 23, .inr (.inl f1)))] (fun r u => r = nI u.toNat ∧ (u = true ↔ ∀ k, k < 23 → f k = f1 k)) (fun u => [(h0, .inr (1, [.ref a0])), (a0, .inl (g.2.2, 23, .inr (.inl f))), (h1, .inr (1, [.ref a1])), (a1, .inl (g.2.2, 23, .inr (.inl f1)))]) := by
  refine si_Mi.of (cc := zkI_isSameAs) (maxL := 3) (by decide) rfl (Nat.le_of_ble_eq_true rfl) ?_
  intro p e s m args below meth c A Q ls hF0 hin hK hN hP hD hA hS hl hret
  obtain ⟨hx, hb, hml, hown, hts0⟩ := hF0
  have hts : ∀ w ∈ si_tbl, w.before args s = true := fun w hw => hts0 w (List.mem_cons_of_mem _ hw)
  have hF : CallFix p m c zkI_isSameAs 3 s args si_tbl zRI := ⟨hx, hb, hml, hown, hts⟩
  have hl : lv_has ls 3 [(0, .ref h0), (1, .ref h1)] := hl
  refine lv_iconst (v := nI 0) hx hb zdI_isSameAs_0 (by decide) ?_
  refine lv_istore_n (lv' := [(2, .int (nI 0)), (0, .ref h0), (1, .ref h1)]) hx hb zdI_isSameAs_1 rfl hl (Nat.le_of_ble_eq_true rfl) rfl (fun ls hl => ?_)
  have L2 : ∀ (N : Nat) (k : Nat) (H : Heap) (locs : List Loc) (ls : Array Slot), 23 - k < N → (k ≤ 23) → (∀ x, x < k → f x = f1 x) → lv_has ls 3 [(0, .ref h0), (1, .ref h1), (2, .int (nI k))] → va_P g.1 vwCl [(h0, .inr (1, [.ref a0])), (a0, .inl (g.2.2, 23, .inr (.inl f))), (h1, .inr (1, [.ref a1])), (a1, .inl (g.2.2, 23, .inr (.inl f1)))] H → va_D A [(h0, .inr (1, [.ref a0])), (a0, .inl (g.2.2, 23, .inr (.inl f))), (h1, .inr (1, [.ref a1])), (a1, .inl (g.2.2, 23, .inr (.inl f1)))] → va_S A s.heap H locs → W p l e ({ frames := 0, cells := 0, slots := 0, locals := 0 } : Room) s m args below meth c H locs 0 0 Q (F0 m 2 ls []) := by
    intro N
    induction N with
    | zero => intro k H locs ls hMs; exact absurd hMs (Nat.not_lt_zero _)
    | succ N ih2 =>
      intro k H locs ls hMs hk hE hl hP hD hS
      refine lv_iload_n hx hb zdI_isSameAs_2 rfl (lv_at hl 2 rfl) ?_
      refine lv_bipush (v := nI 23) hx hb zdI_isSameAs_3 (by decide) ?_
      refine si_icmp_ge (tgt := 32) hx hb zdI_isSameAs_5 rfl (by omega) (by decide) (fun h5 => ?_) (fun h5 => ?_)
      · refine lv_iconst (v := nI 1) hx hb zdI_isSameAs_32 (by decide) ?_
        exact hret (nI 1) true _ _ _ _ (rfl) (⟨rfl, fun _ x hx => hE x (by omega), fun _ => rfl⟩) (hP.sub [0, 1, 2, 3] rfl) (hD.sub [0, 1, 2, 3] (by decide) rfl) hS zdI_isSameAs_33
      · refine lv_aload_n hx hb zdI_isSameAs_8 rfl (lv_at hl 0 rfl) ?_
        refine va_get (D := g.1) (ci := 1) (v := .ref a0) (C := zRI) (T := zTI) (N := 1) hx hb hts ziI hown hK hP 0 rfl rfl 0 (by decide) (hts _ zlI_9) (fun _ h => h) rfl zdI_isSameAs_9 ?_
        refine lv_iload_n hx hb zdI_isSameAs_12 rfl (lv_at hl 2 rfl) ?_
        refine si_lald (v := f k) hx hb hK hP 1 1 rfl rfl (by decide) (by omega) (rfl) zdI_isSameAs_13 ?_
        refine lv_aload_n hx hb zdI_isSameAs_14 rfl (lv_at hl 1 rfl) ?_
        refine va_get (D := g.1) (ci := 1) (v := .ref a1) (C := zRI) (T := zTI) (N := 1) hx hb hts ziI hown hK hP 2 rfl rfl 0 (by decide) (hts _ zlI_9) (fun _ h => h) rfl zdI_isSameAs_15 ?_
        refine lv_iload_n hx hb zdI_isSameAs_18 rfl (lv_at hl 2 rfl) ?_
        refine si_lald (v := f1 k) hx hb hK hP 3 1 rfl rfl (by decide) (by omega) (rfl) zdI_isSameAs_19 ?_
        refine W.lcmp hx hb zdI_isSameAs_20 ?_
        refine lv_if_eq (tgt := 26) hx hb zdI_isSameAs_21 rfl (fun h21 => ?_) (fun h21 => ?_)
        · refine lv_iinc (k := 2) (v := nI (k + 1)) (lv' := [(2, .int (nI (k + 1))), (0, .ref h0), (1, .ref h1)]) hx hb zdI_isSameAs_26 hl rfl (si_inc _) (Nat.le_of_ble_eq_true rfl) rfl (fun ls hl => ?_)
          refine lv_goto (tgt := 2) hx hb zdI_isSameAs_29 rfl ?_
          exact ih2 (k + 1) _ _ _ (by omega) (by omega) (lt_s hE ((si_lc0 _ _).mp h21)) (lv_sub hl [1, 2, 0] rfl) (hP.sub [0, 1, 2, 3] rfl) (hD.sub [0, 1, 2, 3] (by decide) rfl) hS
        · refine lv_iconst (v := nI 0) hx hb zdI_isSameAs_24 (by decide) ?_
          exact hret (nI 0) false _ _ _ _ (rfl) (⟨rfl, fun z => absurd z (by decide), fun z => absurd ((si_lc0 _ _).mpr (z k (by omega))) h21⟩) (hP.sub [0, 1, 2, 3] rfl) (hD.sub [0, 1, 2, 3] (by decide) rfl) hS zdI_isSameAs_25
  exact L2 (23 - 0 + 1) 0 _ _ _ (by omega) (by omega) (fun x hx => absurd hx (Nat.not_lt_zero _)) (lv_sub hl [1, 2, 0] rfl) (hP.sub [0, 1, 2, 3] rfl) (hD.sub [0, 1, 2, 3] (by decide) rfl) hS

set_option maxHeartbeats 4000000 in
set_option maxRecDepth 100000 in
/-- drawNumber -/
theorem cI_drawNumber (l : Launch) (g : si_G) (h0 a0 nf ni : Nat) (f : Nat → Int64) (num : Int64) (hni : ni < 2 ^ 20) (hnf : nf + ni / 10 < 23) : si_Mv (S := Unit) l g vwCl zyI_drawNumber zwI_drawNumber ({ frames := 0, cells := 0, slots := 0, locals := 0 } : Room) [.ref h0, .int (nI nf), .int (nI ni), .long num] [(h0, .inr (1, [.ref a0])), (a0, .inl (g.2.2, 23, .inr (.inl f)))] (fun u => True) (fun u => [(h0, .inr (1, [.ref a0])), (a0, .inl (g.2.2, 23, .inr (.inl (vp_updL f (nf + ni / 10) (f (nf + ni / 10) ||| (num <<< ((nI (6 * (ni % 10))).toInt64 &&& 63)))))))]) := by
  refine si_Mv.of (cc := zkI_drawNumber) (maxL := 6) (by decide) rfl (Nat.le_of_ble_eq_true rfl) ?_
  intro p e s m args below meth c A Q ls hF0 hin hK hN hP hD hA hS hl hret
  obtain ⟨hx, hb, hml, hown, hts0⟩ := hF0
  have hts : ∀ w ∈ si_tbl, w.before args s = true := fun w hw => hts0 w (List.mem_cons_of_mem _ hw)
  have hF : CallFix p m c zkI_drawNumber 6 s args si_tbl zRI := ⟨hx, hb, hml, hown, hts⟩
  have hl : lv_has ls 6 [(0, .ref h0), (1, .int (nI nf)), (2, .int (nI ni)), (3, .long num)] := hl
  refine lv_bipush (v := nI 6) hx hb zdI_drawNumber_0 (by decide) ?_
  refine lv_iload_n hx hb zdI_drawNumber_2 rfl (lv_at hl 2 rfl) ?_
  refine lv_bipush (v := nI 10) hx hb zdI_drawNumber_3 (by decide) ?_
  refine si_irem (v := nI (ni % 10)) hx hb zdI_drawNumber_5 (nI_ne0 (by omega) (by omega)) (pk_rem (by omega) (by omega) (by omega)) ?_
  refine si_imul (v := nI (6 * (ni % 10))) hx hb zdI_drawNumber_6 (pk_mul _ _) ?_
  refine lv_istore (lv' := [(5, .int (nI (6 * (ni % 10)))), (0, .ref h0), (1, .int (nI nf)), (2, .int (nI ni)), (3, .long num)]) hx hb zdI_drawNumber_7 hl (Nat.le_of_ble_eq_true rfl) rfl (fun ls hl => ?_)
  refine lv_aload_n hx hb zdI_drawNumber_9 rfl (lv_at hl 1 rfl) ?_
  refine va_get (D := g.1) (ci := 1) (v := .ref a0) (C := zRI) (T := zTI) (N := 1) hx hb hts ziI hown hK hP 0 rfl rfl 0 (by decide) (hts _ zlI_9) (fun _ h => h) rfl zdI_drawNumber_10 ?_
  refine lv_iload_n hx hb zdI_drawNumber_13 rfl (lv_at hl 2 rfl) ?_
  refine lv_iload_n hx hb zdI_drawNumber_14 rfl (lv_at hl 3 rfl) ?_
  refine lv_bipush (v := nI 10) hx hb zdI_drawNumber_15 (by decide) ?_
  refine si_idiv (v := nI (ni / 10)) hx hb zdI_drawNumber_17 (nI_ne0 (by omega) (by omega)) (pk_div (by omega) (by omega) (by omega)) ?_
  refine si_iadd (v := nI (nf + (ni / 10))) hx hb zdI_drawNumber_18 (nI_add _ _) ?_
  refine lv_dup2_11 hx hb zdI_drawNumber_19 rfl rfl ?_
  refine si_lald (v := f (nf + (ni / 10))) hx hb hK hP 1 1 rfl rfl (by decide) (by omega) (rfl) zdI_drawNumber_20 ?_
  refine lv_lload_n hx hb zdI_drawNumber_21 rfl (lv_at hl 4 rfl) ?_
  refine lv_iload hx hb zdI_drawNumber_22 (lv_at hl 0 rfl) ?_
  refine lv_lshl (v := num <<< ((nI (6 * (ni % 10))).toInt64 &&& 63)) hx hb zdI_drawNumber_24 (rfl) ?_
  refine si_lor (v := (f (nf + (ni / 10))) ||| (num <<< ((nI (6 * (ni % 10))).toInt64 &&& 63))) hx hb zdI_drawNumber_25 (rfl) ?_
  refine si_last hx hb hK hP hD hS 1 1 rfl rfl (by decide) (by omega) zdI_drawNumber_26 (fun H locs hP hD hS => ?_)
  have hP : va_P g.1 vwCl [(h0, .inr (1, [.ref a0])), (a0, .inl (g.2.2, 23, .inr (.inl (vp_updL f (nf + (ni / 10)) ((f (nf + (ni / 10))) ||| (num <<< ((nI (6 * (ni % 10))).toInt64 &&& 63)))))))] H := hP
  have hD : va_D A [(h0, .inr (1, [.ref a0])), (a0, .inl (g.2.2, 23, .inr (.inl (vp_updL f (nf + (ni / 10)) ((f (nf + (ni / 10))) ||| (num <<< ((nI (6 * (ni % 10))).toInt64 &&& 63)))))))] := hD
  exact hret () _ _ _ _ (trivial) (hP.sub [0, 1] rfl) (hD.sub [0, 1] (by decide) rfl) hS zdI_drawNumber_27

set_option maxHeartbeats 4000000 in
set_option maxRecDepth 100000 in
/-- drawMarkedRows -/
theorem cI_drawMarkedRows (l : Launch) (g : si_G) (h0 a0 h2 a2 a3 : Nat) (f : Nat → Int64) (fp : Nat → Int32) (t : List Nat) (sr : Nat) (hn : t.length ≤ 60) (hs1 : 1 ≤ sr) (hs2 : sr ≤ 16) (hpl : ∀ x, x < t.length + 1 → fp x = nI (si_pl t x)) (hf0 : ∀ x, 8 ≤ x → x < 23 → f x = 0) : si_Mv (S := Nat → Int64) l g vwCl zyI_drawMarkedRows zwI_drawMarkedRows ({ frames := 1, cells := 0, slots := 0, locals := 25 } : Room) [.ref h0, .ref h2, .int (nI sr)] [(h0, .inr (1, [.ref a0])), (a0, .inl (g.2.2, 23, .inr (.inl f))), (h2, .inr (4, [.ref a2, .ref a3, .int (nI t.length)])), (a3, .inl (g.2.1, 61, .inl fp))] (fun u => (∀ x, x < 8 → u x = f x) ∧ ∀ x, 8 ≤ x → x < 23 → u x = (si_mr t sr (t.length + 1)).1 x) (fun u => [(h0, .inr (1, [.ref a0])), (a0, .inl (g.2.2, 23, .inr (.inl u))), (h2, .inr (4, [.ref a2, .ref a3, .int (nI t.length)])), (a3, .inl (g.2.1, 61, .inl fp))]) := by
  refine si_Mv.of (cc := zkI_drawMarkedRows) (maxL := 6) (by decide) rfl (Nat.le_of_ble_eq_true rfl) ?_
  intro p e s m args below meth c A Q ls hF0 hin hK hN hP hD hA hS hl hret
  obtain ⟨hx, hb, hml, hown, hts0⟩ := hF0
  have hts : ∀ w ∈ si_tbl, w.before args s = true := fun w hw => hts0 w (List.mem_cons_of_mem _ hw)
  have hF : CallFix p m c zkI_drawMarkedRows 6 s args si_tbl zRI := ⟨hx, hb, hml, hown, hts⟩
  have hl : lv_has ls 6 [(0, .ref h0), (1, .ref h2), (2, .int (nI sr))] := hl
  refine lv_iconst (v := nI 0) hx hb zdI_drawMarkedRows_0 (by decide) ?_
  refine lv_istore_n (lv' := [(3, .int (nI 0)), (0, .ref h0), (1, .ref h2), (2, .int (nI sr))]) hx hb zdI_drawMarkedRows_1 rfl hl (Nat.le_of_ble_eq_true rfl) rfl (fun ls hl => ?_)
  refine lv_iconst (v := nI 0) hx hb zdI_drawMarkedRows_2 (by decide) ?_
  refine lv_istore (lv' := [(4, .int (nI 0)), (3, .int (nI 0)), (0, .ref h0), (1, .ref h2), (2, .int (nI sr))]) hx hb zdI_drawMarkedRows_3 hl (Nat.le_of_ble_eq_true rfl) rfl (fun ls hl => ?_)
  have L5 : ∀ (N : Nat) (k : Nat) (mk : Nat) (f2 : Nat → Int64) (H : Heap) (locs : List Loc) (ls : Array Slot), t.length + 1 - k < N → (k ≤ t.length + 1) → (mk = (si_mr t sr k).2) → (∀ x, x < 8 → f2 x = f x) → (∀ x, 8 ≤ x → x < 23 → f2 x = (si_mr t sr k).1 x) → lv_has ls 6 [(0, .ref h0), (1, .ref h2), (2, .int (nI sr)), (3, .int (nI mk)), (4, .int (nI k))] → va_P g.1 vwCl [(h0, .inr (1, [.ref a0])), (a0, .inl (g.2.2, 23, .inr (.inl f2))), (h2, .inr (4, [.ref a2, .ref a3, .int (nI t.length)])), (a3, .inl (g.2.1, 61, .inl fp))] H → va_D A [(h0, .inr (1, [.ref a0])), (a0, .inl (g.2.2, 23, .inr (.inl f2))), (h2, .inr (4, [.ref a2, .ref a3, .int (nI t.length)])), (a3, .inl (g.2.1, 61, .inl fp))] → va_S A s.heap H locs → W p l e ({ frames := 1, cells := 0, slots := 0, locals := 25 } : Room) s m args below meth c H locs 0 0 Q (F0 m 5 ls []) := by
    intro N
    induction N with
    | zero => intro k mk f2 H locs ls hMs; exact absurd hMs (Nat.not_lt_zero _)
    | succ N ih5 =>
      intro k mk f2 H locs ls hMs hk hm hLo hB hl hP hD hS
      refine lv_iload hx hb zdI_drawMarkedRows_5 (lv_at hl 4 rfl) ?_
      refine lv_aload_n hx hb zdI_drawMarkedRows_7 rfl (lv_at hl 1 rfl) ?_
      refine va_getN (D := g.1) (ci := 4) (v := .int (nI t.length)) (C := zRS) (T := zTS) (N := 3) hx hb hts ziS hown hK hP 2 rfl rfl 2 (by decide) (va_Nw.use rfl (hN _ zlI_15)) (fun _ h => h) rfl zdI_drawMarkedRows_8 ?_
      refine si_icmp_gt (tgt := 65) hx hb zdI_drawMarkedRows_11 rfl (by omega) (by omega) (fun h11 => ?_) (fun h11 => ?_)
      · exact hret f2 _ _ _ _ (⟨hLo, fun x h8 h23 => by rw [hB x h8 h23, show k = t.length + 1 by omega]⟩) (hP.sub [0, 1, 2, 3] rfl) (hD.sub [0, 1, 2, 3] (by decide) rfl) hS zdI_drawMarkedRows_65
      · have hpk := (si_pl_ok (t := t) (r := k) (by omega)).1
        have hmk : mk ≤ k := by rw [hm]; exact si_mr_le t sr k
        have hpd : si_pl t k / sr ≤ si_pl t k := Nat.div_le_self _ _
        have hpm : si_pl t k % sr ≤ si_pl t k := Nat.mod_le _ _
        refine lv_aload_n hx hb zdI_drawMarkedRows_14 rfl (lv_at hl 1 rfl) ?_
        refine va_getN (D := g.1) (ci := 4) (v := .ref a3) (C := zRS) (T := zTS) (N := 3) hx hb hts ziS hown hK hP 2 rfl rfl 1 (by decide) (va_Nw.use rfl (hN _ zlI_34)) (fun _ h => h) rfl zdI_drawMarkedRows_15 ?_
        refine lv_iload hx hb zdI_drawMarkedRows_18 (lv_at hl 4 rfl) ?_
        refine si_iald (v := nI (si_pl t k)) hx hb hK hP 3 0 rfl rfl (by decide) (by omega) (hpl k (by omega)) zdI_drawMarkedRows_20 ?_
        refine lv_istore (lv' := [(5, .int (nI (si_pl t k))), (0, .ref h0), (1, .ref h2), (2, .int (nI sr)), (3, .int (nI mk)), (4, .int (nI k))]) hx hb zdI_drawMarkedRows_21 hl (Nat.le_of_ble_eq_true rfl) rfl (fun ls hl => ?_)
        refine lv_iload hx hb zdI_drawMarkedRows_23 (lv_at hl 0 rfl) ?_
        refine lv_iload_n hx hb zdI_drawMarkedRows_25 rfl (lv_at hl 3 rfl) ?_
        refine si_irem (v := nI ((si_pl t k) % sr)) hx hb zdI_drawMarkedRows_26 (nI_ne0 (by omega) (by omega)) (pk_rem (by omega) (by omega) (by omega)) ?_
        refine si_if_ne (tgt := 59) hx hb zdI_drawMarkedRows_27 rfl (by omega) (fun h27 => ?_) (fun h27 => ?_)
        · refine lv_iinc (k := 5) (v := nI (k + 1)) (lv' := [(4, .int (nI (k + 1))), (5, .int (nI (si_pl t k))), (0, .ref h0), (1, .ref h2), (2, .int (nI sr)), (3, .int (nI mk))]) hx hb zdI_drawMarkedRows_59 hl rfl (si_inc _) (Nat.le_of_ble_eq_true rfl) rfl (fun ls hl => ?_)
          refine lv_goto (tgt := 5) hx hb zdI_drawMarkedRows_62 rfl ?_
          exact ih5 (k + 1) mk f2 _ _ _ (by omega) (by omega) (by first | (rw [si_mr_t h27, hm]; done) | (rw [si_mr_f h27, hm]; done)) (by first | exact hLo | exact si_lo8 (by omega) (si_lo8 (by omega) hLo)) (by first | (rw [si_mr_f h27]; exact hB) | (rw [si_mr_t h27, hm]; exact si_dnE (si_mkE hB) (by omega))) (lv_sub hl [2, 3, 4, 5, 0] rfl) (hP.sub [0, 1, 2, 3] rfl) (hD.sub [0, 1, 2, 3] (by decide) rfl) hS
        · refine lv_aload_n hx hb zdI_drawMarkedRows_30 rfl (lv_at hl 1 rfl) ?_
          refine va_get (D := g.1) (ci := 1) (v := .ref a0) (C := zRI) (T := zTI) (N := 1) hx hb hts ziI hown hK hP 0 rfl rfl 0 (by decide) (hts _ zlI_9) (fun _ h => h) rfl zdI_drawMarkedRows_31 ?_
          refine lv_bipush (v := nI 8) hx hb zdI_drawMarkedRows_34 (by decide) ?_
          refine lv_dup2_11 hx hb zdI_drawMarkedRows_36 rfl rfl ?_
          refine si_lald (v := f2 8) hx hb hK hP 1 1 rfl rfl (by decide) (by omega) (rfl) zdI_drawMarkedRows_37 ?_
          refine lv_lconst (v := 1) hx hb zdI_drawMarkedRows_38 (by decide) ?_
          refine lv_iload hx hb zdI_drawMarkedRows_39 (lv_at hl 5 rfl) ?_
          refine lv_lshl (v := (1 : Int64) <<< ((nI k).toInt64 &&& 63)) hx hb zdI_drawMarkedRows_41 (rfl) ?_
          refine si_lor (v := (f2 8) ||| ((1 : Int64) <<< ((nI k).toInt64 &&& 63))) hx hb zdI_drawMarkedRows_42 (rfl) ?_
          refine si_last hx hb hK hP hD hS 1 1 rfl rfl (by decide) (by omega) zdI_drawMarkedRows_43 (fun H locs hP hD hS => ?_)
          have hP : va_P g.1 vwCl [(h0, .inr (1, [.ref a0])), (a0, .inl (g.2.2, 23, .inr (.inl (vp_updL f2 8 ((f2 8) ||| ((1 : Int64) <<< ((nI k).toInt64 &&& 63))))))), (h2, .inr (4, [.ref a2, .ref a3, .int (nI t.length)])), (a3, .inl (g.2.1, 61, .inl fp))] H := hP
          have hD : va_D A [(h0, .inr (1, [.ref a0])), (a0, .inl (g.2.2, 23, .inr (.inl (vp_updL f2 8 ((f2 8) ||| ((1 : Int64) <<< ((nI k).toInt64 &&& 63))))))), (h2, .inr (4, [.ref a2, .ref a3, .int (nI t.length)])), (a3, .inl (g.2.1, 61, .inl fp))] := hD
          refine lv_aload_n hx hb zdI_drawMarkedRows_44 rfl (lv_at hl 1 rfl) ?_
          refine lv_bipush (v := nI 9) hx hb zdI_drawMarkedRows_45 (by decide) ?_
          refine lv_iload_n hx hb zdI_drawMarkedRows_47 rfl (lv_at hl 4 rfl) ?_
          refine lv_iload hx hb zdI_drawMarkedRows_48 (lv_at hl 0 rfl) ?_
          refine lv_iload_n hx hb zdI_drawMarkedRows_50 rfl (lv_at hl 3 rfl) ?_
          refine si_idiv (v := nI ((si_pl t k) / sr)) hx hb zdI_drawMarkedRows_51 (nI_ne0 (by omega) (by omega)) (pk_div (by omega) (by omega) (by omega)) ?_
          refine lv_i2l (v := lN ((si_pl t k) / sr)) hx hb zdI_drawMarkedRows_52 (nI_l (by omega)) ?_
          refine (cI_drawNumber l g h0 a0 9 mk (vp_updL f2 8 (f2 8 ||| ((1 : Int64) <<< ((nI k).toInt64 &&& 63)))) (lN (si_pl t k / sr)) (by omega) (by omega)).callV (wr := [(h2, .inr (4, [.ref a2, .ref a3, .int (nI t.length)])), (a3, .inl (g.2.1, 61, .inl fp))]) (As := [.int (nI 9), .int (nI mk), .long (lN ((si_pl t k) / sr))]) (rest := []) hF (si_cV 3 hts zcI_drawNumber zlI_38 zimI_drawNumber zseI_drawNumber ziniI zhI_drawNumber ⟨Nat.le_of_ble_eq_true rfl, Nat.le_of_ble_eq_true rfl⟩) hK hN hP hD hS hA [0, 1] [2, 3] rfl rfl (by decide) (by decide) (va_recv (q := (zRI, zTI, 1)) hK hP (ci := 1) (q0 := 0) rfl rfl) rfl hl.1 rfl (Nat.le_of_ble_eq_true rfl) zdI_drawMarkedRows_53 ⟨Nat.le_of_ble_eq_true rfl, Nat.le_of_ble_eq_true rfl⟩ rfl rfl (fun _u H locs _hq hP hD hS => ?_)
          have hP : va_P g.1 vwCl [(h2, .inr (4, [.ref a2, .ref a3, .int (nI t.length)])), (a3, .inl (g.2.1, 61, .inl fp)), (h0, .inr (1, [.ref a0])), (a0, .inl (g.2.2, 23, .inr (.inl (vp_updL (vp_updL f2 8 (f2 8 ||| ((1 : Int64) <<< ((nI k).toInt64 &&& 63)))) (9 + mk / 10) ((vp_updL f2 8 (f2 8 ||| ((1 : Int64) <<< ((nI k).toInt64 &&& 63)))) (9 + mk / 10) ||| (lN (si_pl t k / sr) <<< ((nI (6 * (mk % 10))).toInt64 &&& 63)))))))] H := hP
          have hD : va_D A [(h2, .inr (4, [.ref a2, .ref a3, .int (nI t.length)])), (a3, .inl (g.2.1, 61, .inl fp)), (h0, .inr (1, [.ref a0])), (a0, .inl (g.2.2, 23, .inr (.inl (vp_updL (vp_updL f2 8 (f2 8 ||| ((1 : Int64) <<< ((nI k).toInt64 &&& 63)))) (9 + mk / 10) ((vp_updL f2 8 (f2 8 ||| ((1 : Int64) <<< ((nI k).toInt64 &&& 63)))) (9 + mk / 10) ||| (lN (si_pl t k / sr) <<< ((nI (6 * (mk % 10))).toInt64 &&& 63)))))))] := hD
          refine lv_iinc (k := 4) (v := nI (mk + 1)) (lv' := [(3, .int (nI (mk + 1))), (5, .int (nI (si_pl t k))), (0, .ref h0), (1, .ref h2), (2, .int (nI sr)), (4, .int (nI k))]) hx hb zdI_drawMarkedRows_56 hl rfl (si_inc _) (Nat.le_of_ble_eq_true rfl) rfl (fun ls hl => ?_)
          refine lv_iinc (k := 5) (v := nI (k + 1)) (lv' := [(4, .int (nI (k + 1))), (3, .int (nI (mk + 1))), (5, .int (nI (si_pl t k))), (0, .ref h0), (1, .ref h2), (2, .int (nI sr))]) hx hb zdI_drawMarkedRows_59 hl rfl (si_inc _) (Nat.le_of_ble_eq_true rfl) rfl (fun ls hl => ?_)
          refine lv_goto (tgt := 5) hx hb zdI_drawMarkedRows_62 rfl ?_
          exact ih5 (k + 1) (mk + 1) (vp_updL (vp_updL f2 8 (f2 8 ||| ((1 : Int64) <<< ((nI k).toInt64 &&& 63)))) (9 + mk / 10) ((vp_updL f2 8 (f2 8 ||| ((1 : Int64) <<< ((nI k).toInt64 &&& 63)))) (9 + mk / 10) ||| (lN (si_pl t k / sr) <<< ((nI (6 * (mk % 10))).toInt64 &&& 63)))) _ _ _ (by omega) (by omega) (by first | (rw [si_mr_t h27, hm]; done) | (rw [si_mr_f h27, hm]; done)) (by first | exact hLo | exact si_lo8 (by omega) (si_lo8 (by omega) hLo)) (by first | (rw [si_mr_f h27]; exact hB) | (rw [si_mr_t h27, hm]; exact si_dnE (si_mkE hB) (by omega))) (lv_sub hl [3, 4, 5, 1, 0] rfl) (hP.sub [2, 3, 0, 1] rfl) (hD.sub [2, 3, 0, 1] (by decide) rfl) hS
  exact L5 (t.length + 1 - 0 + 1) 0 0 f _ _ _ (by omega) (by omega) (rfl) (fun x _ => rfl) (hf0) (lv_sub hl [2, 3, 4, 1, 0] rfl) (hP.sub [0, 1, 2, 3] rfl) (hD.sub [0, 1, 2, 3] (by decide) rfl) hS

set_option maxHeartbeats 4000000 in
set_option maxRecDepth 100000 in
/-- drawRowsOfPlaces -/
theorem cI_drawRowsOfPlaces (l : Launch) (g : si_G) (h0 a0 h2 a2 a3 : Nat) (f : Nat → Int64) (fr : Nat → Int32) (t : List Nat) (sr : Nat) (hn : t.length ≤ 60) (hs1 : 1 ≤ sr) (hs2 : sr ≤ 16) (hrk : ∀ x, x < t.length + 1 → fr x = nI (si_rk t x)) (hf0 : ∀ x, 8 ≤ x → x < 23 → f x = (si_mr t sr (t.length + 1)).1 x) : si_Mv (S := Nat → Int64) l g vwCl zyI_drawRowsOfPlaces zwI_drawRowsOfPlaces ({ frames := 1, cells := 0, slots := 0, locals := 25 } : Room) [.ref h0, .ref h2, .int (nI sr)] [(h0, .inr (1, [.ref a0])), (a0, .inl (g.2.2, 23, .inr (.inl f))), (h2, .inr (4, [.ref a2, .ref a3, .int (nI t.length)])), (a2, .inl (g.2.1, 61, .inl fr))] (fun u => (∀ x, x < 8 → u x = f x) ∧ ∀ x, 8 ≤ x → x < 23 → u x = si_rw t sr (t.length / sr + 1) x) (fun u => [(h0, .inr (1, [.ref a0])), (a0, .inl (g.2.2, 23, .inr (.inl u))), (h2, .inr (4, [.ref a2, .ref a3, .int (nI t.length)])), (a2, .inl (g.2.1, 61, .inl fr))]) := by
  refine si_Mv.of (cc := zkI_drawRowsOfPlaces) (maxL := 5) (by decide) rfl (Nat.le_of_ble_eq_true rfl) ?_
  intro p e s m args below meth c A Q ls hF0 hin hK hN hP hD hA hS hl hret
  obtain ⟨hx, hb, hml, hown, hts0⟩ := hF0
  have hts : ∀ w ∈ si_tbl, w.before args s = true := fun w hw => hts0 w (List.mem_cons_of_mem _ hw)
  have hF : CallFix p m c zkI_drawRowsOfPlaces 5 s args si_tbl zRI := ⟨hx, hb, hml, hown, hts⟩
  have hl : lv_has ls 5 [(0, .ref h0), (1, .ref h2), (2, .int (nI sr))] := hl
  obtain ⟨gr, hgr⟩ : ∃ z, z = t.length / sr := ⟨_, rfl⟩
  have hdl : gr ≤ t.length := by rw [hgr]; exact Nat.div_le_self _ _
  refine lv_aload_n hx hb zdI_drawRowsOfPlaces_0 rfl (lv_at hl 1 rfl) ?_
  refine va_getN (D := g.1) (ci := 4) (v := .int (nI t.length)) (C := zRS) (T := zTS) (N := 3) hx hb hts ziS hown hK hP 2 rfl rfl 2 (by decide) (va_Nw.use rfl (hN _ zlI_15)) (fun _ h => h) rfl zdI_drawRowsOfPlaces_1 ?_
  refine lv_iload_n hx hb zdI_drawRowsOfPlaces_4 rfl (lv_at hl 2 rfl) ?_
  refine si_idiv (v := nI gr) hx hb zdI_drawRowsOfPlaces_5 (nI_ne0 (by omega) (by omega)) (by rw [hgr]; exact pk_div (by omega) (by omega) (by omega)) ?_
  refine lv_istore_n (lv' := [(3, .int (nI gr)), (0, .ref h0), (1, .ref h2), (2, .int (nI sr))]) hx hb zdI_drawRowsOfPlaces_6 rfl hl (Nat.le_of_ble_eq_true rfl) rfl (fun ls hl => ?_)
  refine lv_iconst (v := nI 0) hx hb zdI_drawRowsOfPlaces_7 (by decide) ?_
  refine lv_istore (lv' := [(4, .int (nI 0)), (3, .int (nI gr)), (0, .ref h0), (1, .ref h2), (2, .int (nI sr))]) hx hb zdI_drawRowsOfPlaces_8 hl (Nat.le_of_ble_eq_true rfl) rfl (fun ls hl => ?_)
  have L10 : ∀ (N : Nat) (q : Nat) (f2 : Nat → Int64) (H : Heap) (locs : List Loc) (ls : Array Slot), gr + 1 - q < N → (q ≤ gr + 1) → (∀ x, x < 8 → f2 x = f x) → (∀ x, 8 ≤ x → x < 23 → f2 x = si_rw t sr q x) → lv_has ls 5 [(0, .ref h0), (1, .ref h2), (2, .int (nI sr)), (3, .int (nI gr)), (4, .int (nI q))] → va_P g.1 vwCl [(h0, .inr (1, [.ref a0])), (a0, .inl (g.2.2, 23, .inr (.inl f2))), (h2, .inr (4, [.ref a2, .ref a3, .int (nI t.length)])), (a2, .inl (g.2.1, 61, .inl fr))] H → va_D A [(h0, .inr (1, [.ref a0])), (a0, .inl (g.2.2, 23, .inr (.inl f2))), (h2, .inr (4, [.ref a2, .ref a3, .int (nI t.length)])), (a2, .inl (g.2.1, 61, .inl fr))] → va_S A s.heap H locs → W p l e ({ frames := 1, cells := 0, slots := 0, locals := 25 } : Room) s m args below meth c H locs 0 0 Q (F0 m 10 ls []) := by
    intro N
    induction N with
    | zero => intro q f2 H locs ls hMs; exact absurd hMs (Nat.not_lt_zero _)
    | succ N ih10 =>
      intro q f2 H locs ls hMs hq hLo hB hl hP hD hS
      refine lv_iload hx hb zdI_drawRowsOfPlaces_10 (lv_at hl 4 rfl) ?_
      refine lv_iload_n hx hb zdI_drawRowsOfPlaces_12 rfl (lv_at hl 3 rfl) ?_
      refine si_icmp_gt (tgt := 40) hx hb zdI_drawRowsOfPlaces_13 rfl (by omega) (by omega) (fun h13 => ?_) (fun h13 => ?_)
      · exact hret f2 _ _ _ _ (⟨hLo, fun x h8 h23 => by rw [hB x h8 h23, show q = t.length / sr + 1 by rw [← hgr]; omega]⟩) (hP.sub [0, 1, 2, 3] rfl) (hD.sub [0, 1, 2, 3] (by decide) rfl) hS zdI_drawRowsOfPlaces_40
      · have hqs : q * sr ≤ t.length := by
          have z1 := Nat.div_mul_le_self t.length sr
          rw [← hgr] at z1
          have z2 := Nat.mul_le_mul_right sr (show q ≤ gr by omega)
          omega
        have hrl := si_rk_le (t := t) (p := q * sr) hqs
        refine lv_aload_n hx hb zdI_drawRowsOfPlaces_16 rfl (lv_at hl 0 rfl) ?_
        refine lv_bipush (v := nI 16) hx hb zdI_drawRowsOfPlaces_17 (by decide) ?_
        refine lv_iload hx hb zdI_drawRowsOfPlaces_19 (lv_at hl 4 rfl) ?_
        refine lv_aload_n hx hb zdI_drawRowsOfPlaces_21 rfl (lv_at hl 1 rfl) ?_
        refine va_getN (D := g.1) (ci := 4) (v := .ref a2) (C := zRS) (T := zTS) (N := 3) hx hb hts ziS hown hK hP 2 rfl rfl 0 (by decide) (va_Nw.use rfl (hN _ zlI_42)) (fun _ h => h) rfl zdI_drawRowsOfPlaces_22 ?_
        refine lv_iload hx hb zdI_drawRowsOfPlaces_25 (lv_at hl 4 rfl) ?_
        refine lv_iload_n hx hb zdI_drawRowsOfPlaces_27 rfl (lv_at hl 2 rfl) ?_
        refine si_imul (v := nI (q * sr)) hx hb zdI_drawRowsOfPlaces_28 (pk_mul _ _) ?_
        refine si_iald (v := nI (si_rk t (q * sr))) hx hb hK hP 3 0 rfl rfl (by decide) (by omega) (hrk (q * sr) (by omega)) zdI_drawRowsOfPlaces_29 ?_
        refine lv_i2l (v := lN (si_rk t (q * sr))) hx hb zdI_drawRowsOfPlaces_30 (nI_l (by omega)) ?_
        refine (cI_drawNumber l g h0 a0 16 q f2 (lN (si_rk t (q * sr))) (by omega) (by omega)).callV (wr := [(h2, .inr (4, [.ref a2, .ref a3, .int (nI t.length)])), (a2, .inl (g.2.1, 61, .inl fr))]) (As := [.int (nI 16), .int (nI q), .long (lN (si_rk t (q * sr)))]) (rest := []) hF (si_cV 3 hts zcI_drawNumber zlI_38 zimI_drawNumber zseI_drawNumber ziniI zhI_drawNumber ⟨Nat.le_of_ble_eq_true rfl, Nat.le_of_ble_eq_true rfl⟩) hK hN hP hD hS hA [0, 1] [2, 3] rfl rfl (by decide) (by decide) (va_recv (q := (zRI, zTI, 1)) hK hP (ci := 1) (q0 := 0) rfl rfl) rfl hl.1 rfl (Nat.le_of_ble_eq_true rfl) zdI_drawRowsOfPlaces_31 ⟨Nat.le_of_ble_eq_true rfl, Nat.le_of_ble_eq_true rfl⟩ rfl rfl (fun _u H locs _hq hP hD hS => ?_)
        have hP : va_P g.1 vwCl [(h2, .inr (4, [.ref a2, .ref a3, .int (nI t.length)])), (a2, .inl (g.2.1, 61, .inl fr)), (h0, .inr (1, [.ref a0])), (a0, .inl (g.2.2, 23, .inr (.inl (vp_updL f2 (16 + q / 10) (f2 (16 + q / 10) ||| (lN (si_rk t (q * sr)) <<< ((nI (6 * (q % 10))).toInt64 &&& 63)))))))] H := hP
        have hD : va_D A [(h2, .inr (4, [.ref a2, .ref a3, .int (nI t.length)])), (a2, .inl (g.2.1, 61, .inl fr)), (h0, .inr (1, [.ref a0])), (a0, .inl (g.2.2, 23, .inr (.inl (vp_updL f2 (16 + q / 10) (f2 (16 + q / 10) ||| (lN (si_rk t (q * sr)) <<< ((nI (6 * (q % 10))).toInt64 &&& 63)))))))] := hD
        refine lv_iinc (k := 4) (v := nI (q + 1)) (lv' := [(4, .int (nI (q + 1))), (0, .ref h0), (1, .ref h2), (2, .int (nI sr)), (3, .int (nI gr))]) hx hb zdI_drawRowsOfPlaces_34 hl rfl (si_inc _) (Nat.le_of_ble_eq_true rfl) rfl (fun ls hl => ?_)
        refine lv_goto (tgt := 10) hx hb zdI_drawRowsOfPlaces_37 rfl ?_
        exact ih10 (q + 1) (vp_updL f2 (16 + q / 10) (f2 (16 + q / 10) ||| (lN (si_rk t (q * sr)) <<< ((nI (6 * (q % 10))).toInt64 &&& 63)))) _ _ _ (by omega) (by omega) (si_lo8 (by omega) hLo) (si_dnE hB (by omega)) (lv_sub hl [1, 2, 3, 4, 0] rfl) (hP.sub [2, 3, 0, 1] rfl) (hD.sub [2, 3, 0, 1] (by decide) rfl) hS
  exact L10 (gr + 1 - 0 + 1) 0 f _ _ _ (by omega) (by omega) (fun x _ => rfl) (hf0) (lv_sub hl [2, 3, 4, 1, 0] rfl) (hP.sub [0, 1, 2, 3] rfl) (hD.sub [0, 1, 2, 3] (by decide) rfl) hS

set_option maxHeartbeats 4000000 in
set_option maxRecDepth 100000 in
/-- draw -/
theorem cI_draw (l : Launch) (g : si_G) (h0 a0 h1 b1 b2 b3 b4 h2 a2 a3 : Nat) (f : Nat → Int64) (fc fo fn fr fp : Nat → Int32) (t : List Nat) (sr : Nat) (hok : si_ok t) (hs1 : 1 ≤ sr) (hs2 : sr ≤ 16) (hfc : ∀ x, x < t.length + 1 → fc x = nI (si_B t x)) (hsu : si_su t fr fp) : si_Mv (S := (Nat → Int32) × (Nat → Int32) × (Nat → Int64)) l g vwCl zyI_draw zwI_draw ({ frames := 2, cells := 0, slots := 0, locals := 52 } : Room) [.ref h0, .ref h1, .ref h2, .int (nI sr)] [(h0, .inr (1, [.ref a0])), (a0, .inl (g.2.2, 23, .inr (.inl f))), (h1, .inr (0, [.ref b1, .ref b2, .ref b3, .ref b4, .int (nI t.length)])), (b1, .inl (g.2.1, 61, .inl fc)), (b2, .inl (g.2.1, 61, .inl fo)), (b3, .inl (g.2.1, 61, .inl fn)), (h2, .inr (4, [.ref a2, .ref a3, .int (nI t.length)])), (a2, .inl (g.2.1, 61, .inl fr)), (a3, .inl (g.2.1, 61, .inl fp))] (fun u => ∀ k, k < 23 → u.2.2 k = si_im t sr k) (fun u => [(h0, .inr (1, [.ref a0])), (a0, .inl (g.2.2, 23, .inr (.inl u.2.2))), (h1, .inr (0, [.ref b1, .ref b2, .ref b3, .ref b4, .int (nI t.length)])), (b1, .inl (g.2.1, 61, .inl fc)), (b2, .inl (g.2.1, 61, .inl u.1)), (b3, .inl (g.2.1, 61, .inl u.2.1)), (h2, .inr (4, [.ref a2, .ref a3, .int (nI t.length)])), (a2, .inl (g.2.1, 61, .inl fr)), (a3, .inl (g.2.1, 61, .inl fp))]) := by
  refine si_Mv.of (cc := zkI_draw) (maxL := 5) (by decide) rfl (Nat.le_of_ble_eq_true rfl) ?_
  intro p e s m args below meth c A Q ls hF0 hin hK hN hP hD hA hS hl hret
  obtain ⟨hx, hb, hml, hown, hts0⟩ := hF0
  have hts : ∀ w ∈ si_tbl, w.before args s = true := fun w hw => hts0 w (List.mem_cons_of_mem _ hw)
  have hF : CallFix p m c zkI_draw 5 s args si_tbl zRI := ⟨hx, hb, hml, hown, hts⟩
  have hl : lv_has ls 5 [(0, .ref h0), (1, .ref h1), (2, .ref h2), (3, .int (nI sr))] := hl
  have hn := hok.1
  refine lv_iconst (v := nI 0) hx hb zdI_draw_0 (by decide) ?_
  refine lv_istore (lv' := [(4, .int (nI 0)), (0, .ref h0), (1, .ref h1), (2, .ref h2), (3, .int (nI sr))]) hx hb zdI_draw_1 hl (Nat.le_of_ble_eq_true rfl) rfl (fun ls hl => ?_)
  have L3 : ∀ (N : Nat) (k : Nat) (f2 : Nat → Int64) (H : Heap) (locs : List Loc) (ls : Array Slot), 23 - k < N → (k ≤ 23) → (∀ x, x < k → f2 x = 0) → lv_has ls 5 [(0, .ref h0), (1, .ref h1), (2, .ref h2), (3, .int (nI sr)), (4, .int (nI k))] → va_P g.1 vwCl [(h0, .inr (1, [.ref a0])), (a0, .inl (g.2.2, 23, .inr (.inl f2))), (h1, .inr (0, [.ref b1, .ref b2, .ref b3, .ref b4, .int (nI t.length)])), (b1, .inl (g.2.1, 61, .inl fc)), (b2, .inl (g.2.1, 61, .inl fo)), (b3, .inl (g.2.1, 61, .inl fn)), (h2, .inr (4, [.ref a2, .ref a3, .int (nI t.length)])), (a2, .inl (g.2.1, 61, .inl fr)), (a3, .inl (g.2.1, 61, .inl fp))] H → va_D A [(h0, .inr (1, [.ref a0])), (a0, .inl (g.2.2, 23, .inr (.inl f2))), (h1, .inr (0, [.ref b1, .ref b2, .ref b3, .ref b4, .int (nI t.length)])), (b1, .inl (g.2.1, 61, .inl fc)), (b2, .inl (g.2.1, 61, .inl fo)), (b3, .inl (g.2.1, 61, .inl fn)), (h2, .inr (4, [.ref a2, .ref a3, .int (nI t.length)])), (a2, .inl (g.2.1, 61, .inl fr)), (a3, .inl (g.2.1, 61, .inl fp))] → va_S A s.heap H locs → W p l e ({ frames := 2, cells := 0, slots := 0, locals := 52 } : Room) s m args below meth c H locs 0 0 Q (F0 m 3 ls []) := by
    intro N
    induction N with
    | zero => intro k f2 H locs ls hMs; exact absurd hMs (Nat.not_lt_zero _)
    | succ N ih3 =>
      intro k f2 H locs ls hMs hk hZ hl hP hD hS
      refine lv_iload hx hb zdI_draw_3 (lv_at hl 4 rfl) ?_
      refine lv_bipush (v := nI 23) hx hb zdI_draw_5 (by decide) ?_
      refine si_icmp_ge (tgt := 24) hx hb zdI_draw_7 rfl (by omega) (by decide) (fun h7 => ?_) (fun h7 => ?_)
      · refine lv_aload_n hx hb zdI_draw_24 rfl (lv_at hl 0 rfl) ?_
        refine va_get (D := g.1) (ci := 1) (v := .ref a0) (C := zRI) (T := zTI) (N := 1) hx hb hts ziI hown hK hP 0 rfl rfl 0 (by decide) (hts _ zlI_9) (fun _ h => h) rfl zdI_draw_25 ?_
        refine lv_iconst (v := nI 0) hx hb zdI_draw_28 (by decide) ?_
        refine lv_aload_n hx hb zdI_draw_29 rfl (lv_at hl 2 rfl) ?_
        refine va_getN (D := g.1) (ci := 4) (v := .int (nI t.length)) (C := zRS) (T := zTS) (N := 3) hx hb hts ziS hown hK hP 6 rfl rfl 2 (by decide) (va_Nw.use rfl (hN _ zlI_15)) (fun _ h => h) rfl zdI_draw_30 ?_
        refine lv_sipush (v := nI 256) hx hb zdI_draw_33 (by decide) ?_
        refine lv_iload_n hx hb zdI_draw_36 rfl (lv_at hl 3 rfl) ?_
        refine si_imul (v := nI (256 * sr)) hx hb zdI_draw_37 (pk_mul _ _) ?_
        refine si_iadd (v := nI (t.length + (256 * sr))) hx hb zdI_draw_38 (nI_add _ _) ?_
        refine lv_i2l (v := lN (t.length + (256 * sr))) hx hb zdI_draw_39 (nI_l (by omega)) ?_
        refine si_last hx hb hK hP hD hS 1 1 rfl rfl (by decide) (by omega) zdI_draw_40 (fun H locs hP hD hS => ?_)
        have hP : va_P g.1 vwCl [(h0, .inr (1, [.ref a0])), (a0, .inl (g.2.2, 23, .inr (.inl (vp_updL f2 0 (lN (t.length + (256 * sr))))))), (h1, .inr (0, [.ref b1, .ref b2, .ref b3, .ref b4, .int (nI t.length)])), (b1, .inl (g.2.1, 61, .inl fc)), (b2, .inl (g.2.1, 61, .inl fo)), (b3, .inl (g.2.1, 61, .inl fn)), (h2, .inr (4, [.ref a2, .ref a3, .int (nI t.length)])), (a2, .inl (g.2.1, 61, .inl fr)), (a3, .inl (g.2.1, 61, .inl fp))] H := hP
        have hD : va_D A [(h0, .inr (1, [.ref a0])), (a0, .inl (g.2.2, 23, .inr (.inl (vp_updL f2 0 (lN (t.length + (256 * sr))))))), (h1, .inr (0, [.ref b1, .ref b2, .ref b3, .ref b4, .int (nI t.length)])), (b1, .inl (g.2.1, 61, .inl fc)), (b2, .inl (g.2.1, 61, .inl fo)), (b3, .inl (g.2.1, 61, .inl fn)), (h2, .inr (4, [.ref a2, .ref a3, .int (nI t.length)])), (a2, .inl (g.2.1, 61, .inl fr)), (a3, .inl (g.2.1, 61, .inl fp))] := hD
        refine lv_aload_n hx hb zdI_draw_41 rfl (lv_at hl 1 rfl) ?_
        refine lv_aload_n hx hb zdI_draw_42 rfl (lv_at hl 0 rfl) ?_
        refine (cB_drawLevels l g h1 b1 b2 b3 b4 t.length h0 a0 fc fo fn (vp_updL f2 0 (lN (t.length + 256 * sr))) (si_B t) hn hfc (fun x _ => by have := si_B_le hok x; omega)).callV (wr := [(h2, .inr (4, [.ref a2, .ref a3, .int (nI t.length)])), (a2, .inl (g.2.1, 61, .inl fr)), (a3, .inl (g.2.1, 61, .inl fp))]) (As := [.ref h0]) (rest := []) hF (si_cV 1 hts zcB_drawLevels zlI_21 zimB_drawLevels zseB_drawLevels ziniB zhB_drawLevels ⟨Nat.le_of_ble_eq_true rfl, Nat.le_of_ble_eq_true rfl⟩) hK hN hP hD hS hA [2, 3, 4, 5, 0, 1] [6, 7, 8] rfl rfl (by decide) (by decide) (va_recv (q := (zRB, zTB, 5)) hK hP (ci := 0) (q0 := 2) rfl rfl) rfl hl.1 rfl (Nat.le_of_ble_eq_true rfl) zdI_draw_43 ⟨Nat.le_of_ble_eq_true rfl, Nat.le_of_ble_eq_true rfl⟩ rfl rfl (fun u_ H locs hq_ hP hD hS => ?_)
        obtain ⟨o3, n3, w3⟩ := u_
        obtain ⟨hq1, hq2⟩ := hq_
        have hq2 : ∀ k, k = 0 ∨ 8 ≤ k → w3 k = vp_updL f2 0 (lN (t.length + 256 * sr)) k := hq2
        have hq1 : ∀ k, k < 7 → w3 (1 + k) = si_wd (t.length + 1) (si_lb (si_B t) (t.length + 1) k) := hq1
        have hP : va_P g.1 vwCl [(h2, .inr (4, [.ref a2, .ref a3, .int (nI t.length)])), (a2, .inl (g.2.1, 61, .inl fr)), (a3, .inl (g.2.1, 61, .inl fp)), (h1, .inr (0, [.ref b1, .ref b2, .ref b3, .ref b4, .int (nI t.length)])), (b1, .inl (g.2.1, 61, .inl fc)), (b2, .inl (g.2.1, 61, .inl o3)), (b3, .inl (g.2.1, 61, .inl n3)), (h0, .inr (1, [.ref a0])), (a0, .inl (g.2.2, 23, .inr (.inl w3)))] H := hP
        have hD : va_D A [(h2, .inr (4, [.ref a2, .ref a3, .int (nI t.length)])), (a2, .inl (g.2.1, 61, .inl fr)), (a3, .inl (g.2.1, 61, .inl fp)), (h1, .inr (0, [.ref b1, .ref b2, .ref b3, .ref b4, .int (nI t.length)])), (b1, .inl (g.2.1, 61, .inl fc)), (b2, .inl (g.2.1, 61, .inl o3)), (b3, .inl (g.2.1, 61, .inl n3)), (h0, .inr (1, [.ref a0])), (a0, .inl (g.2.2, 23, .inr (.inl w3)))] := hD
        refine lv_aload_n hx hb zdI_draw_46 rfl (lv_at hl 0 rfl) ?_
        refine lv_aload_n hx hb zdI_draw_47 rfl (lv_at hl 2 rfl) ?_
        refine lv_iload_n hx hb zdI_draw_48 rfl (lv_at hl 3 rfl) ?_
        refine (cI_drawMarkedRows l g h0 a0 h2 a2 a3 w3 fp t sr hn hs1 hs2 hsu.2 (fun x h8 h23 => by rw [hq2 x (Or.inr h8), pk_uLn (by omega)]; exact hZ x (by omega))).callV (wr := [(a2, .inl (g.2.1, 61, .inl fr)), (h1, .inr (0, [.ref b1, .ref b2, .ref b3, .ref b4, .int (nI t.length)])), (b1, .inl (g.2.1, 61, .inl fc)), (b2, .inl (g.2.1, 61, .inl o3)), (b3, .inl (g.2.1, 61, .inl n3))]) (As := [.ref h2, .int (nI sr)]) (rest := []) hF (si_cV 2 hts zcI_drawMarkedRows zlI_27 zimI_drawMarkedRows zseI_drawMarkedRows ziniI zhI_drawMarkedRows ⟨Nat.le_of_ble_eq_true rfl, Nat.le_of_ble_eq_true rfl⟩) hK hN hP hD hS hA [7, 8, 0, 2] [1, 3, 4, 5, 6] rfl rfl (by decide) (by decide) (va_recv (q := (zRI, zTI, 1)) hK hP (ci := 1) (q0 := 7) rfl rfl) rfl hl.1 rfl (Nat.le_of_ble_eq_true rfl) zdI_draw_49 ⟨Nat.le_of_ble_eq_true rfl, Nat.le_of_ble_eq_true rfl⟩ rfl rfl (fun w4 H locs hq_ hP hD hS => ?_)
        obtain ⟨hu1, hu2⟩ := hq_
        have hP : va_P g.1 vwCl [(a2, .inl (g.2.1, 61, .inl fr)), (h1, .inr (0, [.ref b1, .ref b2, .ref b3, .ref b4, .int (nI t.length)])), (b1, .inl (g.2.1, 61, .inl fc)), (b2, .inl (g.2.1, 61, .inl o3)), (b3, .inl (g.2.1, 61, .inl n3)), (h0, .inr (1, [.ref a0])), (a0, .inl (g.2.2, 23, .inr (.inl w4))), (h2, .inr (4, [.ref a2, .ref a3, .int (nI t.length)])), (a3, .inl (g.2.1, 61, .inl fp))] H := hP
        have hD : va_D A [(a2, .inl (g.2.1, 61, .inl fr)), (h1, .inr (0, [.ref b1, .ref b2, .ref b3, .ref b4, .int (nI t.length)])), (b1, .inl (g.2.1, 61, .inl fc)), (b2, .inl (g.2.1, 61, .inl o3)), (b3, .inl (g.2.1, 61, .inl n3)), (h0, .inr (1, [.ref a0])), (a0, .inl (g.2.2, 23, .inr (.inl w4))), (h2, .inr (4, [.ref a2, .ref a3, .int (nI t.length)])), (a3, .inl (g.2.1, 61, .inl fp))] := hD
        refine lv_aload_n hx hb zdI_draw_52 rfl (lv_at hl 0 rfl) ?_
        refine lv_aload_n hx hb zdI_draw_53 rfl (lv_at hl 2 rfl) ?_
        refine lv_iload_n hx hb zdI_draw_54 rfl (lv_at hl 3 rfl) ?_
        refine (cI_drawRowsOfPlaces l g h0 a0 h2 a2 a3 w4 fr t sr hn hs1 hs2 hsu.1 hu2).callV (wr := [(h1, .inr (0, [.ref b1, .ref b2, .ref b3, .ref b4, .int (nI t.length)])), (b1, .inl (g.2.1, 61, .inl fc)), (b2, .inl (g.2.1, 61, .inl o3)), (b3, .inl (g.2.1, 61, .inl n3)), (a3, .inl (g.2.1, 61, .inl fp))]) (As := [.ref h2, .int (nI sr)]) (rest := []) hF (si_cV 2 hts zcI_drawRowsOfPlaces zlI_31 zimI_drawRowsOfPlaces zseI_drawRowsOfPlaces ziniI zhI_drawRowsOfPlaces ⟨Nat.le_of_ble_eq_true rfl, Nat.le_of_ble_eq_true rfl⟩) hK hN hP hD hS hA [5, 6, 7, 0] [1, 2, 3, 4, 8] rfl rfl (by decide) (by decide) (va_recv (q := (zRI, zTI, 1)) hK hP (ci := 1) (q0 := 5) rfl rfl) rfl hl.1 rfl (Nat.le_of_ble_eq_true rfl) zdI_draw_55 ⟨Nat.le_of_ble_eq_true rfl, Nat.le_of_ble_eq_true rfl⟩ rfl rfl (fun w5 H locs hq_ hP hD hS => ?_)
        obtain ⟨hv1, hv2⟩ := hq_
        have hP : va_P g.1 vwCl [(h1, .inr (0, [.ref b1, .ref b2, .ref b3, .ref b4, .int (nI t.length)])), (b1, .inl (g.2.1, 61, .inl fc)), (b2, .inl (g.2.1, 61, .inl o3)), (b3, .inl (g.2.1, 61, .inl n3)), (a3, .inl (g.2.1, 61, .inl fp)), (h0, .inr (1, [.ref a0])), (a0, .inl (g.2.2, 23, .inr (.inl w5))), (h2, .inr (4, [.ref a2, .ref a3, .int (nI t.length)])), (a2, .inl (g.2.1, 61, .inl fr))] H := hP
        have hD : va_D A [(h1, .inr (0, [.ref b1, .ref b2, .ref b3, .ref b4, .int (nI t.length)])), (b1, .inl (g.2.1, 61, .inl fc)), (b2, .inl (g.2.1, 61, .inl o3)), (b3, .inl (g.2.1, 61, .inl n3)), (a3, .inl (g.2.1, 61, .inl fp)), (h0, .inr (1, [.ref a0])), (a0, .inl (g.2.2, 23, .inr (.inl w5))), (h2, .inr (4, [.ref a2, .ref a3, .int (nI t.length)])), (a2, .inl (g.2.1, 61, .inl fr))] := hD
        have hfin : ∀ k, k < 23 → w5 k = si_im t sr k := by
          intro k hk
          unfold si_im
          by_cases e0 : k = 0
          · subst e0
            rw [if_pos rfl, hv1 0 (by omega), hu1 0 (by omega), hq2 0 (Or.inl rfl), pk_uLs]
          · rw [if_neg e0]
            by_cases e8 : k < 8
            · rw [if_pos e8, hv1 k e8, hu1 k e8]
              have := hq1 (k - 1) (by omega)
              rwa [show 1 + (k - 1) = k by omega] at this
            · rw [if_neg e8]; exact hv2 k (by omega) hk
        exact hret (o3, n3, w5) _ _ _ _ (hfin) (hP.sub [5, 6, 0, 1, 2, 3, 7, 8, 4] rfl) (hD.sub [5, 6, 0, 1, 2, 3, 7, 8, 4] (by decide) rfl) hS zdI_draw_58
      · refine lv_aload_n hx hb zdI_draw_10 rfl (lv_at hl 0 rfl) ?_
        refine va_get (D := g.1) (ci := 1) (v := .ref a0) (C := zRI) (T := zTI) (N := 1) hx hb hts ziI hown hK hP 0 rfl rfl 0 (by decide) (hts _ zlI_9) (fun _ h => h) rfl zdI_draw_11 ?_
        refine lv_iload hx hb zdI_draw_14 (lv_at hl 4 rfl) ?_
        refine lv_lconst (v := 0) hx hb zdI_draw_16 (by decide) ?_
        refine si_last hx hb hK hP hD hS 1 1 rfl rfl (by decide) (by omega) zdI_draw_17 (fun H locs hP hD hS => ?_)
        have hP : va_P g.1 vwCl [(h0, .inr (1, [.ref a0])), (a0, .inl (g.2.2, 23, .inr (.inl (vp_updL f2 k (0 : Int64))))), (h1, .inr (0, [.ref b1, .ref b2, .ref b3, .ref b4, .int (nI t.length)])), (b1, .inl (g.2.1, 61, .inl fc)), (b2, .inl (g.2.1, 61, .inl fo)), (b3, .inl (g.2.1, 61, .inl fn)), (h2, .inr (4, [.ref a2, .ref a3, .int (nI t.length)])), (a2, .inl (g.2.1, 61, .inl fr)), (a3, .inl (g.2.1, 61, .inl fp))] H := hP
        have hD : va_D A [(h0, .inr (1, [.ref a0])), (a0, .inl (g.2.2, 23, .inr (.inl (vp_updL f2 k (0 : Int64))))), (h1, .inr (0, [.ref b1, .ref b2, .ref b3, .ref b4, .int (nI t.length)])), (b1, .inl (g.2.1, 61, .inl fc)), (b2, .inl (g.2.1, 61, .inl fo)), (b3, .inl (g.2.1, 61, .inl fn)), (h2, .inr (4, [.ref a2, .ref a3, .int (nI t.length)])), (a2, .inl (g.2.1, 61, .inl fr)), (a3, .inl (g.2.1, 61, .inl fp))] := hD
        refine lv_iinc (k := 4) (v := nI (k + 1)) (lv' := [(4, .int (nI (k + 1))), (0, .ref h0), (1, .ref h1), (2, .ref h2), (3, .int (nI sr))]) hx hb zdI_draw_18 hl rfl (si_inc _) (Nat.le_of_ble_eq_true rfl) rfl (fun ls hl => ?_)
        refine lv_goto (tgt := 3) hx hb zdI_draw_21 rfl ?_
        exact ih3 (k + 1) (vp_updL f2 k (0 : Int64)) _ _ _ (by omega) (by omega) (fun x hx => by by_cases e9 : x = k <;> first | (subst e9; rw [pk_uLs]; done) | (rw [pk_uLn e9]; exact hZ x (by omega))) (lv_sub hl [1, 2, 3, 4, 0] rfl) (hP.sub [0, 1, 2, 3, 4, 5, 6, 7, 8] rfl) (hD.sub [0, 1, 2, 3, 4, 5, 6, 7, 8] (by decide) rfl) hS
  exact L3 (23 - 0 + 1) 0 f _ _ _ (by omega) (by omega) (fun x hx => absurd hx (Nat.not_lt_zero _)) (lv_sub hl [1, 2, 3, 4, 0] rfl) (hP.sub [0, 1, 2, 3, 4, 5, 6, 7, 8] rfl) (hD.sub [0, 1, 2, 3, 4, 5, 6, 7, 8] (by decide) rfl) hS
end
section
/-! Contracts of the private methods of SelfIndexImage, and of its questions. Written by wip/draft/p20.py -/
theorem si_nm1 {k : Nat} (h : k < 2 ^ 31) : ¬ nI k = -1 := fun z => by
  have h1 := congrArg Int32.toInt z
  rw [nI_toInt h] at h1
  have h2 : (-1 : Int32).toInt = -1 := by decide
  omega
theorem si_or_l {A B : Prop} (h : A ∨ B) (hn : ¬ B) : A := h.elim id (fun b => absurd b hn)
theorem si_or_r {A B : Prop} (h : A ∨ B) (hn : ¬ A) : B := h.elim (fun a => absurd a hn) id
/-- the number of a word -/
def si_isW (k : Int32) : Bool := decide (¬ k < 0 ∧ ¬ nI 23 ≤ k)
/-- a rate -/
def si_isR (x : Int64) : Bool := decide (¬ x < 1 ∧ ¬ 16 < x)
/-- a place of a text of n characters -/
def si_inP (n : Nat) (q : Int32) : Bool := decide (¬ q < 0 ∧ ¬ nI n < q)
theorem si_isW_t {k : Int32} (h : si_isW k = true) : ∃ j, j < 23 ∧ k = nI j := by
  have h := of_decide_eq_true h
  obtain ⟨j, hj, rfl⟩ := nI_of h.1
  refine ⟨j, ?_, rfl⟩
  apply Classical.byContradiction
  intro z
  exact h.2 (nI_le (by omega) hj)
theorem si_isW_n {j : Nat} (h : j < 23) : si_isW (nI j) = true := decide_eq_true ⟨nI_pos (by omega), nI_ge h (by decide)⟩
theorem si_inP_t {n : Nat} {q : Int32} (h : si_inP n q = true) : ∃ j, j ≤ n ∧ q = nI j := by
  have h := of_decide_eq_true h
  obtain ⟨j, hj, rfl⟩ := nI_of h.1
  refine ⟨j, ?_, rfl⟩
  apply Classical.byContradiction
  intro z
  exact h.2 (nI_lt (by omega) hj)
theorem si_isR_t {x : Int64} (h : si_isR x = true) : ∃ k, 1 ≤ k ∧ k ≤ 16 ∧ x = lN k := by
  have h := of_decide_eq_true h
  have h1 : (1 : Int64) = lN 1 := rfl
  have h16 : (16 : Int64) = lN 16 := rfl
  have hp : ¬ x < 0 := fun z => h.1 (by
    rw [Int64.lt_iff_toInt_lt] at z ⊢
    have e0 : (0 : Int64).toInt = 0 := by decide
    have e1 : (1 : Int64).toInt = 1 := by decide
    rw [e0] at z; rw [e1]; omega)
  obtain ⟨k, hk, rfl⟩ := pk_lOf hp
  have a1 := pk_lLT (a := k) (b := 1) hk (by decide)
  have a2 := pk_lLT (a := 16) (b := k) (by decide) hk
  refine ⟨k, ?_, ?_, rfl⟩
  · apply Classical.byContradiction; intro z; exact h.1 (by rw [h1]; exact a1.mpr (by omega))
  · apply Classical.byContradiction; intro z; exact h.2 (by rw [h16]; exact a2.mpr (by omega))
theorem si_isR_n {k : Nat} (h1 : 1 ≤ k) (h2 : k ≤ 16) : si_isR (lN k) = true := by
  have e1 : (1 : Int64) = lN 1 := rfl
  have e16 : (16 : Int64) = lN 16 := rfl
  refine decide_eq_true ⟨fun z => ?_, fun z => ?_⟩
  · rw [e1] at z; have := (pk_lLT (a := k) (b := 1) (by omega) (by decide)).mp z; omega
  · rw [e16] at z; have := (pk_lLT (a := 16) (b := k) (by decide) (by omega)).mp z; omega
theorem si_isRi_t {q : Int32} (h : si_isR q.toInt64 = true) : ∃ k, 1 ≤ k ∧ k ≤ 16 ∧ q = nI k := by
  obtain ⟨k, h1, h2, h3⟩ := si_isR_t h
  refine ⟨k, h1, h2, ?_⟩
  have h4 := congrArg Int64.toInt32 h3
  rw [lN_i] at h4
  rw [← h4]
  simp
/-- what is asked at a place: -1 where there is none -/
def si_q (n : Nat) (q : Int32) (F : Nat → Int32) : Int32 := if si_inP n q = true then F q.toNatClampNeg else -1
theorem si_q_t {n j : Nat} {F : Nat → Int32} (h : si_inP n (nI j) = true) (hj : j < 2 ^ 31) : si_q n (nI j) F = F j := by
  unfold si_q; rw [if_pos h, nI_clamp hj]
theorem si_q_f {n : Nat} {q : Int32} {F : Nat → Int32} (h : si_inP n q = false) : si_q n q F = -1 := if_neg (by rw [h]; decide)
/-- the answer of locate -/
def si_lcR (t a : List Nat) (q v : Int32) : Prop := (q < 0 ∧ v = -1) ∨ ∃ j, j < 2 ^ 31 ∧ q = nI j ∧ si_lc t a j v
theorem si_lcR_one {t a : List Nat} {q v w : Int32} (h1 : si_lcR t a q v) (h2 : si_lcR t a q w) : v = w := by
  rcases h1 with ⟨n1, e1⟩ | ⟨j, hj, rfl, a1⟩ <;> rcases h2 with ⟨n2, e2⟩ | ⟨k, hk, e, a2⟩
  · rw [e1, e2]
  · subst e; exact absurd n1 (nI_pos hk)
  · exact absurd n2 (nI_pos hj)
  · have := (nI_eq hj hk).mp e
    subst this
    exact si_lc_one a1 a2
theorem si_ge0 {q : Int32} (h : 0 ≤ q) : ¬ q < 0 := fun z => by
  rw [Int32.le_iff_toInt_le] at h
  rw [Int32.lt_iff_toInt_lt] at z
  omega
set_option maxHeartbeats 4000000 in
set_option maxRecDepth 100000 in
/-- isWord -/
theorem cX_isWord (l : Launch) (g : si_G) (q : Int32)  : si_Mi (S := Unit) l g vwCl zyX_isWord zwX_isWord ({ frames := 0, cells := 0, slots := 0, locals := 0 } : Room) [.int q] [] (fun r u => r = nI (si_isW q).toNat) (fun u => []) := by
  refine si_Mi.of (cc := zkX_isWord) (maxL := 1) (by decide) rfl (Nat.le_of_ble_eq_true rfl) ?_
  intro p e s m args below meth c A Q ls hF0 hin hK hN hP hD hA hS hl hret
  obtain ⟨hx, hb, hml, hown, hts0⟩ := hF0
  have hts : ∀ w ∈ si_tbl, w.before args s = true := fun w hw => hts0 w (List.mem_cons_of_mem _ hw)
  have hF : CallFix p m c zkX_isWord 1 s args si_tbl zRX := ⟨hx, hb, hml, hown, hts⟩
  have hl : lv_has ls 1 [(0, .int q)] := hl
  refine lv_iload_n hx hb zdX_isWord_0 rfl (lv_at hl 0 rfl) ?_
  refine lv_if_lt (tgt := 14) hx hb zdX_isWord_1 rfl (fun h1 => ?_) (fun h1 => ?_)
  · have hd : si_isW q = false := decide_eq_false (fun z => z.1 h1)
    refine lv_iconst (v := nI 0) hx hb zdX_isWord_14 (by decide) ?_
    exact hret (nI 0) () _ _ _ _ (rfl) (by rw [hd]; rfl) (hP.sub [] rfl) (hD.sub [] (by decide) rfl) hS zdX_isWord_15
  · refine lv_iload_n hx hb zdX_isWord_4 rfl (lv_at hl 0 rfl) ?_
    refine lv_bipush (v := nI 23) hx hb zdX_isWord_5 (by decide) ?_
    refine lv_icmp_ge (tgt := 14) hx hb zdX_isWord_7 rfl (fun h7 => ?_) (fun h7 => ?_)
    · have hd : si_isW q = false := decide_eq_false (fun z => z.2 h7)
      refine lv_iconst (v := nI 0) hx hb zdX_isWord_14 (by decide) ?_
      exact hret (nI 0) () _ _ _ _ (rfl) (by rw [hd]; rfl) (hP.sub [] rfl) (hD.sub [] (by decide) rfl) hS zdX_isWord_15
    · have hd : si_isW q = true := decide_eq_true ⟨h1, h7⟩
      refine lv_iconst (v := nI 1) hx hb zdX_isWord_10 (by decide) ?_
      refine lv_goto (tgt := 15) hx hb zdX_isWord_11 rfl ?_
      exact hret (nI 1) () _ _ _ _ (rfl) (by rw [hd]; rfl) (hP.sub [] rfl) (hD.sub [] (by decide) rfl) hS zdX_isWord_15

set_option maxHeartbeats 4000000 in
set_option maxRecDepth 100000 in
/-- isRate -/
theorem cX_isRate (l : Launch) (g : si_G) (q : Int64)  : si_Mi (S := Unit) l g vwCl zyX_isRate zwX_isRate ({ frames := 0, cells := 0, slots := 0, locals := 0 } : Room) [.long q] [] (fun r u => r = nI (si_isR q).toNat) (fun u => []) := by
  refine si_Mi.of (cc := zkX_isRate) (maxL := 2) (by decide) rfl (Nat.le_of_ble_eq_true rfl) ?_
  intro p e s m args below meth c A Q ls hF0 hin hK hN hP hD hA hS hl hret
  obtain ⟨hx, hb, hml, hown, hts0⟩ := hF0
  have hts : ∀ w ∈ si_tbl, w.before args s = true := fun w hw => hts0 w (List.mem_cons_of_mem _ hw)
  have hF : CallFix p m c zkX_isRate 2 s args si_tbl zRX := ⟨hx, hb, hml, hown, hts⟩
  have hl : lv_has ls 2 [(0, .long q)] := hl
  refine lv_lload_n hx hb zdX_isRate_0 rfl (lv_at hl 0 rfl) ?_
  refine lv_lconst (v := 1) hx hb zdX_isRate_1 (by decide) ?_
  refine W.lcmp hx hb zdX_isRate_2 ?_
  refine lv_if_lt (tgt := 18) hx hb zdX_isRate_3 rfl (fun h3 => ?_) (fun h3 => ?_)
  · have hd : si_isR q = false := decide_eq_false (fun z => z.1 ((si_lcL _ _).mp h3))
    refine lv_iconst (v := nI 0) hx hb zdX_isRate_18 (by decide) ?_
    exact hret (nI 0) () _ _ _ _ (rfl) (by rw [hd]; rfl) (hP.sub [] rfl) (hD.sub [] (by decide) rfl) hS zdX_isRate_19
  · refine lv_lload_n hx hb zdX_isRate_6 rfl (lv_at hl 0 rfl) ?_
    refine lv_ldc2 (v := 16) hx hb hown (hts (.constantLong zRX 123 16) (by decide +kernel)) zdX_isRate_7 ?_
    refine W.lcmp hx hb zdX_isRate_10 ?_
    refine lv_if_gt (tgt := 18) hx hb zdX_isRate_11 rfl (fun h11 => ?_) (fun h11 => ?_)
    · have hd : si_isR q = false := decide_eq_false (fun z => z.2 ((si_lcG _ _).mp h11))
      refine lv_iconst (v := nI 0) hx hb zdX_isRate_18 (by decide) ?_
      exact hret (nI 0) () _ _ _ _ (rfl) (by rw [hd]; rfl) (hP.sub [] rfl) (hD.sub [] (by decide) rfl) hS zdX_isRate_19
    · have hd : si_isR q = true := decide_eq_true ⟨fun z => h3 ((si_lcL _ _).mpr z), fun z => h11 ((si_lcG _ _).mpr z)⟩
      refine lv_iconst (v := nI 1) hx hb zdX_isRate_14 (by decide) ?_
      refine lv_goto (tgt := 19) hx hb zdX_isRate_15 rfl ?_
      exact hret (nI 1) () _ _ _ _ (rfl) (by rw [hd]; rfl) (hP.sub [] rfl) (hD.sub [] (by decide) rfl) hS zdX_isRate_19

set_option maxHeartbeats 4000000 in
set_option maxRecDepth 100000 in
/-- hasLoaded -/
theorem cX_hasLoaded_0 (l : Launch) (g : si_G) (x0 xw xp xd xe xb xl xt : Nat) (lt lz : Nat)  : si_Mi (S := Unit) l g vwCl zyX_hasLoaded zwX_hasLoaded ({ frames := 0, cells := 0, slots := 0, locals := 0 } : Room) [.ref x0] [(x0, .inr (5, [.ref xw, .ref xp, .ref xd, .ref xe, .ref xb, .ref xl, .ref xt])), (xl, .inr (3, [.ref lt, .ref lz, .int (-1)]))] (fun r u => r = nI 0) (fun u => [(x0, .inr (5, [.ref xw, .ref xp, .ref xd, .ref xe, .ref xb, .ref xl, .ref xt])), (xl, .inr (3, [.ref lt, .ref lz, .int (-1)]))]) := by
  refine si_Mi.of (cc := zkX_hasLoaded) (maxL := 1) (by decide) rfl (Nat.le_of_ble_eq_true rfl) ?_
  intro p e s m args below meth c A Q ls hF0 hin hK hN hP hD hA hS hl hret
  obtain ⟨hx, hb, hml, hown, hts0⟩ := hF0
  have hts : ∀ w ∈ si_tbl, w.before args s = true := fun w hw => hts0 w (List.mem_cons_of_mem _ hw)
  have hF : CallFix p m c zkX_hasLoaded 1 s args si_tbl zRX := ⟨hx, hb, hml, hown, hts⟩
  have hl : lv_has ls 1 [(0, .ref x0)] := hl
  refine lv_aload_n hx hb zdX_hasLoaded_0 rfl (lv_at hl 0 rfl) ?_
  refine va_get (D := g.1) (ci := 5) (v := .ref xl) (C := zRX) (T := zTX) (N := 7) hx hb hts ziX hown hK hP 0 rfl rfl 5 (by decide) (hts _ zlX_41) (fun _ h => h) rfl zdX_hasLoaded_1 ?_
  refine va_getN (D := g.1) (ci := 3) (v := .int (-1)) (C := zRR) (T := zTR) (N := 3) hx hb hts ziR hown hK hP 1 rfl rfl 2 (by decide) (va_Nw.use rfl (hN _ zlX_77)) (fun _ h => h) rfl zdX_hasLoaded_4 ?_
  refine lv_iconst (v := -1) hx hb zdX_hasLoaded_7 (by decide) ?_
  refine lv_icmp_eq (tgt := 15) hx hb zdX_hasLoaded_8 rfl (fun h8 => ?_) (fun h8 => ?_)
  · refine lv_iconst (v := nI 0) hx hb zdX_hasLoaded_15 (by decide) ?_
    exact hret (nI 0) () _ _ _ _ (rfl) (rfl) (hP.sub [0, 1] rfl) (hD.sub [0, 1] (by decide) rfl) hS zdX_hasLoaded_16
  · exact absurd rfl h8

set_option maxHeartbeats 4000000 in
set_option maxRecDepth 100000 in
/-- hasLoaded -/
theorem cX_hasLoaded_1 (l : Launch) (g : si_G) (x0 xw xp xd xe xb xl xt : Nat) (lt lz : Nat) (sr : Nat) (hsr : sr < 2 ^ 20) : si_Mi (S := Unit) l g vwCl zyX_hasLoaded zwX_hasLoaded ({ frames := 0, cells := 0, slots := 0, locals := 0 } : Room) [.ref x0] [(x0, .inr (5, [.ref xw, .ref xp, .ref xd, .ref xe, .ref xb, .ref xl, .ref xt])), (xl, .inr (3, [.ref lt, .ref lz, .int (nI sr)]))] (fun r u => r = nI 1) (fun u => [(x0, .inr (5, [.ref xw, .ref xp, .ref xd, .ref xe, .ref xb, .ref xl, .ref xt])), (xl, .inr (3, [.ref lt, .ref lz, .int (nI sr)]))]) := by
  refine si_Mi.of (cc := zkX_hasLoaded) (maxL := 1) (by decide) rfl (Nat.le_of_ble_eq_true rfl) ?_
  intro p e s m args below meth c A Q ls hF0 hin hK hN hP hD hA hS hl hret
  obtain ⟨hx, hb, hml, hown, hts0⟩ := hF0
  have hts : ∀ w ∈ si_tbl, w.before args s = true := fun w hw => hts0 w (List.mem_cons_of_mem _ hw)
  have hF : CallFix p m c zkX_hasLoaded 1 s args si_tbl zRX := ⟨hx, hb, hml, hown, hts⟩
  have hl : lv_has ls 1 [(0, .ref x0)] := hl
  refine lv_aload_n hx hb zdX_hasLoaded_0 rfl (lv_at hl 0 rfl) ?_
  refine va_get (D := g.1) (ci := 5) (v := .ref xl) (C := zRX) (T := zTX) (N := 7) hx hb hts ziX hown hK hP 0 rfl rfl 5 (by decide) (hts _ zlX_41) (fun _ h => h) rfl zdX_hasLoaded_1 ?_
  refine va_getN (D := g.1) (ci := 3) (v := .int (nI sr)) (C := zRR) (T := zTR) (N := 3) hx hb hts ziR hown hK hP 1 rfl rfl 2 (by decide) (va_Nw.use rfl (hN _ zlX_77)) (fun _ h => h) rfl zdX_hasLoaded_4 ?_
  refine lv_iconst (v := -1) hx hb zdX_hasLoaded_7 (by decide) ?_
  refine lv_icmp_eq (tgt := 15) hx hb zdX_hasLoaded_8 rfl (fun h8 => ?_) (fun h8 => ?_)
  · exact absurd h8 (si_nm1 (by omega))
  · refine lv_iconst (v := nI 1) hx hb zdX_hasLoaded_11 (by decide) ?_
    refine lv_goto (tgt := 16) hx hb zdX_hasLoaded_12 rfl ?_
    exact hret (nI 1) () _ _ _ _ (rfl) (rfl) (hP.sub [0, 1] rfl) (hD.sub [0, 1] (by decide) rfl) hS zdX_hasLoaded_16

set_option maxHeartbeats 4000000 in
set_option maxRecDepth 100000 in
/-- isLoadedPlace -/
theorem cX_isLoadedPlace_0 (l : Launch) (g : si_G) (x0 xw xp xd xe xb xl xt : Nat) (lt lz : Nat) (q : Int32)  : si_Mi (S := Unit) l g vwCl zyX_isLoadedPlace zwX_isLoadedPlace ({ frames := 1, cells := 0, slots := 0, locals := 20 } : Room) [.ref x0, .int q] [(x0, .inr (5, [.ref xw, .ref xp, .ref xd, .ref xe, .ref xb, .ref xl, .ref xt])), (xl, .inr (3, [.ref lt, .ref lz, .int (-1)]))] (fun r u => r = nI 0) (fun u => [(x0, .inr (5, [.ref xw, .ref xp, .ref xd, .ref xe, .ref xb, .ref xl, .ref xt])), (xl, .inr (3, [.ref lt, .ref lz, .int (-1)]))]) := by
  refine si_Mi.of (cc := zkX_isLoadedPlace) (maxL := 2) (by decide) rfl (Nat.le_of_ble_eq_true rfl) ?_
  intro p e s m args below meth c A Q ls hF0 hin hK hN hP hD hA hS hl hret
  obtain ⟨hx, hb, hml, hown, hts0⟩ := hF0
  have hts : ∀ w ∈ si_tbl, w.before args s = true := fun w hw => hts0 w (List.mem_cons_of_mem _ hw)
  have hF : CallFix p m c zkX_isLoadedPlace 2 s args si_tbl zRX := ⟨hx, hb, hml, hown, hts⟩
  have hl : lv_has ls 2 [(0, .ref x0), (1, .int q)] := hl
  refine lv_aload_n hx hb zdX_isLoadedPlace_0 rfl (lv_at hl 0 rfl) ?_
  refine (cX_hasLoaded_0 l g x0 xw xp xd xe xb xl xt lt lz).callV (wr := []) (As := []) (rest := []) hF (si_cV 0 hts zcX_hasLoaded zlX_85 zimX_hasLoaded zseX_hasLoaded ziniX zhX_hasLoaded ⟨Nat.le_of_ble_eq_true rfl, Nat.le_of_ble_eq_true rfl⟩) hK hN hP hD hS hA [0, 1] [] rfl rfl (by decide) (by decide) (va_recv (q := (zRX, zTX, 7)) hK hP (ci := 5) (q0 := 0) rfl rfl) rfl hl.1 rfl (Nat.le_of_ble_eq_true rfl) zdX_isLoadedPlace_1 ⟨Nat.le_of_ble_eq_true rfl, Nat.le_of_ble_eq_true rfl⟩ rfl rfl (fun r_ _u H locs hq hP hD hS => ?_)
  subst hq
  have hP : va_P g.1 vwCl [(x0, .inr (5, [.ref xw, .ref xp, .ref xd, .ref xe, .ref xb, .ref xl, .ref xt])), (xl, .inr (3, [.ref lt, .ref lz, .int (-1)]))] H := hP
  have hD : va_D A [(x0, .inr (5, [.ref xw, .ref xp, .ref xd, .ref xe, .ref xb, .ref xl, .ref xt])), (xl, .inr (3, [.ref lt, .ref lz, .int (-1)]))] := hD
  refine si_if_eq (tgt := 29) hx hb zdX_isLoadedPlace_4 rfl (by decide) (fun h4 => ?_) (fun h4 => ?_)
  · refine lv_iconst (v := nI 0) hx hb zdX_isLoadedPlace_29 (by decide) ?_
    exact hret (nI 0) () _ _ _ _ (rfl) (rfl) (hP.sub [0, 1] rfl) (hD.sub [0, 1] (by decide) rfl) hS zdX_isLoadedPlace_30
  · exact absurd rfl h4

set_option maxHeartbeats 4000000 in
set_option maxRecDepth 100000 in
/-- isLoadedPlace -/
theorem cX_isLoadedPlace_1 (l : Launch) (g : si_G) (x0 xw xp xd xe xb xl xt : Nat) (lt lz : Nat) (lta sr : Nat) (t : List Nat) (q : Int32) (hs1 : 1 ≤ sr) (hs2 : sr ≤ 16) (hn : t.length ≤ 60) : si_Mi (S := Unit) l g vwCl zyX_isLoadedPlace zwX_isLoadedPlace ({ frames := 1, cells := 0, slots := 0, locals := 20 } : Room) [.ref x0, .int q] [(x0, .inr (5, [.ref xw, .ref xp, .ref xd, .ref xe, .ref xb, .ref xl, .ref xt])), (xl, .inr (3, [.ref lt, .ref lz, .int (nI sr)])), (lt, .inr (2, [.ref lta, .int (nI t.length)]))] (fun r u => r = nI (si_inP t.length q).toNat) (fun u => [(x0, .inr (5, [.ref xw, .ref xp, .ref xd, .ref xe, .ref xb, .ref xl, .ref xt])), (xl, .inr (3, [.ref lt, .ref lz, .int (nI sr)])), (lt, .inr (2, [.ref lta, .int (nI t.length)]))]) := by
  refine si_Mi.of (cc := zkX_isLoadedPlace) (maxL := 2) (by decide) rfl (Nat.le_of_ble_eq_true rfl) ?_
  intro p e s m args below meth c A Q ls hF0 hin hK hN hP hD hA hS hl hret
  obtain ⟨hx, hb, hml, hown, hts0⟩ := hF0
  have hts : ∀ w ∈ si_tbl, w.before args s = true := fun w hw => hts0 w (List.mem_cons_of_mem _ hw)
  have hF : CallFix p m c zkX_isLoadedPlace 2 s args si_tbl zRX := ⟨hx, hb, hml, hown, hts⟩
  have hl : lv_has ls 2 [(0, .ref x0), (1, .int q)] := hl
  refine lv_aload_n hx hb zdX_isLoadedPlace_0 rfl (lv_at hl 0 rfl) ?_
  refine (cX_hasLoaded_1 l g x0 xw xp xd xe xb xl xt lt lz sr (by omega)).callV (wr := [(lt, .inr (2, [.ref lta, .int (nI t.length)]))]) (As := []) (rest := []) hF (si_cV 0 hts zcX_hasLoaded zlX_85 zimX_hasLoaded zseX_hasLoaded ziniX zhX_hasLoaded ⟨Nat.le_of_ble_eq_true rfl, Nat.le_of_ble_eq_true rfl⟩) hK hN hP hD hS hA [0, 1] [2] rfl rfl (by decide) (by decide) (va_recv (q := (zRX, zTX, 7)) hK hP (ci := 5) (q0 := 0) rfl rfl) rfl hl.1 rfl (Nat.le_of_ble_eq_true rfl) zdX_isLoadedPlace_1 ⟨Nat.le_of_ble_eq_true rfl, Nat.le_of_ble_eq_true rfl⟩ rfl rfl (fun r_ _u H locs hq hP hD hS => ?_)
  subst hq
  have hP : va_P g.1 vwCl [(lt, .inr (2, [.ref lta, .int (nI t.length)])), (x0, .inr (5, [.ref xw, .ref xp, .ref xd, .ref xe, .ref xb, .ref xl, .ref xt])), (xl, .inr (3, [.ref lt, .ref lz, .int (nI sr)]))] H := hP
  have hD : va_D A [(lt, .inr (2, [.ref lta, .int (nI t.length)])), (x0, .inr (5, [.ref xw, .ref xp, .ref xd, .ref xe, .ref xb, .ref xl, .ref xt])), (xl, .inr (3, [.ref lt, .ref lz, .int (nI sr)]))] := hD
  refine si_if_eq (tgt := 29) hx hb zdX_isLoadedPlace_4 rfl (by decide) (fun h4 => ?_) (fun h4 => ?_)
  · exact absurd h4 (by decide)
  · refine lv_iload_n hx hb zdX_isLoadedPlace_7 rfl (lv_at hl 1 rfl) ?_
    refine lv_if_lt (tgt := 29) hx hb zdX_isLoadedPlace_8 rfl (fun h8 => ?_) (fun h8 => ?_)
    · have hd : si_inP t.length q = false := decide_eq_false (fun z => z.1 h8)
      refine lv_iconst (v := nI 0) hx hb zdX_isLoadedPlace_29 (by decide) ?_
      exact hret (nI 0) () _ _ _ _ (rfl) (by rw [hd]; rfl) (hP.sub [1, 2, 0] rfl) (hD.sub [1, 2, 0] (by decide) rfl) hS zdX_isLoadedPlace_30
    · refine lv_iload_n hx hb zdX_isLoadedPlace_11 rfl (lv_at hl 1 rfl) ?_
      refine lv_aload_n hx hb zdX_isLoadedPlace_12 rfl (lv_at hl 0 rfl) ?_
      refine va_get (D := g.1) (ci := 5) (v := .ref xl) (C := zRX) (T := zTX) (N := 7) hx hb hts ziX hown hK hP 1 rfl rfl 5 (by decide) (hts _ zlX_41) (fun _ h => h) rfl zdX_isLoadedPlace_13 ?_
      refine va_getN (D := g.1) (ci := 3) (v := .ref lt) (C := zRR) (T := zTR) (N := 3) hx hb hts ziR hown hK hP 2 rfl rfl 0 (by decide) (va_Nw.use rfl (hN _ zlX_74)) (fun _ h => h) rfl zdX_isLoadedPlace_16 ?_
      refine va_getN (D := g.1) (ci := 2) (v := .int (nI t.length)) (C := zRL) (T := zTL) (N := 2) hx hb hts ziL hown hK hP 0 rfl rfl 1 (by decide) (va_Nw.use rfl (hN _ zlX_88)) (fun _ h => h) rfl zdX_isLoadedPlace_19 ?_
      refine lv_icmp_gt (tgt := 29) hx hb zdX_isLoadedPlace_22 rfl (fun h22 => ?_) (fun h22 => ?_)
      · have hd : si_inP t.length q = false := decide_eq_false (fun z => z.2 h22)
        refine lv_iconst (v := nI 0) hx hb zdX_isLoadedPlace_29 (by decide) ?_
        exact hret (nI 0) () _ _ _ _ (rfl) (by rw [hd]; rfl) (hP.sub [1, 2, 0] rfl) (hD.sub [1, 2, 0] (by decide) rfl) hS zdX_isLoadedPlace_30
      · have hd : si_inP t.length q = true := decide_eq_true ⟨h8, h22⟩
        refine lv_iconst (v := nI 1) hx hb zdX_isLoadedPlace_25 (by decide) ?_
        refine lv_goto (tgt := 30) hx hb zdX_isLoadedPlace_26 rfl ?_
        exact hret (nI 1) () _ _ _ _ (rfl) (by rw [hd]; rfl) (hP.sub [1, 2, 0] rfl) (hD.sub [1, 2, 0] (by decide) rfl) hS zdX_isLoadedPlace_30

set_option maxHeartbeats 4000000 in
set_option maxRecDepth 100000 in
/-- occursAt -/
theorem cX_occursAt (l : Launch) (g : si_G) (x0 xw xp xd xe xb xl xt : Nat) (lt lz : Nat) (lta xpa sr : Nat) (f f1 : Nat → Int32) (t b : List Nat) (k : Nat) (hs1 : 1 ≤ sr) (hs2 : sr ≤ 16) (hok : si_ok t) (hf : si_ln t f) (hb1 : b.length ≤ 20) (hf1 : si_ln b f1) (hval : ∀ z ∈ b, 32 ≤ z ∧ z ≤ 126) (hk : k ≤ t.length) : si_Mi (S := Unit) l g vwCl zyX_occursAt zwX_occursAt ({ frames := 2, cells := 0, slots := 0, locals := 44 } : Room) [.ref x0, .int (nI k)] [(x0, .inr (5, [.ref xw, .ref xp, .ref xd, .ref xe, .ref xb, .ref xl, .ref xt])), (xl, .inr (3, [.ref lt, .ref lz, .int (nI sr)])), (lt, .inr (2, [.ref lta, .int (nI t.length)])), (lta, .inl (g.2.1, 60, .inl f)), (xp, .inr (2, [.ref xpa, .int (nI b.length)])), (xpa, .inl (g.2.1, 20, .inl f1))] (fun r u => r = nI (si_oc t b k).toNat) (fun u => [(x0, .inr (5, [.ref xw, .ref xp, .ref xd, .ref xe, .ref xb, .ref xl, .ref xt])), (xl, .inr (3, [.ref lt, .ref lz, .int (nI sr)])), (lt, .inr (2, [.ref lta, .int (nI t.length)])), (lta, .inl (g.2.1, 60, .inl f)), (xp, .inr (2, [.ref xpa, .int (nI b.length)])), (xpa, .inl (g.2.1, 20, .inl f1))]) := by
  refine si_Mi.of (cc := zkX_occursAt) (maxL := 2) (by decide) rfl (Nat.le_of_ble_eq_true rfl) ?_
  intro p e s m args below meth c A Q ls hF0 hin hK hN hP hD hA hS hl hret
  obtain ⟨hx, hb, hml, hown, hts0⟩ := hF0
  have hts : ∀ w ∈ si_tbl, w.before args s = true := fun w hw => hts0 w (List.mem_cons_of_mem _ hw)
  have hF : CallFix p m c zkX_occursAt 2 s args si_tbl zRX := ⟨hx, hb, hml, hown, hts⟩
  have hl : lv_has ls 2 [(0, .ref x0), (1, .int (nI k))] := hl
  have hn := hok.1
  refine lv_aload_n hx hb zdX_occursAt_0 rfl (lv_at hl 0 rfl) ?_
  refine va_get (D := g.1) (ci := 5) (v := .ref xl) (C := zRX) (T := zTX) (N := 7) hx hb hts ziX hown hK hP 0 rfl rfl 5 (by decide) (hts _ zlX_41) (fun _ h => h) rfl zdX_occursAt_1 ?_
  refine va_getN (D := g.1) (ci := 3) (v := .ref lt) (C := zRR) (T := zTR) (N := 3) hx hb hts ziR hown hK hP 1 rfl rfl 0 (by decide) (va_Nw.use rfl (hN _ zlX_74)) (fun _ h => h) rfl zdX_occursAt_4 ?_
  refine lv_aload_n hx hb zdX_occursAt_7 rfl (lv_at hl 0 rfl) ?_
  refine va_get (D := g.1) (ci := 5) (v := .ref xp) (C := zRX) (T := zTX) (N := 7) hx hb hts ziX hown hK hP 0 rfl rfl 1 (by decide) (hts _ zlX_18) (fun _ h => h) rfl zdX_occursAt_8 ?_
  refine lv_iload_n hx hb zdX_occursAt_11 rfl (lv_at hl 1 rfl) ?_
  refine (cL_hasAt l g lt lta 60 xp xpa 20 f f1 t b k (by decide) (by decide) hn hb1 hf hf1 hval hok.2 hk).callV (wr := [(x0, .inr (5, [.ref xw, .ref xp, .ref xd, .ref xe, .ref xb, .ref xl, .ref xt])), (xl, .inr (3, [.ref lt, .ref lz, .int (nI sr)]))]) (As := [.ref xp, .int (nI k)]) (rest := []) hF (si_cV 2 hts zcL_hasAt zlX_125 zimL_hasAt zseL_hasAt ziniL zhL_hasAt ⟨Nat.le_of_ble_eq_true rfl, Nat.le_of_ble_eq_true rfl⟩) hK hN hP hD hS hA [2, 3, 4, 5] [0, 1] rfl rfl (by decide) (by decide) (va_recv (q := (zRL, zTL, 2)) hK hP (ci := 2) (q0 := 2) rfl rfl) rfl hl.1 rfl (Nat.le_of_ble_eq_true rfl) zdX_occursAt_12 ⟨Nat.le_of_ble_eq_true rfl, Nat.le_of_ble_eq_true rfl⟩ rfl rfl (fun r_ _u H locs hq hP hD hS => ?_)
  subst hq
  have hP : va_P g.1 vwCl [(x0, .inr (5, [.ref xw, .ref xp, .ref xd, .ref xe, .ref xb, .ref xl, .ref xt])), (xl, .inr (3, [.ref lt, .ref lz, .int (nI sr)])), (lt, .inr (2, [.ref lta, .int (nI t.length)])), (lta, .inl (g.2.1, 60, .inl f)), (xp, .inr (2, [.ref xpa, .int (nI b.length)])), (xpa, .inl (g.2.1, 20, .inl f1))] H := hP
  have hD : va_D A [(x0, .inr (5, [.ref xw, .ref xp, .ref xd, .ref xe, .ref xb, .ref xl, .ref xt])), (xl, .inr (3, [.ref lt, .ref lz, .int (nI sr)])), (lt, .inr (2, [.ref lta, .int (nI t.length)])), (lta, .inl (g.2.1, 60, .inl f)), (xp, .inr (2, [.ref xpa, .int (nI b.length)])), (xpa, .inl (g.2.1, 20, .inl f1))] := hD
  exact hret (nI ((si_oc t b k).toNat)) () _ _ _ _ (si_nb _) (rfl) (hP.sub [0, 1, 2, 3, 4, 5] rfl) (hD.sub [0, 1, 2, 3, 4, 5] (by decide) rfl) hS zdX_occursAt_15

set_option maxHeartbeats 4000000 in
set_option maxRecDepth 100000 in
theorem cX_length_0 (l : Launch) (g : si_G) (x0 xw xp xd xe xb xl xt : Nat) (lt lz : Nat)  : si_Mi (S := Unit) l g vwCl zyX_length zwX_length ({ frames := 1, cells := 0, slots := 0, locals := 20 } : Room) [.ref x0] [(x0, .inr (5, [.ref xw, .ref xp, .ref xd, .ref xe, .ref xb, .ref xl, .ref xt])), (xl, .inr (3, [.ref lt, .ref lz, .int (-1)]))] (fun r u => r = -1) (fun u => [(x0, .inr (5, [.ref xw, .ref xp, .ref xd, .ref xe, .ref xb, .ref xl, .ref xt])), (xl, .inr (3, [.ref lt, .ref lz, .int (-1)]))]) := by
  refine si_Mi.of (cc := zkX_length) (maxL := 1) (by decide) rfl (Nat.le_of_ble_eq_true rfl) ?_
  intro p e s m args below meth c A Q ls hF0 hin hK hN hP hD hA hS hl hret
  obtain ⟨hx, hb, hml, hown, hts0⟩ := hF0
  have hts : ∀ w ∈ si_tbl, w.before args s = true := fun w hw => hts0 w (List.mem_cons_of_mem _ hw)
  have hF : CallFix p m c zkX_length 1 s args si_tbl zRX := ⟨hx, hb, hml, hown, hts⟩
  have hl : lv_has ls 1 [(0, .ref x0)] := hl
  refine lv_aload_n hx hb zdX_length_0 rfl (lv_at hl 0 rfl) ?_
  refine (cX_hasLoaded_0 l g x0 xw xp xd xe xb xl xt lt lz).callV (wr := []) (As := []) (rest := []) hF (si_cV 0 hts zcX_hasLoaded zlX_85 zimX_hasLoaded zseX_hasLoaded ziniX zhX_hasLoaded ⟨Nat.le_of_ble_eq_true rfl, Nat.le_of_ble_eq_true rfl⟩) hK hN hP hD hS hA [0, 1] [] rfl rfl (by decide) (by decide) (va_recv (q := (zRX, zTX, 7)) hK hP (ci := 5) (q0 := 0) rfl rfl) rfl hl.1 rfl (Nat.le_of_ble_eq_true rfl) zdX_length_1 ⟨Nat.le_of_ble_eq_true rfl, Nat.le_of_ble_eq_true rfl⟩ rfl rfl (fun r_ _u H locs hq hP hD hS => ?_)
  subst hq
  have hP : va_P g.1 vwCl [(x0, .inr (5, [.ref xw, .ref xp, .ref xd, .ref xe, .ref xb, .ref xl, .ref xt])), (xl, .inr (3, [.ref lt, .ref lz, .int (-1)]))] H := hP
  have hD : va_D A [(x0, .inr (5, [.ref xw, .ref xp, .ref xd, .ref xe, .ref xb, .ref xl, .ref xt])), (xl, .inr (3, [.ref lt, .ref lz, .int (-1)]))] := hD
  refine si_if_eq (tgt := 20) hx hb zdX_length_4 rfl (by decide) (fun h4 => ?_) (fun h4 => ?_)
  · refine lv_iconst (v := -1) hx hb zdX_length_20 (by decide) ?_
    exact hret (-1) () _ _ _ _ (rfl) (rfl) (hP.sub [0, 1] rfl) (hD.sub [0, 1] (by decide) rfl) hS zdX_length_21
  · exact absurd rfl h4

set_option maxHeartbeats 4000000 in
set_option maxRecDepth 100000 in
theorem cX_rate_0 (l : Launch) (g : si_G) (x0 xw xp xd xe xb xl xt : Nat) (lt lz : Nat)  : si_Mi (S := Unit) l g vwCl zyX_rate zwX_rate ({ frames := 1, cells := 0, slots := 0, locals := 20 } : Room) [.ref x0] [(x0, .inr (5, [.ref xw, .ref xp, .ref xd, .ref xe, .ref xb, .ref xl, .ref xt])), (xl, .inr (3, [.ref lt, .ref lz, .int (-1)]))] (fun r u => r = -1) (fun u => [(x0, .inr (5, [.ref xw, .ref xp, .ref xd, .ref xe, .ref xb, .ref xl, .ref xt])), (xl, .inr (3, [.ref lt, .ref lz, .int (-1)]))]) := by
  refine si_Mi.of (cc := zkX_rate) (maxL := 1) (by decide) rfl (Nat.le_of_ble_eq_true rfl) ?_
  intro p e s m args below meth c A Q ls hF0 hin hK hN hP hD hA hS hl hret
  obtain ⟨hx, hb, hml, hown, hts0⟩ := hF0
  have hts : ∀ w ∈ si_tbl, w.before args s = true := fun w hw => hts0 w (List.mem_cons_of_mem _ hw)
  have hF : CallFix p m c zkX_rate 1 s args si_tbl zRX := ⟨hx, hb, hml, hown, hts⟩
  have hl : lv_has ls 1 [(0, .ref x0)] := hl
  refine lv_aload_n hx hb zdX_rate_0 rfl (lv_at hl 0 rfl) ?_
  refine (cX_hasLoaded_0 l g x0 xw xp xd xe xb xl xt lt lz).callV (wr := []) (As := []) (rest := []) hF (si_cV 0 hts zcX_hasLoaded zlX_85 zimX_hasLoaded zseX_hasLoaded ziniX zhX_hasLoaded ⟨Nat.le_of_ble_eq_true rfl, Nat.le_of_ble_eq_true rfl⟩) hK hN hP hD hS hA [0, 1] [] rfl rfl (by decide) (by decide) (va_recv (q := (zRX, zTX, 7)) hK hP (ci := 5) (q0 := 0) rfl rfl) rfl hl.1 rfl (Nat.le_of_ble_eq_true rfl) zdX_rate_1 ⟨Nat.le_of_ble_eq_true rfl, Nat.le_of_ble_eq_true rfl⟩ rfl rfl (fun r_ _u H locs hq hP hD hS => ?_)
  subst hq
  have hP : va_P g.1 vwCl [(x0, .inr (5, [.ref xw, .ref xp, .ref xd, .ref xe, .ref xb, .ref xl, .ref xt])), (xl, .inr (3, [.ref lt, .ref lz, .int (-1)]))] H := hP
  have hD : va_D A [(x0, .inr (5, [.ref xw, .ref xp, .ref xd, .ref xe, .ref xb, .ref xl, .ref xt])), (xl, .inr (3, [.ref lt, .ref lz, .int (-1)]))] := hD
  refine si_if_eq (tgt := 17) hx hb zdX_rate_4 rfl (by decide) (fun h4 => ?_) (fun h4 => ?_)
  · refine lv_iconst (v := -1) hx hb zdX_rate_17 (by decide) ?_
    exact hret (-1) () _ _ _ _ (rfl) (rfl) (hP.sub [0, 1] rfl) (hD.sub [0, 1] (by decide) rfl) hS zdX_rate_18
  · exact absurd rfl h4

set_option maxHeartbeats 4000000 in
set_option maxRecDepth 100000 in
theorem cX_charAt_0 (l : Launch) (g : si_G) (x0 xw xp xd xe xb xl xt : Nat) (lt lz : Nat) (q : Int32)  : si_Mi (S := Unit) l g vwCl zyX_charAt zwX_charAt ({ frames := 2, cells := 0, slots := 0, locals := 41 } : Room) [.ref x0, .int q] [(x0, .inr (5, [.ref xw, .ref xp, .ref xd, .ref xe, .ref xb, .ref xl, .ref xt])), (xl, .inr (3, [.ref lt, .ref lz, .int (-1)]))] (fun r u => r = -1) (fun u => [(x0, .inr (5, [.ref xw, .ref xp, .ref xd, .ref xe, .ref xb, .ref xl, .ref xt])), (xl, .inr (3, [.ref lt, .ref lz, .int (-1)]))]) := by
  refine si_Mi.of (cc := zkX_charAt) (maxL := 2) (by decide) rfl (Nat.le_of_ble_eq_true rfl) ?_
  intro p e s m args below meth c A Q ls hF0 hin hK hN hP hD hA hS hl hret
  obtain ⟨hx, hb, hml, hown, hts0⟩ := hF0
  have hts : ∀ w ∈ si_tbl, w.before args s = true := fun w hw => hts0 w (List.mem_cons_of_mem _ hw)
  have hF : CallFix p m c zkX_charAt 2 s args si_tbl zRX := ⟨hx, hb, hml, hown, hts⟩
  have hl : lv_has ls 2 [(0, .ref x0), (1, .int q)] := hl
  refine lv_aload_n hx hb zdX_charAt_0 rfl (lv_at hl 0 rfl) ?_
  refine lv_iload_n hx hb zdX_charAt_1 rfl (lv_at hl 1 rfl) ?_
  refine (cX_isLoadedPlace_0 l g x0 xw xp xd xe xb xl xt lt lz q).callV (wr := []) (As := [.int q]) (rest := []) hF (si_cV 1 hts zcX_isLoadedPlace zlX_91 zimX_isLoadedPlace zseX_isLoadedPlace ziniX zhX_isLoadedPlace ⟨Nat.le_of_ble_eq_true rfl, Nat.le_of_ble_eq_true rfl⟩) hK hN hP hD hS hA [0, 1] [] rfl rfl (by decide) (by decide) (va_recv (q := (zRX, zTX, 7)) hK hP (ci := 5) (q0 := 0) rfl rfl) rfl hl.1 rfl (Nat.le_of_ble_eq_true rfl) zdX_charAt_2 ⟨Nat.le_of_ble_eq_true rfl, Nat.le_of_ble_eq_true rfl⟩ rfl rfl (fun r_ _u H locs hq hP hD hS => ?_)
  subst hq
  have hP : va_P g.1 vwCl [(x0, .inr (5, [.ref xw, .ref xp, .ref xd, .ref xe, .ref xb, .ref xl, .ref xt])), (xl, .inr (3, [.ref lt, .ref lz, .int (-1)]))] H := hP
  have hD : va_D A [(x0, .inr (5, [.ref xw, .ref xp, .ref xd, .ref xe, .ref xb, .ref xl, .ref xt])), (xl, .inr (3, [.ref lt, .ref lz, .int (-1)]))] := hD
  refine si_if_eq (tgt := 22) hx hb zdX_charAt_5 rfl (by decide) (fun h5 => ?_) (fun h5 => ?_)
  · refine lv_iconst (v := -1) hx hb zdX_charAt_22 (by decide) ?_
    exact hret (-1) () _ _ _ _ (rfl) (rfl) (hP.sub [0, 1] rfl) (hD.sub [0, 1] (by decide) rfl) hS zdX_charAt_23
  · exact absurd rfl h5

set_option maxHeartbeats 4000000 in
set_option maxRecDepth 100000 in
theorem cX_rowOf_0 (l : Launch) (g : si_G) (x0 xw xp xd xe xb xl xt : Nat) (lt lz : Nat) (q : Int32)  : si_Mi (S := Unit) l g vwCl zyX_rowOf zwX_rowOf ({ frames := 2, cells := 0, slots := 0, locals := 41 } : Room) [.ref x0, .int q] [(x0, .inr (5, [.ref xw, .ref xp, .ref xd, .ref xe, .ref xb, .ref xl, .ref xt])), (xl, .inr (3, [.ref lt, .ref lz, .int (-1)]))] (fun r u => r = -1) (fun u => [(x0, .inr (5, [.ref xw, .ref xp, .ref xd, .ref xe, .ref xb, .ref xl, .ref xt])), (xl, .inr (3, [.ref lt, .ref lz, .int (-1)]))]) := by
  refine si_Mi.of (cc := zkX_rowOf) (maxL := 2) (by decide) rfl (Nat.le_of_ble_eq_true rfl) ?_
  intro p e s m args below meth c A Q ls hF0 hin hK hN hP hD hA hS hl hret
  obtain ⟨hx, hb, hml, hown, hts0⟩ := hF0
  have hts : ∀ w ∈ si_tbl, w.before args s = true := fun w hw => hts0 w (List.mem_cons_of_mem _ hw)
  have hF : CallFix p m c zkX_rowOf 2 s args si_tbl zRX := ⟨hx, hb, hml, hown, hts⟩
  have hl : lv_has ls 2 [(0, .ref x0), (1, .int q)] := hl
  refine lv_aload_n hx hb zdX_rowOf_0 rfl (lv_at hl 0 rfl) ?_
  refine lv_iload_n hx hb zdX_rowOf_1 rfl (lv_at hl 1 rfl) ?_
  refine (cX_isLoadedPlace_0 l g x0 xw xp xd xe xb xl xt lt lz q).callV (wr := []) (As := [.int q]) (rest := []) hF (si_cV 1 hts zcX_isLoadedPlace zlX_91 zimX_isLoadedPlace zseX_isLoadedPlace ziniX zhX_isLoadedPlace ⟨Nat.le_of_ble_eq_true rfl, Nat.le_of_ble_eq_true rfl⟩) hK hN hP hD hS hA [0, 1] [] rfl rfl (by decide) (by decide) (va_recv (q := (zRX, zTX, 7)) hK hP (ci := 5) (q0 := 0) rfl rfl) rfl hl.1 rfl (Nat.le_of_ble_eq_true rfl) zdX_rowOf_2 ⟨Nat.le_of_ble_eq_true rfl, Nat.le_of_ble_eq_true rfl⟩ rfl rfl (fun r_ _u H locs hq hP hD hS => ?_)
  subst hq
  have hP : va_P g.1 vwCl [(x0, .inr (5, [.ref xw, .ref xp, .ref xd, .ref xe, .ref xb, .ref xl, .ref xt])), (xl, .inr (3, [.ref lt, .ref lz, .int (-1)]))] H := hP
  have hD : va_D A [(x0, .inr (5, [.ref xw, .ref xp, .ref xd, .ref xe, .ref xb, .ref xl, .ref xt])), (xl, .inr (3, [.ref lt, .ref lz, .int (-1)]))] := hD
  refine si_if_eq (tgt := 23) hx hb zdX_rowOf_5 rfl (by decide) (fun h5 => ?_) (fun h5 => ?_)
  · refine lv_iconst (v := -1) hx hb zdX_rowOf_23 (by decide) ?_
    exact hret (-1) () _ _ _ _ (rfl) (rfl) (hP.sub [0, 1] rfl) (hD.sub [0, 1] (by decide) rfl) hS zdX_rowOf_24
  · exact absurd rfl h5

set_option maxHeartbeats 4000000 in
set_option maxRecDepth 100000 in
theorem cX_placeOf_0 (l : Launch) (g : si_G) (x0 xw xp xd xe xb xl xt : Nat) (lt lz : Nat) (q : Int32)  : si_Mi (S := Unit) l g vwCl zyX_placeOf zwX_placeOf ({ frames := 2, cells := 0, slots := 0, locals := 41 } : Room) [.ref x0, .int q] [(x0, .inr (5, [.ref xw, .ref xp, .ref xd, .ref xe, .ref xb, .ref xl, .ref xt])), (xl, .inr (3, [.ref lt, .ref lz, .int (-1)]))] (fun r u => r = -1) (fun u => [(x0, .inr (5, [.ref xw, .ref xp, .ref xd, .ref xe, .ref xb, .ref xl, .ref xt])), (xl, .inr (3, [.ref lt, .ref lz, .int (-1)]))]) := by
  refine si_Mi.of (cc := zkX_placeOf) (maxL := 2) (by decide) rfl (Nat.le_of_ble_eq_true rfl) ?_
  intro p e s m args below meth c A Q ls hF0 hin hK hN hP hD hA hS hl hret
  obtain ⟨hx, hb, hml, hown, hts0⟩ := hF0
  have hts : ∀ w ∈ si_tbl, w.before args s = true := fun w hw => hts0 w (List.mem_cons_of_mem _ hw)
  have hF : CallFix p m c zkX_placeOf 2 s args si_tbl zRX := ⟨hx, hb, hml, hown, hts⟩
  have hl : lv_has ls 2 [(0, .ref x0), (1, .int q)] := hl
  refine lv_aload_n hx hb zdX_placeOf_0 rfl (lv_at hl 0 rfl) ?_
  refine lv_iload_n hx hb zdX_placeOf_1 rfl (lv_at hl 1 rfl) ?_
  refine (cX_isLoadedPlace_0 l g x0 xw xp xd xe xb xl xt lt lz q).callV (wr := []) (As := [.int q]) (rest := []) hF (si_cV 1 hts zcX_isLoadedPlace zlX_91 zimX_isLoadedPlace zseX_isLoadedPlace ziniX zhX_isLoadedPlace ⟨Nat.le_of_ble_eq_true rfl, Nat.le_of_ble_eq_true rfl⟩) hK hN hP hD hS hA [0, 1] [] rfl rfl (by decide) (by decide) (va_recv (q := (zRX, zTX, 7)) hK hP (ci := 5) (q0 := 0) rfl rfl) rfl hl.1 rfl (Nat.le_of_ble_eq_true rfl) zdX_placeOf_2 ⟨Nat.le_of_ble_eq_true rfl, Nat.le_of_ble_eq_true rfl⟩ rfl rfl (fun r_ _u H locs hq hP hD hS => ?_)
  subst hq
  have hP : va_P g.1 vwCl [(x0, .inr (5, [.ref xw, .ref xp, .ref xd, .ref xe, .ref xb, .ref xl, .ref xt])), (xl, .inr (3, [.ref lt, .ref lz, .int (-1)]))] H := hP
  have hD : va_D A [(x0, .inr (5, [.ref xw, .ref xp, .ref xd, .ref xe, .ref xb, .ref xl, .ref xt])), (xl, .inr (3, [.ref lt, .ref lz, .int (-1)]))] := hD
  refine si_if_eq (tgt := 23) hx hb zdX_placeOf_5 rfl (by decide) (fun h5 => ?_) (fun h5 => ?_)
  · refine lv_iconst (v := -1) hx hb zdX_placeOf_23 (by decide) ?_
    exact hret (-1) () _ _ _ _ (rfl) (rfl) (hP.sub [0, 1] rfl) (hD.sub [0, 1] (by decide) rfl) hS zdX_placeOf_24
  · exact absurd rfl h5

set_option maxHeartbeats 4000000 in
set_option maxRecDepth 100000 in
theorem cX_count_0 (l : Launch) (g : si_G) (x0 xw xp xd xe xb xl xt : Nat) (lt lz : Nat)  : si_Mi (S := Unit) l g vwCl zyX_count zwX_count ({ frames := 3, cells := 0, slots := 0, locals := 65 } : Room) [.ref x0] [(x0, .inr (5, [.ref xw, .ref xp, .ref xd, .ref xe, .ref xb, .ref xl, .ref xt])), (xl, .inr (3, [.ref lt, .ref lz, .int (-1)]))] (fun r u => r = -1) (fun u => [(x0, .inr (5, [.ref xw, .ref xp, .ref xd, .ref xe, .ref xb, .ref xl, .ref xt])), (xl, .inr (3, [.ref lt, .ref lz, .int (-1)]))]) := by
  refine si_Mi.of (cc := zkX_count) (maxL := 3) (by decide) rfl (Nat.le_of_ble_eq_true rfl) ?_
  intro p e s m args below meth c A Q ls hF0 hin hK hN hP hD hA hS hl hret
  obtain ⟨hx, hb, hml, hown, hts0⟩ := hF0
  have hts : ∀ w ∈ si_tbl, w.before args s = true := fun w hw => hts0 w (List.mem_cons_of_mem _ hw)
  have hF : CallFix p m c zkX_count 3 s args si_tbl zRX := ⟨hx, hb, hml, hown, hts⟩
  have hl : lv_has ls 3 [(0, .ref x0)] := hl
  refine lv_aload_n hx hb zdX_count_0 rfl (lv_at hl 0 rfl) ?_
  refine (cX_hasLoaded_0 l g x0 xw xp xd xe xb xl xt lt lz).callV (wr := []) (As := []) (rest := []) hF (si_cV 0 hts zcX_hasLoaded zlX_85 zimX_hasLoaded zseX_hasLoaded ziniX zhX_hasLoaded ⟨Nat.le_of_ble_eq_true rfl, Nat.le_of_ble_eq_true rfl⟩) hK hN hP hD hS hA [0, 1] [] rfl rfl (by decide) (by decide) (va_recv (q := (zRX, zTX, 7)) hK hP (ci := 5) (q0 := 0) rfl rfl) rfl hl.1 rfl (Nat.le_of_ble_eq_true rfl) zdX_count_1 ⟨Nat.le_of_ble_eq_true rfl, Nat.le_of_ble_eq_true rfl⟩ rfl rfl (fun r_ _u H locs hq hP hD hS => ?_)
  subst hq
  have hP : va_P g.1 vwCl [(x0, .inr (5, [.ref xw, .ref xp, .ref xd, .ref xe, .ref xb, .ref xl, .ref xt])), (xl, .inr (3, [.ref lt, .ref lz, .int (-1)]))] H := hP
  have hD : va_D A [(x0, .inr (5, [.ref xw, .ref xp, .ref xd, .ref xe, .ref xb, .ref xl, .ref xt])), (xl, .inr (3, [.ref lt, .ref lz, .int (-1)]))] := hD
  refine si_if_ne (tgt := 9) hx hb zdX_count_4 rfl (by decide) (fun h4 => ?_) (fun h4 => ?_)
  · exact absurd rfl h4
  · refine lv_iconst (v := -1) hx hb zdX_count_7 (by decide) ?_
    exact hret (-1) () _ _ _ _ (rfl) (rfl) (hP.sub [0, 1] rfl) (hD.sub [0, 1] (by decide) rfl) hS zdX_count_8

set_option maxHeartbeats 4000000 in
set_option maxRecDepth 100000 in
theorem cX_firstRow_0 (l : Launch) (g : si_G) (x0 xw xp xd xe xb xl xt : Nat) (lt lz : Nat)  : si_Mi (S := Unit) l g vwCl zyX_firstRow zwX_firstRow ({ frames := 3, cells := 0, slots := 0, locals := 65 } : Room) [.ref x0] [(x0, .inr (5, [.ref xw, .ref xp, .ref xd, .ref xe, .ref xb, .ref xl, .ref xt])), (xl, .inr (3, [.ref lt, .ref lz, .int (-1)]))] (fun r u => r = -1) (fun u => [(x0, .inr (5, [.ref xw, .ref xp, .ref xd, .ref xe, .ref xb, .ref xl, .ref xt])), (xl, .inr (3, [.ref lt, .ref lz, .int (-1)]))]) := by
  refine si_Mi.of (cc := zkX_firstRow) (maxL := 2) (by decide) rfl (Nat.le_of_ble_eq_true rfl) ?_
  intro p e s m args below meth c A Q ls hF0 hin hK hN hP hD hA hS hl hret
  obtain ⟨hx, hb, hml, hown, hts0⟩ := hF0
  have hts : ∀ w ∈ si_tbl, w.before args s = true := fun w hw => hts0 w (List.mem_cons_of_mem _ hw)
  have hF : CallFix p m c zkX_firstRow 2 s args si_tbl zRX := ⟨hx, hb, hml, hown, hts⟩
  have hl : lv_has ls 2 [(0, .ref x0)] := hl
  refine lv_aload_n hx hb zdX_firstRow_0 rfl (lv_at hl 0 rfl) ?_
  refine (cX_hasLoaded_0 l g x0 xw xp xd xe xb xl xt lt lz).callV (wr := []) (As := []) (rest := []) hF (si_cV 0 hts zcX_hasLoaded zlX_85 zimX_hasLoaded zseX_hasLoaded ziniX zhX_hasLoaded ⟨Nat.le_of_ble_eq_true rfl, Nat.le_of_ble_eq_true rfl⟩) hK hN hP hD hS hA [0, 1] [] rfl rfl (by decide) (by decide) (va_recv (q := (zRX, zTX, 7)) hK hP (ci := 5) (q0 := 0) rfl rfl) rfl hl.1 rfl (Nat.le_of_ble_eq_true rfl) zdX_firstRow_1 ⟨Nat.le_of_ble_eq_true rfl, Nat.le_of_ble_eq_true rfl⟩ rfl rfl (fun r_ _u H locs hq hP hD hS => ?_)
  subst hq
  have hP : va_P g.1 vwCl [(x0, .inr (5, [.ref xw, .ref xp, .ref xd, .ref xe, .ref xb, .ref xl, .ref xt])), (xl, .inr (3, [.ref lt, .ref lz, .int (-1)]))] H := hP
  have hD : va_D A [(x0, .inr (5, [.ref xw, .ref xp, .ref xd, .ref xe, .ref xb, .ref xl, .ref xt])), (xl, .inr (3, [.ref lt, .ref lz, .int (-1)]))] := hD
  refine si_if_ne (tgt := 9) hx hb zdX_firstRow_4 rfl (by decide) (fun h4 => ?_) (fun h4 => ?_)
  · exact absurd rfl h4
  · refine lv_iconst (v := -1) hx hb zdX_firstRow_7 (by decide) ?_
    exact hret (-1) () _ _ _ _ (rfl) (rfl) (hP.sub [0, 1] rfl) (hD.sub [0, 1] (by decide) rfl) hS zdX_firstRow_8

set_option maxHeartbeats 4000000 in
set_option maxRecDepth 100000 in
theorem cX_locate_0 (l : Launch) (g : si_G) (x0 xw xp xd xe xb xl xt : Nat) (lt lz : Nat) (q : Int32)  : si_Mi (S := Unit) l g vwCl zyX_locate zwX_locate ({ frames := 3, cells := 0, slots := 0, locals := 65 } : Room) [.ref x0, .int q] [(x0, .inr (5, [.ref xw, .ref xp, .ref xd, .ref xe, .ref xb, .ref xl, .ref xt])), (xl, .inr (3, [.ref lt, .ref lz, .int (-1)]))] (fun r u => r = -1) (fun u => [(x0, .inr (5, [.ref xw, .ref xp, .ref xd, .ref xe, .ref xb, .ref xl, .ref xt])), (xl, .inr (3, [.ref lt, .ref lz, .int (-1)]))]) := by
  refine si_Mi.of (cc := zkX_locate) (maxL := 4) (by decide) rfl (Nat.le_of_ble_eq_true rfl) ?_
  intro p e s m args below meth c A Q ls hF0 hin hK hN hP hD hA hS hl hret
  obtain ⟨hx, hb, hml, hown, hts0⟩ := hF0
  have hts : ∀ w ∈ si_tbl, w.before args s = true := fun w hw => hts0 w (List.mem_cons_of_mem _ hw)
  have hF : CallFix p m c zkX_locate 4 s args si_tbl zRX := ⟨hx, hb, hml, hown, hts⟩
  have hl : lv_has ls 4 [(0, .ref x0), (1, .int q)] := hl
  refine lv_aload_n hx hb zdX_locate_0 rfl (lv_at hl 0 rfl) ?_
  refine (cX_hasLoaded_0 l g x0 xw xp xd xe xb xl xt lt lz).callV (wr := []) (As := []) (rest := []) hF (si_cV 0 hts zcX_hasLoaded zlX_85 zimX_hasLoaded zseX_hasLoaded ziniX zhX_hasLoaded ⟨Nat.le_of_ble_eq_true rfl, Nat.le_of_ble_eq_true rfl⟩) hK hN hP hD hS hA [0, 1] [] rfl rfl (by decide) (by decide) (va_recv (q := (zRX, zTX, 7)) hK hP (ci := 5) (q0 := 0) rfl rfl) rfl hl.1 rfl (Nat.le_of_ble_eq_true rfl) zdX_locate_1 ⟨Nat.le_of_ble_eq_true rfl, Nat.le_of_ble_eq_true rfl⟩ rfl rfl (fun r_ _u H locs hq hP hD hS => ?_)
  subst hq
  have hP : va_P g.1 vwCl [(x0, .inr (5, [.ref xw, .ref xp, .ref xd, .ref xe, .ref xb, .ref xl, .ref xt])), (xl, .inr (3, [.ref lt, .ref lz, .int (-1)]))] H := hP
  have hD : va_D A [(x0, .inr (5, [.ref xw, .ref xp, .ref xd, .ref xe, .ref xb, .ref xl, .ref xt])), (xl, .inr (3, [.ref lt, .ref lz, .int (-1)]))] := hD
  refine si_if_eq (tgt := 11) hx hb zdX_locate_4 rfl (by decide) (fun h4 => ?_) (fun h4 => ?_)
  · refine lv_iconst (v := -1) hx hb zdX_locate_11 (by decide) ?_
    exact hret (-1) () _ _ _ _ (rfl) (rfl) (hP.sub [0, 1] rfl) (hD.sub [0, 1] (by decide) rfl) hS zdX_locate_12
  · exact absurd rfl h4

set_option maxHeartbeats 4000000 in
set_option maxRecDepth 100000 in
theorem cX_length_1 (l : Launch) (g : si_G) (x0 xw xp xd xe xb xl xt : Nat) (lt lz : Nat) (lta sr : Nat) (t : List Nat) (hs1 : 1 ≤ sr) (hs2 : sr ≤ 16) : si_Mi (S := Unit) l g vwCl zyX_length zwX_length ({ frames := 1, cells := 0, slots := 0, locals := 20 } : Room) [.ref x0] [(x0, .inr (5, [.ref xw, .ref xp, .ref xd, .ref xe, .ref xb, .ref xl, .ref xt])), (xl, .inr (3, [.ref lt, .ref lz, .int (nI sr)])), (lt, .inr (2, [.ref lta, .int (nI t.length)]))] (fun r u => r = nI t.length) (fun u => [(x0, .inr (5, [.ref xw, .ref xp, .ref xd, .ref xe, .ref xb, .ref xl, .ref xt])), (xl, .inr (3, [.ref lt, .ref lz, .int (nI sr)])), (lt, .inr (2, [.ref lta, .int (nI t.length)]))]) := by
  refine si_Mi.of (cc := zkX_length) (maxL := 1) (by decide) rfl (Nat.le_of_ble_eq_true rfl) ?_
  intro p e s m args below meth c A Q ls hF0 hin hK hN hP hD hA hS hl hret
  obtain ⟨hx, hb, hml, hown, hts0⟩ := hF0
  have hts : ∀ w ∈ si_tbl, w.before args s = true := fun w hw => hts0 w (List.mem_cons_of_mem _ hw)
  have hF : CallFix p m c zkX_length 1 s args si_tbl zRX := ⟨hx, hb, hml, hown, hts⟩
  have hl : lv_has ls 1 [(0, .ref x0)] := hl
  refine lv_aload_n hx hb zdX_length_0 rfl (lv_at hl 0 rfl) ?_
  refine (cX_hasLoaded_1 l g x0 xw xp xd xe xb xl xt lt lz sr (by omega)).callV (wr := [(lt, .inr (2, [.ref lta, .int (nI t.length)]))]) (As := []) (rest := []) hF (si_cV 0 hts zcX_hasLoaded zlX_85 zimX_hasLoaded zseX_hasLoaded ziniX zhX_hasLoaded ⟨Nat.le_of_ble_eq_true rfl, Nat.le_of_ble_eq_true rfl⟩) hK hN hP hD hS hA [0, 1] [2] rfl rfl (by decide) (by decide) (va_recv (q := (zRX, zTX, 7)) hK hP (ci := 5) (q0 := 0) rfl rfl) rfl hl.1 rfl (Nat.le_of_ble_eq_true rfl) zdX_length_1 ⟨Nat.le_of_ble_eq_true rfl, Nat.le_of_ble_eq_true rfl⟩ rfl rfl (fun r_ _u H locs hq hP hD hS => ?_)
  subst hq
  have hP : va_P g.1 vwCl [(lt, .inr (2, [.ref lta, .int (nI t.length)])), (x0, .inr (5, [.ref xw, .ref xp, .ref xd, .ref xe, .ref xb, .ref xl, .ref xt])), (xl, .inr (3, [.ref lt, .ref lz, .int (nI sr)]))] H := hP
  have hD : va_D A [(lt, .inr (2, [.ref lta, .int (nI t.length)])), (x0, .inr (5, [.ref xw, .ref xp, .ref xd, .ref xe, .ref xb, .ref xl, .ref xt])), (xl, .inr (3, [.ref lt, .ref lz, .int (nI sr)]))] := hD
  refine si_if_eq (tgt := 20) hx hb zdX_length_4 rfl (by decide) (fun h4 => ?_) (fun h4 => ?_)
  · exact absurd h4 (by decide)
  · refine lv_aload_n hx hb zdX_length_7 rfl (lv_at hl 0 rfl) ?_
    refine va_get (D := g.1) (ci := 5) (v := .ref xl) (C := zRX) (T := zTX) (N := 7) hx hb hts ziX hown hK hP 1 rfl rfl 5 (by decide) (hts _ zlX_41) (fun _ h => h) rfl zdX_length_8 ?_
    refine va_getN (D := g.1) (ci := 3) (v := .ref lt) (C := zRR) (T := zTR) (N := 3) hx hb hts ziR hown hK hP 2 rfl rfl 0 (by decide) (va_Nw.use rfl (hN _ zlX_74)) (fun _ h => h) rfl zdX_length_11 ?_
    refine va_getN (D := g.1) (ci := 2) (v := .int (nI t.length)) (C := zRL) (T := zTL) (N := 2) hx hb hts ziL hown hK hP 0 rfl rfl 1 (by decide) (va_Nw.use rfl (hN _ zlX_88)) (fun _ h => h) rfl zdX_length_14 ?_
    refine lv_goto (tgt := 21) hx hb zdX_length_17 rfl ?_
    exact hret (nI t.length) () _ _ _ _ (rfl) (rfl) (hP.sub [1, 2, 0] rfl) (hD.sub [1, 2, 0] (by decide) rfl) hS zdX_length_21

set_option maxHeartbeats 4000000 in
set_option maxRecDepth 100000 in
theorem cX_rate_1 (l : Launch) (g : si_G) (x0 xw xp xd xe xb xl xt : Nat) (lt lz : Nat) (sr : Nat) (hs1 : 1 ≤ sr) (hs2 : sr ≤ 16) : si_Mi (S := Unit) l g vwCl zyX_rate zwX_rate ({ frames := 1, cells := 0, slots := 0, locals := 20 } : Room) [.ref x0] [(x0, .inr (5, [.ref xw, .ref xp, .ref xd, .ref xe, .ref xb, .ref xl, .ref xt])), (xl, .inr (3, [.ref lt, .ref lz, .int (nI sr)]))] (fun r u => r = nI sr) (fun u => [(x0, .inr (5, [.ref xw, .ref xp, .ref xd, .ref xe, .ref xb, .ref xl, .ref xt])), (xl, .inr (3, [.ref lt, .ref lz, .int (nI sr)]))]) := by
  refine si_Mi.of (cc := zkX_rate) (maxL := 1) (by decide) rfl (Nat.le_of_ble_eq_true rfl) ?_
  intro p e s m args below meth c A Q ls hF0 hin hK hN hP hD hA hS hl hret
  obtain ⟨hx, hb, hml, hown, hts0⟩ := hF0
  have hts : ∀ w ∈ si_tbl, w.before args s = true := fun w hw => hts0 w (List.mem_cons_of_mem _ hw)
  have hF : CallFix p m c zkX_rate 1 s args si_tbl zRX := ⟨hx, hb, hml, hown, hts⟩
  have hl : lv_has ls 1 [(0, .ref x0)] := hl
  refine lv_aload_n hx hb zdX_rate_0 rfl (lv_at hl 0 rfl) ?_
  refine (cX_hasLoaded_1 l g x0 xw xp xd xe xb xl xt lt lz sr (by omega)).callV (wr := []) (As := []) (rest := []) hF (si_cV 0 hts zcX_hasLoaded zlX_85 zimX_hasLoaded zseX_hasLoaded ziniX zhX_hasLoaded ⟨Nat.le_of_ble_eq_true rfl, Nat.le_of_ble_eq_true rfl⟩) hK hN hP hD hS hA [0, 1] [] rfl rfl (by decide) (by decide) (va_recv (q := (zRX, zTX, 7)) hK hP (ci := 5) (q0 := 0) rfl rfl) rfl hl.1 rfl (Nat.le_of_ble_eq_true rfl) zdX_rate_1 ⟨Nat.le_of_ble_eq_true rfl, Nat.le_of_ble_eq_true rfl⟩ rfl rfl (fun r_ _u H locs hq hP hD hS => ?_)
  subst hq
  have hP : va_P g.1 vwCl [(x0, .inr (5, [.ref xw, .ref xp, .ref xd, .ref xe, .ref xb, .ref xl, .ref xt])), (xl, .inr (3, [.ref lt, .ref lz, .int (nI sr)]))] H := hP
  have hD : va_D A [(x0, .inr (5, [.ref xw, .ref xp, .ref xd, .ref xe, .ref xb, .ref xl, .ref xt])), (xl, .inr (3, [.ref lt, .ref lz, .int (nI sr)]))] := hD
  refine si_if_eq (tgt := 17) hx hb zdX_rate_4 rfl (by decide) (fun h4 => ?_) (fun h4 => ?_)
  · exact absurd h4 (by decide)
  · refine lv_aload_n hx hb zdX_rate_7 rfl (lv_at hl 0 rfl) ?_
    refine va_get (D := g.1) (ci := 5) (v := .ref xl) (C := zRX) (T := zTX) (N := 7) hx hb hts ziX hown hK hP 0 rfl rfl 5 (by decide) (hts _ zlX_41) (fun _ h => h) rfl zdX_rate_8 ?_
    refine va_getN (D := g.1) (ci := 3) (v := .int (nI sr)) (C := zRR) (T := zTR) (N := 3) hx hb hts ziR hown hK hP 1 rfl rfl 2 (by decide) (va_Nw.use rfl (hN _ zlX_77)) (fun _ h => h) rfl zdX_rate_11 ?_
    refine lv_goto (tgt := 18) hx hb zdX_rate_14 rfl ?_
    exact hret (nI sr) () _ _ _ _ (rfl) (rfl) (hP.sub [0, 1] rfl) (hD.sub [0, 1] (by decide) rfl) hS zdX_rate_18

set_option maxHeartbeats 4000000 in
set_option maxRecDepth 100000 in
theorem cX_charAt_1 (l : Launch) (g : si_G) (x0 xw xp xd xe xb xl xt : Nat) (lt lz : Nat) (lta sr : Nat) (f : Nat → Int32) (t : List Nat) (q : Int32) (hs1 : 1 ≤ sr) (hs2 : sr ≤ 16) (hok : si_ok t) (hf : si_ln t f) : si_Mi (S := Unit) l g vwCl zyX_charAt zwX_charAt ({ frames := 2, cells := 0, slots := 0, locals := 41 } : Room) [.ref x0, .int q] [(x0, .inr (5, [.ref xw, .ref xp, .ref xd, .ref xe, .ref xb, .ref xl, .ref xt])), (xl, .inr (3, [.ref lt, .ref lz, .int (nI sr)])), (lt, .inr (2, [.ref lta, .int (nI t.length)])), (lta, .inl (g.2.1, 60, .inl f))] (fun r u => r = si_q t.length q (fun j => nI (si_g t j))) (fun u => [(x0, .inr (5, [.ref xw, .ref xp, .ref xd, .ref xe, .ref xb, .ref xl, .ref xt])), (xl, .inr (3, [.ref lt, .ref lz, .int (nI sr)])), (lt, .inr (2, [.ref lta, .int (nI t.length)])), (lta, .inl (g.2.1, 60, .inl f))]) := by
  refine si_Mi.of (cc := zkX_charAt) (maxL := 2) (by decide) rfl (Nat.le_of_ble_eq_true rfl) ?_
  intro p e s m args below meth c A Q ls hF0 hin hK hN hP hD hA hS hl hret
  obtain ⟨hx, hb, hml, hown, hts0⟩ := hF0
  have hts : ∀ w ∈ si_tbl, w.before args s = true := fun w hw => hts0 w (List.mem_cons_of_mem _ hw)
  have hF : CallFix p m c zkX_charAt 2 s args si_tbl zRX := ⟨hx, hb, hml, hown, hts⟩
  have hl : lv_has ls 2 [(0, .ref x0), (1, .int q)] := hl
  have hn := hok.1
  refine lv_aload_n hx hb zdX_charAt_0 rfl (lv_at hl 0 rfl) ?_
  refine lv_iload_n hx hb zdX_charAt_1 rfl (lv_at hl 1 rfl) ?_
  refine (cX_isLoadedPlace_1 l g x0 xw xp xd xe xb xl xt lt lz lta sr t q hs1 hs2 hok.1).callV (wr := [(lta, .inl (g.2.1, 60, .inl f))]) (As := [.int q]) (rest := []) hF (si_cV 1 hts zcX_isLoadedPlace zlX_91 zimX_isLoadedPlace zseX_isLoadedPlace ziniX zhX_isLoadedPlace ⟨Nat.le_of_ble_eq_true rfl, Nat.le_of_ble_eq_true rfl⟩) hK hN hP hD hS hA [0, 1, 2] [3] rfl rfl (by decide) (by decide) (va_recv (q := (zRX, zTX, 7)) hK hP (ci := 5) (q0 := 0) rfl rfl) rfl hl.1 rfl (Nat.le_of_ble_eq_true rfl) zdX_charAt_2 ⟨Nat.le_of_ble_eq_true rfl, Nat.le_of_ble_eq_true rfl⟩ rfl rfl (fun r_ _u H locs hq hP hD hS => ?_)
  subst hq
  have hP : va_P g.1 vwCl [(lta, .inl (g.2.1, 60, .inl f)), (x0, .inr (5, [.ref xw, .ref xp, .ref xd, .ref xe, .ref xb, .ref xl, .ref xt])), (xl, .inr (3, [.ref lt, .ref lz, .int (nI sr)])), (lt, .inr (2, [.ref lta, .int (nI t.length)]))] H := hP
  have hD : va_D A [(lta, .inl (g.2.1, 60, .inl f)), (x0, .inr (5, [.ref xw, .ref xp, .ref xd, .ref xe, .ref xb, .ref xl, .ref xt])), (xl, .inr (3, [.ref lt, .ref lz, .int (nI sr)])), (lt, .inr (2, [.ref lta, .int (nI t.length)]))] := hD
  refine si_if_eq (tgt := 22) hx hb zdX_charAt_5 rfl (si_bn _) (fun h5 => ?_) (fun h5 => ?_)
  · have hd := si_b0 h5
    refine lv_iconst (v := -1) hx hb zdX_charAt_22 (by decide) ?_
    exact hret (-1) () _ _ _ _ (rfl) ((si_q_f hd).symm) (hP.sub [1, 2, 3, 0] rfl) (hD.sub [1, 2, 3, 0] (by decide) rfl) hS zdX_charAt_23
  · have hd := si_b1 h5
    obtain ⟨j, hj, rfl⟩ := si_inP_t hd
    refine lv_aload_n hx hb zdX_charAt_8 rfl (lv_at hl 0 rfl) ?_
    refine va_get (D := g.1) (ci := 5) (v := .ref xl) (C := zRX) (T := zTX) (N := 7) hx hb hts ziX hown hK hP 1 rfl rfl 5 (by decide) (hts _ zlX_41) (fun _ h => h) rfl zdX_charAt_9 ?_
    refine va_getN (D := g.1) (ci := 3) (v := .ref lt) (C := zRR) (T := zTR) (N := 3) hx hb hts ziR hown hK hP 2 rfl rfl 0 (by decide) (va_Nw.use rfl (hN _ zlX_74)) (fun _ h => h) rfl zdX_charAt_12 ?_
    refine lv_iload_n hx hb zdX_charAt_15 rfl (lv_at hl 1 rfl) ?_
    refine (cL_codeAt l g lt lta 60 t.length f (nI j) (nI (si_g t j)) (by decide) hn (si_ca_n hf (by omega) (by omega))).callV (wr := [(x0, .inr (5, [.ref xw, .ref xp, .ref xd, .ref xe, .ref xb, .ref xl, .ref xt])), (xl, .inr (3, [.ref lt, .ref lz, .int (nI sr)]))]) (As := [.int (nI j)]) (rest := []) hF (si_cV 1 hts zcL_codeAt zlX_94 zimL_codeAt zseL_codeAt ziniL zhL_codeAt ⟨Nat.le_of_ble_eq_true rfl, Nat.le_of_ble_eq_true rfl⟩) hK hN hP hD hS hA [3, 0] [1, 2] rfl rfl (by decide) (by decide) (va_recv (q := (zRL, zTL, 2)) hK hP (ci := 2) (q0 := 3) rfl rfl) rfl hl.1 rfl (Nat.le_of_ble_eq_true rfl) zdX_charAt_16 ⟨Nat.le_of_ble_eq_true rfl, Nat.le_of_ble_eq_true rfl⟩ rfl rfl (fun r_ _u H locs hq hP hD hS => ?_)
    subst hq
    have hP : va_P g.1 vwCl [(x0, .inr (5, [.ref xw, .ref xp, .ref xd, .ref xe, .ref xb, .ref xl, .ref xt])), (xl, .inr (3, [.ref lt, .ref lz, .int (nI sr)])), (lt, .inr (2, [.ref lta, .int (nI t.length)])), (lta, .inl (g.2.1, 60, .inl f))] H := hP
    have hD : va_D A [(x0, .inr (5, [.ref xw, .ref xp, .ref xd, .ref xe, .ref xb, .ref xl, .ref xt])), (xl, .inr (3, [.ref lt, .ref lz, .int (nI sr)])), (lt, .inr (2, [.ref lta, .int (nI t.length)])), (lta, .inl (g.2.1, 60, .inl f))] := hD
    refine lv_goto (tgt := 23) hx hb zdX_charAt_19 rfl ?_
    exact hret (nI (si_g t j)) () _ _ _ _ (rfl) ((si_q_t (F := fun j => nI (si_g t j)) hd (by omega)).symm) (hP.sub [0, 1, 2, 3] rfl) (hD.sub [0, 1, 2, 3] (by decide) rfl) hS zdX_charAt_23

set_option maxHeartbeats 4000000 in
set_option maxRecDepth 100000 in
theorem cX_rowOf_1 (l : Launch) (g : si_G) (x0 xw xp xd xe xb xl xt : Nat) (lt lz : Nat) (lta lsr lsp sr : Nat) (fr : Nat → Int32) (la : Int32) (t : List Nat) (q : Int32) (hs1 : 1 ≤ sr) (hs2 : sr ≤ 16) (hok : si_ok t) (hsu : ∀ x, x < t.length + 1 → fr x = nI (si_rk t x)) : si_Mi (S := Unit) l g vwCl zyX_rowOf zwX_rowOf ({ frames := 2, cells := 0, slots := 0, locals := 41 } : Room) [.ref x0, .int q] [(x0, .inr (5, [.ref xw, .ref xp, .ref xd, .ref xe, .ref xb, .ref xl, .ref xt])), (xl, .inr (3, [.ref lt, .ref lz, .int (nI sr)])), (lt, .inr (2, [.ref lta, .int (nI t.length)])), (lz, .inr (4, [.ref lsr, .ref lsp, .int la])), (lsr, .inl (g.2.1, 61, .inl fr))] (fun r u => r = si_q t.length q (fun j => nI (si_rk t j))) (fun u => [(x0, .inr (5, [.ref xw, .ref xp, .ref xd, .ref xe, .ref xb, .ref xl, .ref xt])), (xl, .inr (3, [.ref lt, .ref lz, .int (nI sr)])), (lt, .inr (2, [.ref lta, .int (nI t.length)])), (lz, .inr (4, [.ref lsr, .ref lsp, .int la])), (lsr, .inl (g.2.1, 61, .inl fr))]) := by
  refine si_Mi.of (cc := zkX_rowOf) (maxL := 2) (by decide) rfl (Nat.le_of_ble_eq_true rfl) ?_
  intro p e s m args below meth c A Q ls hF0 hin hK hN hP hD hA hS hl hret
  obtain ⟨hx, hb, hml, hown, hts0⟩ := hF0
  have hts : ∀ w ∈ si_tbl, w.before args s = true := fun w hw => hts0 w (List.mem_cons_of_mem _ hw)
  have hF : CallFix p m c zkX_rowOf 2 s args si_tbl zRX := ⟨hx, hb, hml, hown, hts⟩
  have hl : lv_has ls 2 [(0, .ref x0), (1, .int q)] := hl
  have hn := hok.1
  refine lv_aload_n hx hb zdX_rowOf_0 rfl (lv_at hl 0 rfl) ?_
  refine lv_iload_n hx hb zdX_rowOf_1 rfl (lv_at hl 1 rfl) ?_
  refine (cX_isLoadedPlace_1 l g x0 xw xp xd xe xb xl xt lt lz lta sr t q hs1 hs2 hok.1).callV (wr := [(lz, .inr (4, [.ref lsr, .ref lsp, .int la])), (lsr, .inl (g.2.1, 61, .inl fr))]) (As := [.int q]) (rest := []) hF (si_cV 1 hts zcX_isLoadedPlace zlX_91 zimX_isLoadedPlace zseX_isLoadedPlace ziniX zhX_isLoadedPlace ⟨Nat.le_of_ble_eq_true rfl, Nat.le_of_ble_eq_true rfl⟩) hK hN hP hD hS hA [0, 1, 2] [3, 4] rfl rfl (by decide) (by decide) (va_recv (q := (zRX, zTX, 7)) hK hP (ci := 5) (q0 := 0) rfl rfl) rfl hl.1 rfl (Nat.le_of_ble_eq_true rfl) zdX_rowOf_2 ⟨Nat.le_of_ble_eq_true rfl, Nat.le_of_ble_eq_true rfl⟩ rfl rfl (fun r_ _u H locs hq hP hD hS => ?_)
  subst hq
  have hP : va_P g.1 vwCl [(lz, .inr (4, [.ref lsr, .ref lsp, .int la])), (lsr, .inl (g.2.1, 61, .inl fr)), (x0, .inr (5, [.ref xw, .ref xp, .ref xd, .ref xe, .ref xb, .ref xl, .ref xt])), (xl, .inr (3, [.ref lt, .ref lz, .int (nI sr)])), (lt, .inr (2, [.ref lta, .int (nI t.length)]))] H := hP
  have hD : va_D A [(lz, .inr (4, [.ref lsr, .ref lsp, .int la])), (lsr, .inl (g.2.1, 61, .inl fr)), (x0, .inr (5, [.ref xw, .ref xp, .ref xd, .ref xe, .ref xb, .ref xl, .ref xt])), (xl, .inr (3, [.ref lt, .ref lz, .int (nI sr)])), (lt, .inr (2, [.ref lta, .int (nI t.length)]))] := hD
  refine si_if_eq (tgt := 23) hx hb zdX_rowOf_5 rfl (si_bn _) (fun h5 => ?_) (fun h5 => ?_)
  · have hd := si_b0 h5
    refine lv_iconst (v := -1) hx hb zdX_rowOf_23 (by decide) ?_
    exact hret (-1) () _ _ _ _ (rfl) ((si_q_f hd).symm) (hP.sub [2, 3, 4, 0, 1] rfl) (hD.sub [2, 3, 4, 0, 1] (by decide) rfl) hS zdX_rowOf_24
  · have hd := si_b1 h5
    obtain ⟨j, hj, rfl⟩ := si_inP_t hd
    refine lv_aload_n hx hb zdX_rowOf_8 rfl (lv_at hl 0 rfl) ?_
    refine va_get (D := g.1) (ci := 5) (v := .ref xl) (C := zRX) (T := zTX) (N := 7) hx hb hts ziX hown hK hP 2 rfl rfl 5 (by decide) (hts _ zlX_41) (fun _ h => h) rfl zdX_rowOf_9 ?_
    refine va_getN (D := g.1) (ci := 3) (v := .ref lz) (C := zRR) (T := zTR) (N := 3) hx hb hts ziR hown hK hP 3 rfl rfl 1 (by decide) (va_Nw.use rfl (hN _ zlX_98)) (fun _ h => h) rfl zdX_rowOf_12 ?_
    refine va_getN (D := g.1) (ci := 4) (v := .ref lsr) (C := zRS) (T := zTS) (N := 3) hx hb hts ziS hown hK hP 0 rfl rfl 0 (by decide) (va_Nw.use rfl (hN _ zlX_102)) (fun _ h => h) rfl zdX_rowOf_15 ?_
    refine lv_iload_n hx hb zdX_rowOf_18 rfl (lv_at hl 1 rfl) ?_
    refine si_iald (v := nI (si_rk t j)) hx hb hK hP 1 0 rfl rfl (by decide) (by omega) (hsu j (by omega)) zdX_rowOf_19 ?_
    refine lv_goto (tgt := 24) hx hb zdX_rowOf_20 rfl ?_
    exact hret (nI (si_rk t j)) () _ _ _ _ (rfl) ((si_q_t (F := fun j => nI (si_rk t j)) hd (by omega)).symm) (hP.sub [2, 3, 4, 0, 1] rfl) (hD.sub [2, 3, 4, 0, 1] (by decide) rfl) hS zdX_rowOf_24

set_option maxHeartbeats 4000000 in
set_option maxRecDepth 100000 in
theorem cX_placeOf_1 (l : Launch) (g : si_G) (x0 xw xp xd xe xb xl xt : Nat) (lt lz : Nat) (lta lsr lsp sr : Nat) (fp : Nat → Int32) (la : Int32) (t : List Nat) (q : Int32) (hs1 : 1 ≤ sr) (hs2 : sr ≤ 16) (hok : si_ok t) (hsu : ∀ x, x < t.length + 1 → fp x = nI (si_pl t x)) : si_Mi (S := Unit) l g vwCl zyX_placeOf zwX_placeOf ({ frames := 2, cells := 0, slots := 0, locals := 41 } : Room) [.ref x0, .int q] [(x0, .inr (5, [.ref xw, .ref xp, .ref xd, .ref xe, .ref xb, .ref xl, .ref xt])), (xl, .inr (3, [.ref lt, .ref lz, .int (nI sr)])), (lt, .inr (2, [.ref lta, .int (nI t.length)])), (lz, .inr (4, [.ref lsr, .ref lsp, .int la])), (lsp, .inl (g.2.1, 61, .inl fp))] (fun r u => r = si_q t.length q (fun j => nI (si_pl t j))) (fun u => [(x0, .inr (5, [.ref xw, .ref xp, .ref xd, .ref xe, .ref xb, .ref xl, .ref xt])), (xl, .inr (3, [.ref lt, .ref lz, .int (nI sr)])), (lt, .inr (2, [.ref lta, .int (nI t.length)])), (lz, .inr (4, [.ref lsr, .ref lsp, .int la])), (lsp, .inl (g.2.1, 61, .inl fp))]) := by
  refine si_Mi.of (cc := zkX_placeOf) (maxL := 2) (by decide) rfl (Nat.le_of_ble_eq_true rfl) ?_
  intro p e s m args below meth c A Q ls hF0 hin hK hN hP hD hA hS hl hret
  obtain ⟨hx, hb, hml, hown, hts0⟩ := hF0
  have hts : ∀ w ∈ si_tbl, w.before args s = true := fun w hw => hts0 w (List.mem_cons_of_mem _ hw)
  have hF : CallFix p m c zkX_placeOf 2 s args si_tbl zRX := ⟨hx, hb, hml, hown, hts⟩
  have hl : lv_has ls 2 [(0, .ref x0), (1, .int q)] := hl
  have hn := hok.1
  refine lv_aload_n hx hb zdX_placeOf_0 rfl (lv_at hl 0 rfl) ?_
  refine lv_iload_n hx hb zdX_placeOf_1 rfl (lv_at hl 1 rfl) ?_
  refine (cX_isLoadedPlace_1 l g x0 xw xp xd xe xb xl xt lt lz lta sr t q hs1 hs2 hok.1).callV (wr := [(lz, .inr (4, [.ref lsr, .ref lsp, .int la])), (lsp, .inl (g.2.1, 61, .inl fp))]) (As := [.int q]) (rest := []) hF (si_cV 1 hts zcX_isLoadedPlace zlX_91 zimX_isLoadedPlace zseX_isLoadedPlace ziniX zhX_isLoadedPlace ⟨Nat.le_of_ble_eq_true rfl, Nat.le_of_ble_eq_true rfl⟩) hK hN hP hD hS hA [0, 1, 2] [3, 4] rfl rfl (by decide) (by decide) (va_recv (q := (zRX, zTX, 7)) hK hP (ci := 5) (q0 := 0) rfl rfl) rfl hl.1 rfl (Nat.le_of_ble_eq_true rfl) zdX_placeOf_2 ⟨Nat.le_of_ble_eq_true rfl, Nat.le_of_ble_eq_true rfl⟩ rfl rfl (fun r_ _u H locs hq hP hD hS => ?_)
  subst hq
  have hP : va_P g.1 vwCl [(lz, .inr (4, [.ref lsr, .ref lsp, .int la])), (lsp, .inl (g.2.1, 61, .inl fp)), (x0, .inr (5, [.ref xw, .ref xp, .ref xd, .ref xe, .ref xb, .ref xl, .ref xt])), (xl, .inr (3, [.ref lt, .ref lz, .int (nI sr)])), (lt, .inr (2, [.ref lta, .int (nI t.length)]))] H := hP
  have hD : va_D A [(lz, .inr (4, [.ref lsr, .ref lsp, .int la])), (lsp, .inl (g.2.1, 61, .inl fp)), (x0, .inr (5, [.ref xw, .ref xp, .ref xd, .ref xe, .ref xb, .ref xl, .ref xt])), (xl, .inr (3, [.ref lt, .ref lz, .int (nI sr)])), (lt, .inr (2, [.ref lta, .int (nI t.length)]))] := hD
  refine si_if_eq (tgt := 23) hx hb zdX_placeOf_5 rfl (si_bn _) (fun h5 => ?_) (fun h5 => ?_)
  · have hd := si_b0 h5
    refine lv_iconst (v := -1) hx hb zdX_placeOf_23 (by decide) ?_
    exact hret (-1) () _ _ _ _ (rfl) ((si_q_f hd).symm) (hP.sub [2, 3, 4, 0, 1] rfl) (hD.sub [2, 3, 4, 0, 1] (by decide) rfl) hS zdX_placeOf_24
  · have hd := si_b1 h5
    obtain ⟨j, hj, rfl⟩ := si_inP_t hd
    refine lv_aload_n hx hb zdX_placeOf_8 rfl (lv_at hl 0 rfl) ?_
    refine va_get (D := g.1) (ci := 5) (v := .ref xl) (C := zRX) (T := zTX) (N := 7) hx hb hts ziX hown hK hP 2 rfl rfl 5 (by decide) (hts _ zlX_41) (fun _ h => h) rfl zdX_placeOf_9 ?_
    refine va_getN (D := g.1) (ci := 3) (v := .ref lz) (C := zRR) (T := zTR) (N := 3) hx hb hts ziR hown hK hP 3 rfl rfl 1 (by decide) (va_Nw.use rfl (hN _ zlX_98)) (fun _ h => h) rfl zdX_placeOf_12 ?_
    refine va_getN (D := g.1) (ci := 4) (v := .ref lsp) (C := zRS) (T := zTS) (N := 3) hx hb hts ziS hown hK hP 0 rfl rfl 1 (by decide) (va_Nw.use rfl (hN _ zlX_108)) (fun _ h => h) rfl zdX_placeOf_15 ?_
    refine lv_iload_n hx hb zdX_placeOf_18 rfl (lv_at hl 1 rfl) ?_
    refine si_iald (v := nI (si_pl t j)) hx hb hK hP 1 0 rfl rfl (by decide) (by omega) (hsu j (by omega)) zdX_placeOf_19 ?_
    refine lv_goto (tgt := 24) hx hb zdX_placeOf_20 rfl ?_
    exact hret (nI (si_pl t j)) () _ _ _ _ (rfl) ((si_q_t (F := fun j => nI (si_pl t j)) hd (by omega)).symm) (hP.sub [2, 3, 4, 0, 1] rfl) (hD.sub [2, 3, 4, 0, 1] (by decide) rfl) hS zdX_placeOf_24

set_option maxHeartbeats 4000000 in
set_option maxRecDepth 100000 in
theorem cX_count_1 (l : Launch) (g : si_G) (x0 xw xp xd xe xb xl xt : Nat) (lt lz : Nat) (lta xpa sr : Nat) (f f1 : Nat → Int32) (t b : List Nat) (hs1 : 1 ≤ sr) (hs2 : sr ≤ 16) (hok : si_ok t) (hf : si_ln t f) (hb1 : b.length ≤ 20) (hf1 : si_ln b f1) (hval : ∀ z ∈ b, 32 ≤ z ∧ z ≤ 126) : si_Mi (S := Unit) l g vwCl zyX_count zwX_count ({ frames := 3, cells := 0, slots := 0, locals := 65 } : Room) [.ref x0] [(x0, .inr (5, [.ref xw, .ref xp, .ref xd, .ref xe, .ref xb, .ref xl, .ref xt])), (xl, .inr (3, [.ref lt, .ref lz, .int (nI sr)])), (lt, .inr (2, [.ref lta, .int (nI t.length)])), (lta, .inl (g.2.1, 60, .inl f)), (xp, .inr (2, [.ref xpa, .int (nI b.length)])), (xpa, .inl (g.2.1, 20, .inl f1))] (fun r u => r = nI (si_cn (t.length + 1) (si_oc t b))) (fun u => [(x0, .inr (5, [.ref xw, .ref xp, .ref xd, .ref xe, .ref xb, .ref xl, .ref xt])), (xl, .inr (3, [.ref lt, .ref lz, .int (nI sr)])), (lt, .inr (2, [.ref lta, .int (nI t.length)])), (lta, .inl (g.2.1, 60, .inl f)), (xp, .inr (2, [.ref xpa, .int (nI b.length)])), (xpa, .inl (g.2.1, 20, .inl f1))]) := by
  refine si_Mi.of (cc := zkX_count) (maxL := 3) (by decide) rfl (Nat.le_of_ble_eq_true rfl) ?_
  intro p e s m args below meth c A Q ls hF0 hin hK hN hP hD hA hS hl hret
  obtain ⟨hx, hb, hml, hown, hts0⟩ := hF0
  have hts : ∀ w ∈ si_tbl, w.before args s = true := fun w hw => hts0 w (List.mem_cons_of_mem _ hw)
  have hF : CallFix p m c zkX_count 3 s args si_tbl zRX := ⟨hx, hb, hml, hown, hts⟩
  have hl : lv_has ls 3 [(0, .ref x0)] := hl
  have hn := hok.1
  refine lv_aload_n hx hb zdX_count_0 rfl (lv_at hl 0 rfl) ?_
  refine (cX_hasLoaded_1 l g x0 xw xp xd xe xb xl xt lt lz sr (by omega)).callV (wr := [(lt, .inr (2, [.ref lta, .int (nI t.length)])), (lta, .inl (g.2.1, 60, .inl f)), (xp, .inr (2, [.ref xpa, .int (nI b.length)])), (xpa, .inl (g.2.1, 20, .inl f1))]) (As := []) (rest := []) hF (si_cV 0 hts zcX_hasLoaded zlX_85 zimX_hasLoaded zseX_hasLoaded ziniX zhX_hasLoaded ⟨Nat.le_of_ble_eq_true rfl, Nat.le_of_ble_eq_true rfl⟩) hK hN hP hD hS hA [0, 1] [2, 3, 4, 5] rfl rfl (by decide) (by decide) (va_recv (q := (zRX, zTX, 7)) hK hP (ci := 5) (q0 := 0) rfl rfl) rfl hl.1 rfl (Nat.le_of_ble_eq_true rfl) zdX_count_1 ⟨Nat.le_of_ble_eq_true rfl, Nat.le_of_ble_eq_true rfl⟩ rfl rfl (fun r_ _u H locs hq hP hD hS => ?_)
  subst hq
  have hP : va_P g.1 vwCl [(lt, .inr (2, [.ref lta, .int (nI t.length)])), (lta, .inl (g.2.1, 60, .inl f)), (xp, .inr (2, [.ref xpa, .int (nI b.length)])), (xpa, .inl (g.2.1, 20, .inl f1)), (x0, .inr (5, [.ref xw, .ref xp, .ref xd, .ref xe, .ref xb, .ref xl, .ref xt])), (xl, .inr (3, [.ref lt, .ref lz, .int (nI sr)]))] H := hP
  have hD : va_D A [(lt, .inr (2, [.ref lta, .int (nI t.length)])), (lta, .inl (g.2.1, 60, .inl f)), (xp, .inr (2, [.ref xpa, .int (nI b.length)])), (xpa, .inl (g.2.1, 20, .inl f1)), (x0, .inr (5, [.ref xw, .ref xp, .ref xd, .ref xe, .ref xb, .ref xl, .ref xt])), (xl, .inr (3, [.ref lt, .ref lz, .int (nI sr)]))] := hD
  refine si_if_ne (tgt := 9) hx hb zdX_count_4 rfl (by decide) (fun h4 => ?_) (fun h4 => ?_)
  · refine lv_iconst (v := nI 0) hx hb zdX_count_9 (by decide) ?_
    refine lv_istore_n (lv' := [(1, .int (nI 0)), (0, .ref x0)]) hx hb zdX_count_10 rfl hl (Nat.le_of_ble_eq_true rfl) rfl (fun ls hl => ?_)
    refine lv_iconst (v := nI 0) hx hb zdX_count_11 (by decide) ?_
    refine lv_istore_n (lv' := [(2, .int (nI 0)), (1, .int (nI 0)), (0, .ref x0)]) hx hb zdX_count_12 rfl hl (Nat.le_of_ble_eq_true rfl) rfl (fun ls hl => ?_)
    have L13 : ∀ (N : Nat) (k : Nat) (fo : Nat) (H : Heap) (locs : List Loc) (ls : Array Slot), t.length + 1 - k < N → (k ≤ t.length + 1) → (fo = si_cn k (si_oc t b)) → lv_has ls 3 [(0, .ref x0), (1, .int (nI fo)), (2, .int (nI k))] → va_P g.1 vwCl [(x0, .inr (5, [.ref xw, .ref xp, .ref xd, .ref xe, .ref xb, .ref xl, .ref xt])), (xl, .inr (3, [.ref lt, .ref lz, .int (nI sr)])), (lt, .inr (2, [.ref lta, .int (nI t.length)])), (lta, .inl (g.2.1, 60, .inl f)), (xp, .inr (2, [.ref xpa, .int (nI b.length)])), (xpa, .inl (g.2.1, 20, .inl f1))] H → va_D A [(x0, .inr (5, [.ref xw, .ref xp, .ref xd, .ref xe, .ref xb, .ref xl, .ref xt])), (xl, .inr (3, [.ref lt, .ref lz, .int (nI sr)])), (lt, .inr (2, [.ref lta, .int (nI t.length)])), (lta, .inl (g.2.1, 60, .inl f)), (xp, .inr (2, [.ref xpa, .int (nI b.length)])), (xpa, .inl (g.2.1, 20, .inl f1))] → va_S A s.heap H locs → W p l e ({ frames := 3, cells := 0, slots := 0, locals := 65 } : Room) s m args below meth c H locs 0 0 Q (F0 m 13 ls []) := by
      intro N
      induction N with
      | zero => intro k fo H locs ls hMs; exact absurd hMs (Nat.not_lt_zero _)
      | succ N ih13 =>
        intro k fo H locs ls hMs hk hfo hl hP hD hS
        refine lv_iload_n hx hb zdX_count_13 rfl (lv_at hl 2 rfl) ?_
        refine lv_aload_n hx hb zdX_count_14 rfl (lv_at hl 0 rfl) ?_
        refine va_get (D := g.1) (ci := 5) (v := .ref xl) (C := zRX) (T := zTX) (N := 7) hx hb hts ziX hown hK hP 0 rfl rfl 5 (by decide) (hts _ zlX_41) (fun _ h => h) rfl zdX_count_15 ?_
        refine va_getN (D := g.1) (ci := 3) (v := .ref lt) (C := zRR) (T := zTR) (N := 3) hx hb hts ziR hown hK hP 1 rfl rfl 0 (by decide) (va_Nw.use rfl (hN _ zlX_74)) (fun _ h => h) rfl zdX_count_18 ?_
        refine va_getN (D := g.1) (ci := 2) (v := .int (nI t.length)) (C := zRL) (T := zTL) (N := 2) hx hb hts ziL hown hK hP 2 rfl rfl 1 (by decide) (va_Nw.use rfl (hN _ zlX_88)) (fun _ h => h) rfl zdX_count_21 ?_
        refine si_icmp_gt (tgt := 44) hx hb zdX_count_24 rfl (by omega) (by omega) (fun h24 => ?_) (fun h24 => ?_)
        · refine lv_iload_n hx hb zdX_count_44 rfl (lv_at hl 1 rfl) ?_
          exact hret (nI fo) () _ _ _ _ (rfl) (by rw [hfo, show k = t.length + 1 by omega]) (hP.sub [0, 1, 2, 3, 4, 5] rfl) (hD.sub [0, 1, 2, 3, 4, 5] (by decide) rfl) hS zdX_count_45
        · refine lv_aload_n hx hb zdX_count_27 rfl (lv_at hl 0 rfl) ?_
          refine lv_iload_n hx hb zdX_count_28 rfl (lv_at hl 2 rfl) ?_
          refine (cX_occursAt l g x0 xw xp xd xe xb xl xt lt lz lta xpa sr f f1 t b k hs1 hs2 hok hf hb1 hf1 hval (by omega)).callV (wr := []) (As := [.int (nI k)]) (rest := []) hF (si_cV 1 hts zcX_occursAt zlX_114 zimX_occursAt zseX_occursAt ziniX zhX_occursAt ⟨Nat.le_of_ble_eq_true rfl, Nat.le_of_ble_eq_true rfl⟩) hK hN hP hD hS hA [0, 1, 2, 3, 4, 5] [] rfl rfl (by decide) (by decide) (va_recv (q := (zRX, zTX, 7)) hK hP (ci := 5) (q0 := 0) rfl rfl) rfl hl.1 rfl (Nat.le_of_ble_eq_true rfl) zdX_count_29 ⟨Nat.le_of_ble_eq_true rfl, Nat.le_of_ble_eq_true rfl⟩ rfl rfl (fun r_ _u H locs hq hP hD hS => ?_)
          subst hq
          have hP : va_P g.1 vwCl [(x0, .inr (5, [.ref xw, .ref xp, .ref xd, .ref xe, .ref xb, .ref xl, .ref xt])), (xl, .inr (3, [.ref lt, .ref lz, .int (nI sr)])), (lt, .inr (2, [.ref lta, .int (nI t.length)])), (lta, .inl (g.2.1, 60, .inl f)), (xp, .inr (2, [.ref xpa, .int (nI b.length)])), (xpa, .inl (g.2.1, 20, .inl f1))] H := hP
          have hD : va_D A [(x0, .inr (5, [.ref xw, .ref xp, .ref xd, .ref xe, .ref xb, .ref xl, .ref xt])), (xl, .inr (3, [.ref lt, .ref lz, .int (nI sr)])), (lt, .inr (2, [.ref lta, .int (nI t.length)])), (lta, .inl (g.2.1, 60, .inl f)), (xp, .inr (2, [.ref xpa, .int (nI b.length)])), (xpa, .inl (g.2.1, 20, .inl f1))] := hD
          refine si_if_eq (tgt := 38) hx hb zdX_count_32 rfl (si_bn _) (fun h32 => ?_) (fun h32 => ?_)
          · refine lv_iinc (k := 2) (v := nI (k + 1)) (lv' := [(2, .int (nI (k + 1))), (0, .ref x0), (1, .int (nI fo))]) hx hb zdX_count_38 hl rfl (si_inc _) (Nat.le_of_ble_eq_true rfl) rfl (fun ls hl => ?_)
            refine lv_goto (tgt := 13) hx hb zdX_count_41 rfl ?_
            exact ih13 (k + 1) fo _ _ _ (by omega) (by omega) (by first | (rw [si_cn_t (si_b1 h32), hfo]; done) | (rw [si_cn_f (si_b0 h32), hfo]; done)) (lv_sub hl [1, 2, 0] rfl) (hP.sub [0, 1, 2, 3, 4, 5] rfl) (hD.sub [0, 1, 2, 3, 4, 5] (by decide) rfl) hS
          · refine lv_iinc (k := 1) (v := nI (fo + 1)) (lv' := [(1, .int (nI (fo + 1))), (0, .ref x0), (2, .int (nI k))]) hx hb zdX_count_35 hl rfl (si_inc _) (Nat.le_of_ble_eq_true rfl) rfl (fun ls hl => ?_)
            refine lv_iinc (k := 2) (v := nI (k + 1)) (lv' := [(2, .int (nI (k + 1))), (1, .int (nI (fo + 1))), (0, .ref x0)]) hx hb zdX_count_38 hl rfl (si_inc _) (Nat.le_of_ble_eq_true rfl) rfl (fun ls hl => ?_)
            refine lv_goto (tgt := 13) hx hb zdX_count_41 rfl ?_
            exact ih13 (k + 1) (fo + 1) _ _ _ (by omega) (by omega) (by first | (rw [si_cn_t (si_b1 h32), hfo]; done) | (rw [si_cn_f (si_b0 h32), hfo]; done)) (lv_sub hl [2, 1, 0] rfl) (hP.sub [0, 1, 2, 3, 4, 5] rfl) (hD.sub [0, 1, 2, 3, 4, 5] (by decide) rfl) hS
    exact L13 (t.length + 1 - 0 + 1) 0 0 _ _ _ (by omega) (by omega) (rfl) (lv_sub hl [2, 1, 0] rfl) (hP.sub [4, 5, 0, 1, 2, 3] rfl) (hD.sub [4, 5, 0, 1, 2, 3] (by decide) rfl) hS
  · exact absurd h4 (by decide)

set_option maxHeartbeats 4000000 in
set_option maxRecDepth 100000 in
theorem cX_firstRow_1 (l : Launch) (g : si_G) (x0 xw xp xd xe xb xl xt : Nat) (lt lz : Nat) (lta xpa sr : Nat) (f f1 : Nat → Int32) (t b : List Nat) (lsr lsp : Nat) (fp : Nat → Int32) (la : Int32) (hs1 : 1 ≤ sr) (hs2 : sr ≤ 16) (hok : si_ok t) (hf : si_ln t f) (hb1 : b.length ≤ 20) (hf1 : si_ln b f1) (hval : ∀ z ∈ b, 32 ≤ z ∧ z ≤ 126) (hsu : ∀ x, x < t.length + 1 → fp x = nI (si_pl t x)) : si_Mi (S := Unit) l g vwCl zyX_firstRow zwX_firstRow ({ frames := 3, cells := 0, slots := 0, locals := 65 } : Room) [.ref x0] [(x0, .inr (5, [.ref xw, .ref xp, .ref xd, .ref xe, .ref xb, .ref xl, .ref xt])), (xl, .inr (3, [.ref lt, .ref lz, .int (nI sr)])), (lt, .inr (2, [.ref lta, .int (nI t.length)])), (lta, .inl (g.2.1, 60, .inl f)), (xp, .inr (2, [.ref xpa, .int (nI b.length)])), (xpa, .inl (g.2.1, 20, .inl f1)), (lz, .inr (4, [.ref lsr, .ref lsp, .int la])), (lsp, .inl (g.2.1, 61, .inl fp))] (fun r u => si_fr t b r) (fun u => [(x0, .inr (5, [.ref xw, .ref xp, .ref xd, .ref xe, .ref xb, .ref xl, .ref xt])), (xl, .inr (3, [.ref lt, .ref lz, .int (nI sr)])), (lt, .inr (2, [.ref lta, .int (nI t.length)])), (lta, .inl (g.2.1, 60, .inl f)), (xp, .inr (2, [.ref xpa, .int (nI b.length)])), (xpa, .inl (g.2.1, 20, .inl f1)), (lz, .inr (4, [.ref lsr, .ref lsp, .int la])), (lsp, .inl (g.2.1, 61, .inl fp))]) := by
  refine si_Mi.of (cc := zkX_firstRow) (maxL := 2) (by decide) rfl (Nat.le_of_ble_eq_true rfl) ?_
  intro p e s m args below meth c A Q ls hF0 hin hK hN hP hD hA hS hl hret
  obtain ⟨hx, hb, hml, hown, hts0⟩ := hF0
  have hts : ∀ w ∈ si_tbl, w.before args s = true := fun w hw => hts0 w (List.mem_cons_of_mem _ hw)
  have hF : CallFix p m c zkX_firstRow 2 s args si_tbl zRX := ⟨hx, hb, hml, hown, hts⟩
  have hl : lv_has ls 2 [(0, .ref x0)] := hl
  have hn := hok.1
  refine lv_aload_n hx hb zdX_firstRow_0 rfl (lv_at hl 0 rfl) ?_
  refine (cX_hasLoaded_1 l g x0 xw xp xd xe xb xl xt lt lz sr (by omega)).callV (wr := [(lt, .inr (2, [.ref lta, .int (nI t.length)])), (lta, .inl (g.2.1, 60, .inl f)), (xp, .inr (2, [.ref xpa, .int (nI b.length)])), (xpa, .inl (g.2.1, 20, .inl f1)), (lz, .inr (4, [.ref lsr, .ref lsp, .int la])), (lsp, .inl (g.2.1, 61, .inl fp))]) (As := []) (rest := []) hF (si_cV 0 hts zcX_hasLoaded zlX_85 zimX_hasLoaded zseX_hasLoaded ziniX zhX_hasLoaded ⟨Nat.le_of_ble_eq_true rfl, Nat.le_of_ble_eq_true rfl⟩) hK hN hP hD hS hA [0, 1] [2, 3, 4, 5, 6, 7] rfl rfl (by decide) (by decide) (va_recv (q := (zRX, zTX, 7)) hK hP (ci := 5) (q0 := 0) rfl rfl) rfl hl.1 rfl (Nat.le_of_ble_eq_true rfl) zdX_firstRow_1 ⟨Nat.le_of_ble_eq_true rfl, Nat.le_of_ble_eq_true rfl⟩ rfl rfl (fun r_ _u H locs hq hP hD hS => ?_)
  subst hq
  have hP : va_P g.1 vwCl [(lt, .inr (2, [.ref lta, .int (nI t.length)])), (lta, .inl (g.2.1, 60, .inl f)), (xp, .inr (2, [.ref xpa, .int (nI b.length)])), (xpa, .inl (g.2.1, 20, .inl f1)), (lz, .inr (4, [.ref lsr, .ref lsp, .int la])), (lsp, .inl (g.2.1, 61, .inl fp)), (x0, .inr (5, [.ref xw, .ref xp, .ref xd, .ref xe, .ref xb, .ref xl, .ref xt])), (xl, .inr (3, [.ref lt, .ref lz, .int (nI sr)]))] H := hP
  have hD : va_D A [(lt, .inr (2, [.ref lta, .int (nI t.length)])), (lta, .inl (g.2.1, 60, .inl f)), (xp, .inr (2, [.ref xpa, .int (nI b.length)])), (xpa, .inl (g.2.1, 20, .inl f1)), (lz, .inr (4, [.ref lsr, .ref lsp, .int la])), (lsp, .inl (g.2.1, 61, .inl fp)), (x0, .inr (5, [.ref xw, .ref xp, .ref xd, .ref xe, .ref xb, .ref xl, .ref xt])), (xl, .inr (3, [.ref lt, .ref lz, .int (nI sr)]))] := hD
  refine si_if_ne (tgt := 9) hx hb zdX_firstRow_4 rfl (by decide) (fun h4 => ?_) (fun h4 => ?_)
  · refine lv_iconst (v := nI 0) hx hb zdX_firstRow_9 (by decide) ?_
    refine lv_istore_n (lv' := [(1, .int (nI 0)), (0, .ref x0)]) hx hb zdX_firstRow_10 rfl hl (Nat.le_of_ble_eq_true rfl) rfl (fun ls hl => ?_)
    have L11 : ∀ (N : Nat) (k : Nat) (H : Heap) (locs : List Loc) (ls : Array Slot), t.length + 1 - k < N → (k ≤ t.length + 1) → (∀ q, q < k → si_oc t b (si_pl t q) = false) → lv_has ls 2 [(0, .ref x0), (1, .int (nI k))] → va_P g.1 vwCl [(x0, .inr (5, [.ref xw, .ref xp, .ref xd, .ref xe, .ref xb, .ref xl, .ref xt])), (xl, .inr (3, [.ref lt, .ref lz, .int (nI sr)])), (lt, .inr (2, [.ref lta, .int (nI t.length)])), (lta, .inl (g.2.1, 60, .inl f)), (xp, .inr (2, [.ref xpa, .int (nI b.length)])), (xpa, .inl (g.2.1, 20, .inl f1)), (lz, .inr (4, [.ref lsr, .ref lsp, .int la])), (lsp, .inl (g.2.1, 61, .inl fp))] H → va_D A [(x0, .inr (5, [.ref xw, .ref xp, .ref xd, .ref xe, .ref xb, .ref xl, .ref xt])), (xl, .inr (3, [.ref lt, .ref lz, .int (nI sr)])), (lt, .inr (2, [.ref lta, .int (nI t.length)])), (lta, .inl (g.2.1, 60, .inl f)), (xp, .inr (2, [.ref xpa, .int (nI b.length)])), (xpa, .inl (g.2.1, 20, .inl f1)), (lz, .inr (4, [.ref lsr, .ref lsp, .int la])), (lsp, .inl (g.2.1, 61, .inl fp))] → va_S A s.heap H locs → W p l e ({ frames := 3, cells := 0, slots := 0, locals := 65 } : Room) s m args below meth c H locs 0 0 Q (F0 m 11 ls []) := by
      intro N
      induction N with
      | zero => intro k H locs ls hMs; exact absurd hMs (Nat.not_lt_zero _)
      | succ N ih11 =>
        intro k H locs ls hMs hk hno hl hP hD hS
        refine lv_iload_n hx hb zdX_firstRow_11 rfl (lv_at hl 1 rfl) ?_
        refine lv_aload_n hx hb zdX_firstRow_12 rfl (lv_at hl 0 rfl) ?_
        refine va_get (D := g.1) (ci := 5) (v := .ref xl) (C := zRX) (T := zTX) (N := 7) hx hb hts ziX hown hK hP 0 rfl rfl 5 (by decide) (hts _ zlX_41) (fun _ h => h) rfl zdX_firstRow_13 ?_
        refine va_getN (D := g.1) (ci := 3) (v := .ref lt) (C := zRR) (T := zTR) (N := 3) hx hb hts ziR hown hK hP 1 rfl rfl 0 (by decide) (va_Nw.use rfl (hN _ zlX_74)) (fun _ h => h) rfl zdX_firstRow_16 ?_
        refine va_getN (D := g.1) (ci := 2) (v := .int (nI t.length)) (C := zRL) (T := zTL) (N := 2) hx hb hts ziL hown hK hP 2 rfl rfl 1 (by decide) (va_Nw.use rfl (hN _ zlX_88)) (fun _ h => h) rfl zdX_firstRow_19 ?_
        refine si_icmp_gt (tgt := 52) hx hb zdX_firstRow_22 rfl (by omega) (by omega) (fun h22 => ?_) (fun h22 => ?_)
        · refine lv_iconst (v := -1) hx hb zdX_firstRow_52 (by decide) ?_
          exact hret (-1) () _ _ _ _ (rfl) (Or.inl ⟨rfl, fun z hz => by have := hno (si_rk t z) (by have := si_rk_le hz; omega); rwa [si_pl_rk hz] at this⟩) (hP.sub [0, 1, 2, 3, 4, 5, 6, 7] rfl) (hD.sub [0, 1, 2, 3, 4, 5, 6, 7] (by decide) rfl) hS zdX_firstRow_53
        · have hpk := (si_pl_ok (t := t) (r := k) (by omega)).1
          refine lv_aload_n hx hb zdX_firstRow_25 rfl (lv_at hl 0 rfl) ?_
          refine lv_aload_n hx hb zdX_firstRow_26 rfl (lv_at hl 0 rfl) ?_
          refine va_get (D := g.1) (ci := 5) (v := .ref xl) (C := zRX) (T := zTX) (N := 7) hx hb hts ziX hown hK hP 0 rfl rfl 5 (by decide) (hts _ zlX_41) (fun _ h => h) rfl zdX_firstRow_27 ?_
          refine va_getN (D := g.1) (ci := 3) (v := .ref lz) (C := zRR) (T := zTR) (N := 3) hx hb hts ziR hown hK hP 1 rfl rfl 1 (by decide) (va_Nw.use rfl (hN _ zlX_98)) (fun _ h => h) rfl zdX_firstRow_30 ?_
          refine va_getN (D := g.1) (ci := 4) (v := .ref lsp) (C := zRS) (T := zTS) (N := 3) hx hb hts ziS hown hK hP 6 rfl rfl 1 (by decide) (va_Nw.use rfl (hN _ zlX_108)) (fun _ h => h) rfl zdX_firstRow_33 ?_
          refine lv_iload_n hx hb zdX_firstRow_36 rfl (lv_at hl 1 rfl) ?_
          refine si_iald (v := nI (si_pl t k)) hx hb hK hP 7 0 rfl rfl (by decide) (by omega) (hsu k (by omega)) zdX_firstRow_37 ?_
          refine (cX_occursAt l g x0 xw xp xd xe xb xl xt lt lz lta xpa sr f f1 t b (si_pl t k) hs1 hs2 hok hf hb1 hf1 hval (hpk)).callV (wr := [(lz, .inr (4, [.ref lsr, .ref lsp, .int la])), (lsp, .inl (g.2.1, 61, .inl fp))]) (As := [.int (nI (si_pl t k))]) (rest := []) hF (si_cV 1 hts zcX_occursAt zlX_114 zimX_occursAt zseX_occursAt ziniX zhX_occursAt ⟨Nat.le_of_ble_eq_true rfl, Nat.le_of_ble_eq_true rfl⟩) hK hN hP hD hS hA [0, 1, 2, 3, 4, 5] [6, 7] rfl rfl (by decide) (by decide) (va_recv (q := (zRX, zTX, 7)) hK hP (ci := 5) (q0 := 0) rfl rfl) rfl hl.1 rfl (Nat.le_of_ble_eq_true rfl) zdX_firstRow_38 ⟨Nat.le_of_ble_eq_true rfl, Nat.le_of_ble_eq_true rfl⟩ rfl rfl (fun r_ _u H locs hq hP hD hS => ?_)
          subst hq
          have hP : va_P g.1 vwCl [(lz, .inr (4, [.ref lsr, .ref lsp, .int la])), (lsp, .inl (g.2.1, 61, .inl fp)), (x0, .inr (5, [.ref xw, .ref xp, .ref xd, .ref xe, .ref xb, .ref xl, .ref xt])), (xl, .inr (3, [.ref lt, .ref lz, .int (nI sr)])), (lt, .inr (2, [.ref lta, .int (nI t.length)])), (lta, .inl (g.2.1, 60, .inl f)), (xp, .inr (2, [.ref xpa, .int (nI b.length)])), (xpa, .inl (g.2.1, 20, .inl f1))] H := hP
          have hD : va_D A [(lz, .inr (4, [.ref lsr, .ref lsp, .int la])), (lsp, .inl (g.2.1, 61, .inl fp)), (x0, .inr (5, [.ref xw, .ref xp, .ref xd, .ref xe, .ref xb, .ref xl, .ref xt])), (xl, .inr (3, [.ref lt, .ref lz, .int (nI sr)])), (lt, .inr (2, [.ref lta, .int (nI t.length)])), (lta, .inl (g.2.1, 60, .inl f)), (xp, .inr (2, [.ref xpa, .int (nI b.length)])), (xpa, .inl (g.2.1, 20, .inl f1))] := hD
          refine si_if_eq (tgt := 46) hx hb zdX_firstRow_41 rfl (si_bn _) (fun h41 => ?_) (fun h41 => ?_)
          · refine lv_iinc (k := 1) (v := nI (k + 1)) (lv' := [(1, .int (nI (k + 1))), (0, .ref x0)]) hx hb zdX_firstRow_46 hl rfl (si_inc _) (Nat.le_of_ble_eq_true rfl) rfl (fun ls hl => ?_)
            refine lv_goto (tgt := 11) hx hb zdX_firstRow_49 rfl ?_
            exact ih11 (k + 1) _ _ _ (by omega) (by omega) (lt_s hno (si_b0 h41)) (lv_sub hl [1, 0] rfl) (hP.sub [2, 3, 4, 5, 6, 7, 0, 1] rfl) (hD.sub [2, 3, 4, 5, 6, 7, 0, 1] (by decide) rfl) hS
          · refine lv_iload_n hx hb zdX_firstRow_44 rfl (lv_at hl 1 rfl) ?_
            exact hret (nI k) () _ _ _ _ (rfl) (Or.inr ⟨k, by omega, rfl, si_b1 h41, hno⟩) (hP.sub [2, 3, 4, 5, 6, 7, 0, 1] rfl) (hD.sub [2, 3, 4, 5, 6, 7, 0, 1] (by decide) rfl) hS zdX_firstRow_45
    exact L11 (t.length + 1 - 0 + 1) 0 _ _ _ (by omega) (by omega) (fun x hx => absurd hx (Nat.not_lt_zero _)) (lv_sub hl [1, 0] rfl) (hP.sub [6, 7, 0, 1, 2, 3, 4, 5] rfl) (hD.sub [6, 7, 0, 1, 2, 3, 4, 5] (by decide) rfl) hS
  · exact absurd h4 (by decide)

set_option maxHeartbeats 4000000 in
set_option maxRecDepth 100000 in
theorem cX_locate_1 (l : Launch) (g : si_G) (x0 xw xp xd xe xb xl xt : Nat) (lt lz : Nat) (lta xpa sr : Nat) (f f1 : Nat → Int32) (t b : List Nat) (q : Int32) (hs1 : 1 ≤ sr) (hs2 : sr ≤ 16) (hok : si_ok t) (hf : si_ln t f) (hb1 : b.length ≤ 20) (hf1 : si_ln b f1) (hval : ∀ z ∈ b, 32 ≤ z ∧ z ≤ 126) : si_Mi (S := Unit) l g vwCl zyX_locate zwX_locate ({ frames := 3, cells := 0, slots := 0, locals := 65 } : Room) [.ref x0, .int q] [(x0, .inr (5, [.ref xw, .ref xp, .ref xd, .ref xe, .ref xb, .ref xl, .ref xt])), (xl, .inr (3, [.ref lt, .ref lz, .int (nI sr)])), (lt, .inr (2, [.ref lta, .int (nI t.length)])), (lta, .inl (g.2.1, 60, .inl f)), (xp, .inr (2, [.ref xpa, .int (nI b.length)])), (xpa, .inl (g.2.1, 20, .inl f1))] (fun r u => si_lcR t b q r) (fun u => [(x0, .inr (5, [.ref xw, .ref xp, .ref xd, .ref xe, .ref xb, .ref xl, .ref xt])), (xl, .inr (3, [.ref lt, .ref lz, .int (nI sr)])), (lt, .inr (2, [.ref lta, .int (nI t.length)])), (lta, .inl (g.2.1, 60, .inl f)), (xp, .inr (2, [.ref xpa, .int (nI b.length)])), (xpa, .inl (g.2.1, 20, .inl f1))]) := by
  refine si_Mi.of (cc := zkX_locate) (maxL := 4) (by decide) rfl (Nat.le_of_ble_eq_true rfl) ?_
  intro p e s m args below meth c A Q ls hF0 hin hK hN hP hD hA hS hl hret
  obtain ⟨hx, hb, hml, hown, hts0⟩ := hF0
  have hts : ∀ w ∈ si_tbl, w.before args s = true := fun w hw => hts0 w (List.mem_cons_of_mem _ hw)
  have hF : CallFix p m c zkX_locate 4 s args si_tbl zRX := ⟨hx, hb, hml, hown, hts⟩
  have hl : lv_has ls 4 [(0, .ref x0), (1, .int q)] := hl
  have hn := hok.1
  refine lv_aload_n hx hb zdX_locate_0 rfl (lv_at hl 0 rfl) ?_
  refine (cX_hasLoaded_1 l g x0 xw xp xd xe xb xl xt lt lz sr (by omega)).callV (wr := [(lt, .inr (2, [.ref lta, .int (nI t.length)])), (lta, .inl (g.2.1, 60, .inl f)), (xp, .inr (2, [.ref xpa, .int (nI b.length)])), (xpa, .inl (g.2.1, 20, .inl f1))]) (As := []) (rest := []) hF (si_cV 0 hts zcX_hasLoaded zlX_85 zimX_hasLoaded zseX_hasLoaded ziniX zhX_hasLoaded ⟨Nat.le_of_ble_eq_true rfl, Nat.le_of_ble_eq_true rfl⟩) hK hN hP hD hS hA [0, 1] [2, 3, 4, 5] rfl rfl (by decide) (by decide) (va_recv (q := (zRX, zTX, 7)) hK hP (ci := 5) (q0 := 0) rfl rfl) rfl hl.1 rfl (Nat.le_of_ble_eq_true rfl) zdX_locate_1 ⟨Nat.le_of_ble_eq_true rfl, Nat.le_of_ble_eq_true rfl⟩ rfl rfl (fun r_ _u H locs hq hP hD hS => ?_)
  subst hq
  have hP : va_P g.1 vwCl [(lt, .inr (2, [.ref lta, .int (nI t.length)])), (lta, .inl (g.2.1, 60, .inl f)), (xp, .inr (2, [.ref xpa, .int (nI b.length)])), (xpa, .inl (g.2.1, 20, .inl f1)), (x0, .inr (5, [.ref xw, .ref xp, .ref xd, .ref xe, .ref xb, .ref xl, .ref xt])), (xl, .inr (3, [.ref lt, .ref lz, .int (nI sr)]))] H := hP
  have hD : va_D A [(lt, .inr (2, [.ref lta, .int (nI t.length)])), (lta, .inl (g.2.1, 60, .inl f)), (xp, .inr (2, [.ref xpa, .int (nI b.length)])), (xpa, .inl (g.2.1, 20, .inl f1)), (x0, .inr (5, [.ref xw, .ref xp, .ref xd, .ref xe, .ref xb, .ref xl, .ref xt])), (xl, .inr (3, [.ref lt, .ref lz, .int (nI sr)]))] := hD
  refine si_if_eq (tgt := 11) hx hb zdX_locate_4 rfl (by decide) (fun h4 => ?_) (fun h4 => ?_)
  · exact absurd h4 (by decide)
  · refine lv_iload_n hx hb zdX_locate_7 rfl (lv_at hl 1 rfl) ?_
    refine lv_if_ge (tgt := 13) hx hb zdX_locate_8 rfl (fun h8 => ?_) (fun h8 => ?_)
    · obtain ⟨j, hj, rfl⟩ := nI_of (si_ge0 h8)
      refine lv_iconst (v := nI 0) hx hb zdX_locate_13 (by decide) ?_
      refine lv_istore_n (lv' := [(2, .int (nI 0)), (0, .ref x0), (1, .int (nI j))]) hx hb zdX_locate_14 rfl hl (Nat.le_of_ble_eq_true rfl) rfl (fun ls hl => ?_)
      refine lv_iconst (v := nI 0) hx hb zdX_locate_15 (by decide) ?_
      refine lv_istore_n (lv' := [(3, .int (nI 0)), (2, .int (nI 0)), (0, .ref x0), (1, .int (nI j))]) hx hb zdX_locate_16 rfl hl (Nat.le_of_ble_eq_true rfl) rfl (fun ls hl => ?_)
      have L17 : ∀ (N : Nat) (k : Nat) (fo : Nat) (H : Heap) (locs : List Loc) (ls : Array Slot), t.length + 1 - k < N → (k ≤ t.length + 1) → (fo = si_cn k (si_oc t b)) → (fo ≤ j) → lv_has ls 4 [(0, .ref x0), (1, .int (nI j)), (2, .int (nI fo)), (3, .int (nI k))] → va_P g.1 vwCl [(x0, .inr (5, [.ref xw, .ref xp, .ref xd, .ref xe, .ref xb, .ref xl, .ref xt])), (xl, .inr (3, [.ref lt, .ref lz, .int (nI sr)])), (lt, .inr (2, [.ref lta, .int (nI t.length)])), (lta, .inl (g.2.1, 60, .inl f)), (xp, .inr (2, [.ref xpa, .int (nI b.length)])), (xpa, .inl (g.2.1, 20, .inl f1))] H → va_D A [(x0, .inr (5, [.ref xw, .ref xp, .ref xd, .ref xe, .ref xb, .ref xl, .ref xt])), (xl, .inr (3, [.ref lt, .ref lz, .int (nI sr)])), (lt, .inr (2, [.ref lta, .int (nI t.length)])), (lta, .inl (g.2.1, 60, .inl f)), (xp, .inr (2, [.ref xpa, .int (nI b.length)])), (xpa, .inl (g.2.1, 20, .inl f1))] → va_S A s.heap H locs → W p l e ({ frames := 3, cells := 0, slots := 0, locals := 65 } : Room) s m args below meth c H locs 0 0 Q (F0 m 17 ls []) := by
        intro N
        induction N with
        | zero => intro k fo H locs ls hMs; exact absurd hMs (Nat.not_lt_zero _)
        | succ N ih17 =>
          intro k fo H locs ls hMs hk hfo hfj hl hP hD hS
          refine lv_iload_n hx hb zdX_locate_17 rfl (lv_at hl 3 rfl) ?_
          refine lv_aload_n hx hb zdX_locate_18 rfl (lv_at hl 0 rfl) ?_
          refine va_get (D := g.1) (ci := 5) (v := .ref xl) (C := zRX) (T := zTX) (N := 7) hx hb hts ziX hown hK hP 0 rfl rfl 5 (by decide) (hts _ zlX_41) (fun _ h => h) rfl zdX_locate_19 ?_
          refine va_getN (D := g.1) (ci := 3) (v := .ref lt) (C := zRR) (T := zTR) (N := 3) hx hb hts ziR hown hK hP 1 rfl rfl 0 (by decide) (va_Nw.use rfl (hN _ zlX_74)) (fun _ h => h) rfl zdX_locate_22 ?_
          refine va_getN (D := g.1) (ci := 2) (v := .int (nI t.length)) (C := zRL) (T := zTL) (N := 2) hx hb hts ziL hown hK hP 2 rfl rfl 1 (by decide) (va_Nw.use rfl (hN _ zlX_88)) (fun _ h => h) rfl zdX_locate_25 ?_
          refine si_icmp_gt (tgt := 55) hx hb zdX_locate_28 rfl (by omega) (by omega) (fun h28 => ?_) (fun h28 => ?_)
          · refine lv_iconst (v := -1) hx hb zdX_locate_55 (by decide) ?_
            exact hret (-1) () _ _ _ _ (rfl) (Or.inr ⟨j, hj, rfl, Or.inl ⟨rfl, by rw [show t.length + 1 = k by omega, ← hfo]; exact hfj⟩⟩) (hP.sub [0, 1, 2, 3, 4, 5] rfl) (hD.sub [0, 1, 2, 3, 4, 5] (by decide) rfl) hS zdX_locate_56
          · have hfl : fo ≤ k := by rw [hfo]; exact si_cn_le _ _
            refine lv_aload_n hx hb zdX_locate_31 rfl (lv_at hl 0 rfl) ?_
            refine lv_iload_n hx hb zdX_locate_32 rfl (lv_at hl 3 rfl) ?_
            refine (cX_occursAt l g x0 xw xp xd xe xb xl xt lt lz lta xpa sr f f1 t b k hs1 hs2 hok hf hb1 hf1 hval (by omega)).callV (wr := []) (As := [.int (nI k)]) (rest := []) hF (si_cV 1 hts zcX_occursAt zlX_114 zimX_occursAt zseX_occursAt ziniX zhX_occursAt ⟨Nat.le_of_ble_eq_true rfl, Nat.le_of_ble_eq_true rfl⟩) hK hN hP hD hS hA [0, 1, 2, 3, 4, 5] [] rfl rfl (by decide) (by decide) (va_recv (q := (zRX, zTX, 7)) hK hP (ci := 5) (q0 := 0) rfl rfl) rfl hl.1 rfl (Nat.le_of_ble_eq_true rfl) zdX_locate_33 ⟨Nat.le_of_ble_eq_true rfl, Nat.le_of_ble_eq_true rfl⟩ rfl rfl (fun r_ _u H locs hq hP hD hS => ?_)
            subst hq
            have hP : va_P g.1 vwCl [(x0, .inr (5, [.ref xw, .ref xp, .ref xd, .ref xe, .ref xb, .ref xl, .ref xt])), (xl, .inr (3, [.ref lt, .ref lz, .int (nI sr)])), (lt, .inr (2, [.ref lta, .int (nI t.length)])), (lta, .inl (g.2.1, 60, .inl f)), (xp, .inr (2, [.ref xpa, .int (nI b.length)])), (xpa, .inl (g.2.1, 20, .inl f1))] H := hP
            have hD : va_D A [(x0, .inr (5, [.ref xw, .ref xp, .ref xd, .ref xe, .ref xb, .ref xl, .ref xt])), (xl, .inr (3, [.ref lt, .ref lz, .int (nI sr)])), (lt, .inr (2, [.ref lta, .int (nI t.length)])), (lta, .inl (g.2.1, 60, .inl f)), (xp, .inr (2, [.ref xpa, .int (nI b.length)])), (xpa, .inl (g.2.1, 20, .inl f1))] := hD
            refine si_if_eq (tgt := 49) hx hb zdX_locate_36 rfl (si_bn _) (fun h36 => ?_) (fun h36 => ?_)
            · refine lv_iinc (k := 3) (v := nI (k + 1)) (lv' := [(3, .int (nI (k + 1))), (0, .ref x0), (1, .int (nI j)), (2, .int (nI fo))]) hx hb zdX_locate_49 hl rfl (si_inc _) (Nat.le_of_ble_eq_true rfl) rfl (fun ls hl => ?_)
              refine lv_goto (tgt := 17) hx hb zdX_locate_52 rfl ?_
              exact ih17 (k + 1) fo _ _ _ (by omega) (by omega) (by first | (rw [si_cn_t (si_b1 h36), hfo]; done) | (rw [si_cn_f (si_b0 h36), hfo]; done)) (by omega) (lv_sub hl [1, 2, 3, 0] rfl) (hP.sub [0, 1, 2, 3, 4, 5] rfl) (hD.sub [0, 1, 2, 3, 4, 5] (by decide) rfl) hS
            · refine lv_iload_n hx hb zdX_locate_39 rfl (lv_at hl 2 rfl) ?_
              refine lv_iload_n hx hb zdX_locate_40 rfl (lv_at hl 1 rfl) ?_
              refine si_icmp_ne (tgt := 46) hx hb zdX_locate_41 rfl (by omega) (by omega) (fun h41 => ?_) (fun h41 => ?_)
              · refine lv_iinc (k := 2) (v := nI (fo + 1)) (lv' := [(2, .int (nI (fo + 1))), (0, .ref x0), (1, .int (nI j)), (3, .int (nI k))]) hx hb zdX_locate_46 hl rfl (si_inc _) (Nat.le_of_ble_eq_true rfl) rfl (fun ls hl => ?_)
                refine lv_iinc (k := 3) (v := nI (k + 1)) (lv' := [(3, .int (nI (k + 1))), (2, .int (nI (fo + 1))), (0, .ref x0), (1, .int (nI j))]) hx hb zdX_locate_49 hl rfl (si_inc _) (Nat.le_of_ble_eq_true rfl) rfl (fun ls hl => ?_)
                refine lv_goto (tgt := 17) hx hb zdX_locate_52 rfl ?_
                exact ih17 (k + 1) (fo + 1) _ _ _ (by omega) (by omega) (by first | (rw [si_cn_t (si_b1 h36), hfo]; done) | (rw [si_cn_f (si_b0 h36), hfo]; done)) (by omega) (lv_sub hl [2, 3, 1, 0] rfl) (hP.sub [0, 1, 2, 3, 4, 5] rfl) (hD.sub [0, 1, 2, 3, 4, 5] (by decide) rfl) hS
              · refine lv_iload_n hx hb zdX_locate_44 rfl (lv_at hl 3 rfl) ?_
                exact hret (nI k) () _ _ _ _ (rfl) (Or.inr ⟨j, hj, rfl, Or.inr ⟨k, by omega, rfl, si_b1 h36, by rw [← hfo]; exact h41⟩⟩) (hP.sub [0, 1, 2, 3, 4, 5] rfl) (hD.sub [0, 1, 2, 3, 4, 5] (by decide) rfl) hS zdX_locate_45
      exact L17 (t.length + 1 - 0 + 1) 0 0 _ _ _ (by omega) (by omega) (rfl) (by omega) (lv_sub hl [2, 3, 1, 0] rfl) (hP.sub [4, 5, 0, 1, 2, 3] rfl) (hD.sub [4, 5, 0, 1, 2, 3] (by decide) rfl) hS
    · refine lv_iconst (v := -1) hx hb zdX_locate_11 (by decide) ?_
      exact hret (-1) () _ _ _ _ (rfl) (Or.inl ⟨Int32.not_le.mp h8, rfl⟩) (hP.sub [4, 5, 0, 1, 2, 3] rfl) (hD.sub [4, 5, 0, 1, 2, 3] (by decide) rfl) hS zdX_locate_12
end
section
/-! SelfIndexImage: drawing, reading, loading; words; the variety. Written by wip/draft/p21.py -/
theorem si_bc1 {n : Nat} (hn : n < 2 ^ 64) : lN n - (lN (n / 2) &&& 6148914691236517205) = lN (si_s1 8 n) := by
  have hm : si_m 85 8 = 6148914691236517205 := by decide +kernel
  have h1 : lN (n / 2) &&& 6148914691236517205 = lN (n / 2 &&& 6148914691236517205) := wb_and (by omega) (by decide)
  have h2 : (n / 2 &&& 6148914691236517205) ≤ n := Nat.le_trans Nat.and_le_left (Nat.div_le_self _ _)
  unfold si_s1
  rw [hm, h1, lN_sub h2]
theorem si_s1_lt {n : Nat} (hn : n < 2 ^ 64) : si_s1 8 n < 2 ^ 64 := by unfold si_s1; omega
theorem si_bc2 {n : Nat} (hn : si_s1 8 n < 2 ^ 64) : (lN (si_s1 8 n) &&& 3689348814741910323) + (lN (si_s1 8 n / 4) &&& 3689348814741910323) = lN (si_s2 8 n) := by
  have hm : si_m 51 8 = 3689348814741910323 := by decide +kernel
  have h1 : lN (si_s1 8 n) &&& 3689348814741910323 = lN (si_s1 8 n &&& 3689348814741910323) := wb_and (by omega) (by decide)
  have h2 : lN (si_s1 8 n / 4) &&& 3689348814741910323 = lN (si_s1 8 n / 4 &&& 3689348814741910323) := wb_and (by omega) (by decide)
  unfold si_s2
  rw [hm, h1, h2, lN_add]
theorem si_s2_lt (n : Nat) : si_s2 8 n ≤ 7378697629483820646 := by
  have hm : si_m 51 8 = 3689348814741910323 := by decide +kernel
  unfold si_s2
  rw [hm]
  have h1 : (si_s1 8 n &&& 3689348814741910323) ≤ 3689348814741910323 := Nat.and_le_right
  have h2 : (si_s1 8 n / 4 &&& 3689348814741910323) ≤ 3689348814741910323 := Nat.and_le_right
  omega
theorem si_bc3 (n : Nat) : (lN (si_s2 8 n) + lN (si_s2 8 n / 16)) &&& 1085102592571150095 = lN (si_s3 8 n) := by
  have hm : si_m 15 8 = 1085102592571150095 := by decide +kernel
  have h0 := si_s2_lt n
  have h1 : lN (si_s2 8 n + si_s2 8 n / 16) &&& 1085102592571150095 = lN ((si_s2 8 n + si_s2 8 n / 16) &&& 1085102592571150095) := wb_and (by omega) (by decide)
  unfold si_s3
  rw [hm, lN_add, h1]
theorem si_s3_lt (n : Nat) : si_s3 8 n ≤ 1085102592571150095 := by
  have hm : si_m 15 8 = 1085102592571150095 := by decide +kernel
  unfold si_s3
  rw [hm]
  exact Nat.and_le_right
theorem si_bc7 (n : Nat) : nI n &&& nI 127 = nI (n % 128) := by
  rw [pk_and (nI n) (m := nI 127) 7 (by decide)]
  have h : (nI n).toBitVec.toNat = n % 2 ^ 32 := by
    show (BitVec.ofNat 32 n).toNat = _
    rw [BitVec.toNat_ofNat]
  rw [h]
  congr 1
  omega
theorem si_bi_tb (n i : Nat) (hi : i < 64) : si_bi (lN n) i = si_tb n i := by
  unfold si_bi si_tb
  rw [wb_tb, BitVec.getLsbD_ofNat]
  simp [hi]
/-- of the first k places: the character x stands before one where the pattern stands -/
def si_fK (t a : List Nat) (k x : Nat) : Bool := (List.range k).any (fun p => si_g t p == x && si_oc t a (p + 1))
theorem si_fK_s (t a : List Nat) (k x : Nat) : si_fK t a (k + 1) x = (si_fK t a k x || (si_g t k == x && si_oc t a (k + 1))) := by
  unfold si_fK
  rw [List.range_succ, List.any_append]
  simp
theorem si_vaE {t a : List Nat} (hok : si_ok t) : si_cn 64 (si_fK t a t.length) + si_cn 64 (fun x => si_fK t a t.length (64 + x)) = si_va t a := by
  have h0 : ∀ x, si_fK t a t.length x = true → 32 ≤ x ∧ x ≤ 126 := by
    intro x hx
    unfold si_fK at hx
    obtain ⟨q, hq, h1⟩ := List.any_eq_true.mp hx
    rw [List.mem_range] at hq
    rw [Bool.and_eq_true, beq_iff_eq] at h1
    have := si_ok_at hok hq
    omega
  have e1 := si_cn_app 64 64 (si_fK t a t.length)
  rw [← e1]
  show si_cn 128 (si_fK t a t.length) = _
  have e2 : si_fK t a t.length 127 = false := si_nt (fun z => by have := h0 _ z; omega)
  rw [show (128 : Nat) = 127 + 1 by rfl, si_cn_f e2]
  unfold si_va
  refine si_cn_congr (fun x hx => ?_)
  show si_fK t a t.length x = (decide (32 ≤ x) && si_fK t a t.length x)
  cases hf : si_fK t a t.length x with
  | false => rw [Bool.and_false]
  | true => have := h0 x hf
            simp [this.1]
def si_wq (q : Int32) (f : Nat → Int64) : Int64 := if si_isW q = true then f q.toNatClampNeg else 0
theorem si_wq_t {j : Nat} {f : Nat → Int64} (h : si_isW (nI j) = true) (hj : j < 23) : si_wq (nI j) f = f j := by
  unfold si_wq; rw [if_pos h, nI_clamp (by omega)]
theorem si_wq_f {q : Int32} {f : Nat → Int64} (h : si_isW q = false) : si_wq q f = 0 := if_neg (by rw [h]; decide)
/-- the bit of a word -/
def si_isB (b : Int32) : Bool := decide (¬ b < 0 ∧ b < nI 64)
/-- the only text and rate that the words can be the image of, or that there is none -/
def si_hd (f : Nat → Int64) (hd : Nat) : Prop := f 0 = lN hd ∧ hd < 2 ^ 64
theorem si_is_hd {f : Nat → Int64} {hd : Nat} (h : si_hd f hd) {v : List Nat} {k : Nat} (hv : si_is f v k) : hd = v.length + 256 * k := by
  have h1 := si_is_head hv
  rw [h.1] at h1
  have h2 : (lN hd).toBitVec.toNat = (lN (v.length + 256 * k)).toBitVec.toNat := congrArg (fun z => z.toBitVec.toNat) h1
  have l1 := hv.1.1
  have l2 := hv.2.2.1
  rw [wb_tn h.2, wb_tn (by omega)] at h2
  exact h2
theorem si_is_rate {f : Nat → Int64} {hd : Nat} (h : si_hd f hd) {v : List Nat} {k : Nat} (hv : si_is f v k) : lN hd / 256 = lN k ∧ hd % 256 = v.length := by
  have h1 := si_is_hd h hv
  have l1 := hv.1.1
  have l2 := hv.2.2.1
  refine ⟨?_, by omega⟩
  have h2 : lN hd / lN 256 = lN (hd / 256) := pk_lDiv (by omega) (by decide) (by decide)
  have h3 : hd / 256 = k := by omega
  rw [h3] at h2
  exact h2
theorem si_hd_of (f : Nat → Int64) : ∃ hd, si_hd f hd := by
  obtain ⟨k, h1, h2⟩ := wb_of (f 0)
  exact ⟨k, h2, h1⟩
set_option maxHeartbeats 4000000 in
set_option maxRecDepth 100000 in
/-- bitCount -/
theorem cJ_bitCount (l : Launch) (g : si_G) (n0 : Nat) (hn : n0 < 2 ^ 64) : si_Mi (S := Unit) l g vwCl zyJ_bitCount zwJ_bitCount ({ frames := 0, cells := 0, slots := 0, locals := 0 } : Room) [.long (lN n0)] [] (fun r u => r = nI (si_cn 64 (si_tb n0))) (fun u => []) := by
  refine si_Mi.of (cc := zkJ_bitCount) (maxL := 2) (by decide) rfl (Nat.le_of_ble_eq_true rfl) ?_
  intro p e s m args below meth c A Q ls hF0 hin hK hN hP hD hA hS hl hret
  obtain ⟨hx, hb, hml, hown, hts0⟩ := hF0
  have hts : ∀ w ∈ si_tbl, w.before args s = true := fun w hw => hts0 w (List.mem_cons_of_mem _ hw)
  have hF : CallFix p m c zkJ_bitCount 2 s args si_tbl zRJ := ⟨hx, hb, hml, hown, hts⟩
  have hl : lv_has ls 2 [(0, .long (lN n0))] := hl
  have hs1 := si_s1_lt hn
  have hs2 := si_s2_lt n0
  have hs3 := si_s3_lt n0
  obtain ⟨s4, hs4⟩ : ∃ z, z = si_s3 8 n0 + si_s3 8 n0 / 256 := ⟨_, rfl⟩
  obtain ⟨s5, hs5⟩ : ∃ z, z = s4 + s4 / 65536 := ⟨_, rfl⟩
  obtain ⟨s6, hs6⟩ : ∃ z, z = s5 + s5 / 4294967296 := ⟨_, rfl⟩
  refine lv_lload_n hx hb zdJ_bitCount_0 rfl (lv_at hl 0 rfl) ?_
  refine lv_lload_n hx hb zdJ_bitCount_1 rfl (lv_at hl 0 rfl) ?_
  refine lv_iconst (v := nI 1) hx hb zdJ_bitCount_2 (by decide) ?_
  refine lv_lushr (v := lN (n0 / 2)) hx hb zdJ_bitCount_3 (wb_shr (k := 1) hn (by decide)) ?_
  refine lv_ldc2 (v := 6148914691236517205) hx hb hown (hts (.constantLong zRJ 314 6148914691236517205) (by decide +kernel)) zdJ_bitCount_4 ?_
  refine si_land (v := (lN (n0 / 2)) &&& 6148914691236517205) hx hb zdJ_bitCount_7 (rfl) ?_
  refine si_lsub (v := lN (si_s1 8 n0)) hx hb zdJ_bitCount_8 (si_bc1 hn) ?_
  refine lv_lstore_n (lv' := [(0, .long (lN (si_s1 8 n0)))]) hx hb zdJ_bitCount_9 rfl hl (Nat.le_of_ble_eq_true rfl) rfl (fun ls hl => ?_)
  refine lv_lload_n hx hb zdJ_bitCount_10 rfl (lv_at hl 0 rfl) ?_
  refine lv_ldc2 (v := 3689348814741910323) hx hb hown (hts (.constantLong zRJ 316 3689348814741910323) (by decide +kernel)) zdJ_bitCount_11 ?_
  refine si_land (v := (lN (si_s1 8 n0)) &&& 3689348814741910323) hx hb zdJ_bitCount_14 (rfl) ?_
  refine lv_lload_n hx hb zdJ_bitCount_15 rfl (lv_at hl 0 rfl) ?_
  refine lv_iconst (v := nI 2) hx hb zdJ_bitCount_16 (by decide) ?_
  refine lv_lushr (v := lN (si_s1 8 n0 / 4)) hx hb zdJ_bitCount_17 (wb_shr (k := 2) hs1 (by decide)) ?_
  refine lv_ldc2 (v := 3689348814741910323) hx hb hown (hts (.constantLong zRJ 316 3689348814741910323) (by decide +kernel)) zdJ_bitCount_18 ?_
  refine si_land (v := (lN (si_s1 8 n0 / 4)) &&& 3689348814741910323) hx hb zdJ_bitCount_21 (rfl) ?_
  refine si_ladd (v := lN (si_s2 8 n0)) hx hb zdJ_bitCount_22 (si_bc2 hs1) ?_
  refine lv_lstore_n (lv' := [(0, .long (lN (si_s2 8 n0)))]) hx hb zdJ_bitCount_23 rfl hl (Nat.le_of_ble_eq_true rfl) rfl (fun ls hl => ?_)
  refine lv_lload_n hx hb zdJ_bitCount_24 rfl (lv_at hl 0 rfl) ?_
  refine lv_lload_n hx hb zdJ_bitCount_25 rfl (lv_at hl 0 rfl) ?_
  refine lv_iconst (v := nI 4) hx hb zdJ_bitCount_26 (by decide) ?_
  refine lv_lushr (v := lN (si_s2 8 n0 / 16)) hx hb zdJ_bitCount_27 (wb_shr (k := 4) (by omega) (by decide)) ?_
  refine si_ladd (v := (lN (si_s2 8 n0)) + (lN (si_s2 8 n0 / 16))) hx hb zdJ_bitCount_28 (rfl) ?_
  refine lv_ldc2 (v := 1085102592571150095) hx hb hown (hts (.constantLong zRJ 318 1085102592571150095) (by decide +kernel)) zdJ_bitCount_29 ?_
  refine si_land (v := lN (si_s3 8 n0)) hx hb zdJ_bitCount_32 (si_bc3 n0) ?_
  refine lv_lstore_n (lv' := [(0, .long (lN (si_s3 8 n0)))]) hx hb zdJ_bitCount_33 rfl hl (Nat.le_of_ble_eq_true rfl) rfl (fun ls hl => ?_)
  refine lv_lload_n hx hb zdJ_bitCount_34 rfl (lv_at hl 0 rfl) ?_
  refine lv_lload_n hx hb zdJ_bitCount_35 rfl (lv_at hl 0 rfl) ?_
  refine lv_bipush (v := nI 8) hx hb zdJ_bitCount_36 (by decide) ?_
  refine lv_lushr (v := lN (si_s3 8 n0 / 256)) hx hb zdJ_bitCount_38 (wb_shr (k := 8) (by omega) (by decide)) ?_
  refine si_ladd (v := lN s4) hx hb zdJ_bitCount_39 (by rw [hs4]; exact lN_add _ _) ?_
  refine lv_lstore_n (lv' := [(0, .long (lN s4))]) hx hb zdJ_bitCount_40 rfl hl (Nat.le_of_ble_eq_true rfl) rfl (fun ls hl => ?_)
  refine lv_lload_n hx hb zdJ_bitCount_41 rfl (lv_at hl 0 rfl) ?_
  refine lv_lload_n hx hb zdJ_bitCount_42 rfl (lv_at hl 0 rfl) ?_
  refine lv_bipush (v := nI 16) hx hb zdJ_bitCount_43 (by decide) ?_
  refine lv_lushr (v := lN (s4 / 65536)) hx hb zdJ_bitCount_45 (wb_shr (k := 16) (by omega) (by decide)) ?_
  refine si_ladd (v := lN s5) hx hb zdJ_bitCount_46 (by rw [hs5]; exact lN_add _ _) ?_
  refine lv_lstore_n (lv' := [(0, .long (lN s5))]) hx hb zdJ_bitCount_47 rfl hl (Nat.le_of_ble_eq_true rfl) rfl (fun ls hl => ?_)
  refine lv_lload_n hx hb zdJ_bitCount_48 rfl (lv_at hl 0 rfl) ?_
  refine lv_lload_n hx hb zdJ_bitCount_49 rfl (lv_at hl 0 rfl) ?_
  refine lv_bipush (v := nI 32) hx hb zdJ_bitCount_50 (by decide) ?_
  refine lv_lushr (v := lN (s5 / 4294967296)) hx hb zdJ_bitCount_52 (wb_shr (k := 32) (by omega) (by decide)) ?_
  refine si_ladd (v := lN s6) hx hb zdJ_bitCount_53 (by rw [hs6]; exact lN_add _ _) ?_
  refine lv_lstore_n (lv' := [(0, .long (lN s6))]) hx hb zdJ_bitCount_54 rfl hl (Nat.le_of_ble_eq_true rfl) rfl (fun ls hl => ?_)
  refine lv_lload_n hx hb zdJ_bitCount_55 rfl (lv_at hl 0 rfl) ?_
  refine lv_l2i (v := nI s6) hx hb zdJ_bitCount_56 (lN_i _) ?_
  refine lv_bipush (v := nI 127) hx hb zdJ_bitCount_57 (by decide) ?_
  refine si_iand (v := nI (si_cn 64 (si_tb n0))) hx hb zdJ_bitCount_59 (by rw [si_bc7, si_pop hn hs4 hs5 hs6]) ?_
  exact hret (nI (si_cn 64 (si_tb n0))) () _ _ _ _ (rfl) (rfl) (hP.sub [] rfl) (hD.sub [] (by decide) rfl) hS zdJ_bitCount_60

set_option maxHeartbeats 4000000 in
set_option maxRecDepth 100000 in
theorem cX_variety_0 (l : Launch) (g : si_G) (x0 xw xp xd xe xb xl xt : Nat) (lt lz : Nat)  : si_Mi (S := Unit) l g vwCl zyX_variety zwX_variety ({ frames := 3, cells := 0, slots := 0, locals := 65 } : Room) [.ref x0] [(x0, .inr (5, [.ref xw, .ref xp, .ref xd, .ref xe, .ref xb, .ref xl, .ref xt])), (xl, .inr (3, [.ref lt, .ref lz, .int (-1)]))] (fun r u => r = -1) (fun u => [(x0, .inr (5, [.ref xw, .ref xp, .ref xd, .ref xe, .ref xb, .ref xl, .ref xt])), (xl, .inr (3, [.ref lt, .ref lz, .int (-1)]))]) := by
  refine si_Mi.of (cc := zkX_variety) (maxL := 7) (by decide) rfl (Nat.le_of_ble_eq_true rfl) ?_
  intro p e s m args below meth c A Q ls hF0 hin hK hN hP hD hA hS hl hret
  obtain ⟨hx, hb, hml, hown, hts0⟩ := hF0
  have hts : ∀ w ∈ si_tbl, w.before args s = true := fun w hw => hts0 w (List.mem_cons_of_mem _ hw)
  have hF : CallFix p m c zkX_variety 7 s args si_tbl zRX := ⟨hx, hb, hml, hown, hts⟩
  have hl : lv_has ls 7 [(0, .ref x0)] := hl
  refine lv_aload_n hx hb zdX_variety_0 rfl (lv_at hl 0 rfl) ?_
  refine (cX_hasLoaded_0 l g x0 xw xp xd xe xb xl xt lt lz).callV (wr := []) (As := []) (rest := []) hF (si_cV 0 hts zcX_hasLoaded zlX_85 zimX_hasLoaded zseX_hasLoaded ziniX zhX_hasLoaded ⟨Nat.le_of_ble_eq_true rfl, Nat.le_of_ble_eq_true rfl⟩) hK hN hP hD hS hA [0, 1] [] rfl rfl (by decide) (by decide) (va_recv (q := (zRX, zTX, 7)) hK hP (ci := 5) (q0 := 0) rfl rfl) rfl hl.1 rfl (Nat.le_of_ble_eq_true rfl) zdX_variety_1 ⟨Nat.le_of_ble_eq_true rfl, Nat.le_of_ble_eq_true rfl⟩ rfl rfl (fun r_ _u H locs hq hP hD hS => ?_)
  subst hq
  have hP : va_P g.1 vwCl [(x0, .inr (5, [.ref xw, .ref xp, .ref xd, .ref xe, .ref xb, .ref xl, .ref xt])), (xl, .inr (3, [.ref lt, .ref lz, .int (-1)]))] H := hP
  have hD : va_D A [(x0, .inr (5, [.ref xw, .ref xp, .ref xd, .ref xe, .ref xb, .ref xl, .ref xt])), (xl, .inr (3, [.ref lt, .ref lz, .int (-1)]))] := hD
  refine si_if_ne (tgt := 9) hx hb zdX_variety_4 rfl (by decide) (fun h4 => ?_) (fun h4 => ?_)
  · exact absurd rfl h4
  · refine lv_iconst (v := -1) hx hb zdX_variety_7 (by decide) ?_
    exact hret (-1) () _ _ _ _ (rfl) (rfl) (hP.sub [0, 1] rfl) (hD.sub [0, 1] (by decide) rfl) hS zdX_variety_8

theorem si_vA {t b : List Nat} {k : Nat} {lo : Int64} (hk : 1 ≤ k) (h : ∀ x, x < 64 → si_bi lo x = si_fK t b (k - 1) x) (hoc : si_oc t b k = false) : ∀ x, x < 64 → si_bi lo x = si_fK t b (k + 1 - 1) x := by
  intro x hx
  rw [show k + 1 - 1 = (k - 1) + 1 by omega, si_fK_s, show k - 1 + 1 = k by omega, hoc, Bool.and_false, Bool.or_false]
  exact h x hx
theorem si_vB {t b : List Nat} {k : Nat} {lo : Int64} (hk : 1 ≤ k) (h : ∀ x, x < 64 → si_bi lo x = si_fK t b (k - 1) x) (hoc : si_oc t b k = true) (hlt : si_g t (k - 1) < 64) : ∀ x, x < 64 → si_bi (lo ||| ((1 : Int64) <<< ((nI (si_g t (k - 1))).toInt64 &&& 63))) x = si_fK t b (k + 1 - 1) x := by
  intro x hx
  rw [si_or1 _ hlt, h x hx, show k + 1 - 1 = (k - 1) + 1 by omega, si_fK_s, show k - 1 + 1 = k by omega, hoc, Bool.and_true]
  congr 1
theorem si_vC {t b : List Nat} {k : Nat} {lo : Int64} (hk : 1 ≤ k) (h : ∀ x, x < 64 → si_bi lo x = si_fK t b (k - 1) x) (hge : 64 ≤ si_g t (k - 1)) : ∀ x, x < 64 → si_bi lo x = si_fK t b (k + 1 - 1) x := by
  intro x hx
  have : (si_g t (k - 1) == x) = false := by simp; omega
  rw [show k + 1 - 1 = (k - 1) + 1 by omega, si_fK_s, this, Bool.false_and, Bool.or_false]
  exact h x hx
theorem si_vD {t b : List Nat} {k : Nat} {hi : Int64} (hk : 1 ≤ k) (h : ∀ x, x < 64 → si_bi hi x = si_fK t b (k - 1) (64 + x)) (hoc : si_oc t b k = false) : ∀ x, x < 64 → si_bi hi x = si_fK t b (k + 1 - 1) (64 + x) := by
  intro x hx
  rw [show k + 1 - 1 = (k - 1) + 1 by omega, si_fK_s, show k - 1 + 1 = k by omega, hoc, Bool.and_false, Bool.or_false]
  exact h x hx
theorem si_vE {t b : List Nat} {k : Nat} {hi : Int64} (hk : 1 ≤ k) (h : ∀ x, x < 64 → si_bi hi x = si_fK t b (k - 1) (64 + x)) (hlt : si_g t (k - 1) < 64) : ∀ x, x < 64 → si_bi hi x = si_fK t b (k + 1 - 1) (64 + x) := by
  intro x hx
  have : (si_g t (k - 1) == 64 + x) = false := by simp; omega
  rw [show k + 1 - 1 = (k - 1) + 1 by omega, si_fK_s, this, Bool.false_and, Bool.or_false]
  exact h x hx
theorem si_vF {t b : List Nat} {k : Nat} {hi : Int64} (hk : 1 ≤ k) (h : ∀ x, x < 64 → si_bi hi x = si_fK t b (k - 1) (64 + x)) (hoc : si_oc t b k = true) (hge : 64 ≤ si_g t (k - 1)) (hle : si_g t (k - 1) ≤ 126) : ∀ x, x < 64 → si_bi (hi ||| ((1 : Int64) <<< ((nI (si_g t (k - 1) - 64)).toInt64 &&& 63))) x = si_fK t b (k + 1 - 1) (64 + x) := by
  intro x hx
  rw [si_or1 _ (by omega), h x hx, show k + 1 - 1 = (k - 1) + 1 by omega, si_fK_s, show k - 1 + 1 = k by omega, hoc, Bool.and_true]
  congr 1
  by_cases e : si_g t (k - 1) = 64 + x
  · have : si_g t (k - 1) - 64 = x := by omega
    simp [e]
  · have h1 : ¬ si_g t (k - 1) - 64 = x := by omega
    simp [e, h1]
set_option maxHeartbeats 4000000 in
set_option maxRecDepth 100000 in
theorem cX_variety_1 (l : Launch) (g : si_G) (x0 xw xp xd xe xb xl xt : Nat) (lt lz : Nat) (lta xpa sr : Nat) (f f1 : Nat → Int32) (t b : List Nat) (hs1 : 1 ≤ sr) (hs2 : sr ≤ 16) (hok : si_ok t) (hf : si_ln t f) (hb1 : b.length ≤ 20) (hf1 : si_ln b f1) (hval : ∀ z ∈ b, 32 ≤ z ∧ z ≤ 126) : si_Mi (S := Unit) l g vwCl zyX_variety zwX_variety ({ frames := 3, cells := 0, slots := 0, locals := 65 } : Room) [.ref x0] [(x0, .inr (5, [.ref xw, .ref xp, .ref xd, .ref xe, .ref xb, .ref xl, .ref xt])), (xl, .inr (3, [.ref lt, .ref lz, .int (nI sr)])), (lt, .inr (2, [.ref lta, .int (nI t.length)])), (lta, .inl (g.2.1, 60, .inl f)), (xp, .inr (2, [.ref xpa, .int (nI b.length)])), (xpa, .inl (g.2.1, 20, .inl f1))] (fun r u => r = nI (si_va t b)) (fun u => [(x0, .inr (5, [.ref xw, .ref xp, .ref xd, .ref xe, .ref xb, .ref xl, .ref xt])), (xl, .inr (3, [.ref lt, .ref lz, .int (nI sr)])), (lt, .inr (2, [.ref lta, .int (nI t.length)])), (lta, .inl (g.2.1, 60, .inl f)), (xp, .inr (2, [.ref xpa, .int (nI b.length)])), (xpa, .inl (g.2.1, 20, .inl f1))]) := by
  refine si_Mi.of (cc := zkX_variety) (maxL := 7) (by decide) rfl (Nat.le_of_ble_eq_true rfl) ?_
  intro p e s m args below meth c A Q ls hF0 hin hK hN hP hD hA hS hl hret
  obtain ⟨hx, hb, hml, hown, hts0⟩ := hF0
  have hts : ∀ w ∈ si_tbl, w.before args s = true := fun w hw => hts0 w (List.mem_cons_of_mem _ hw)
  have hF : CallFix p m c zkX_variety 7 s args si_tbl zRX := ⟨hx, hb, hml, hown, hts⟩
  have hl : lv_has ls 7 [(0, .ref x0)] := hl
  have hn := hok.1
  refine lv_aload_n hx hb zdX_variety_0 rfl (lv_at hl 0 rfl) ?_
  refine (cX_hasLoaded_1 l g x0 xw xp xd xe xb xl xt lt lz sr (by omega)).callV (wr := [(lt, .inr (2, [.ref lta, .int (nI t.length)])), (lta, .inl (g.2.1, 60, .inl f)), (xp, .inr (2, [.ref xpa, .int (nI b.length)])), (xpa, .inl (g.2.1, 20, .inl f1))]) (As := []) (rest := []) hF (si_cV 0 hts zcX_hasLoaded zlX_85 zimX_hasLoaded zseX_hasLoaded ziniX zhX_hasLoaded ⟨Nat.le_of_ble_eq_true rfl, Nat.le_of_ble_eq_true rfl⟩) hK hN hP hD hS hA [0, 1] [2, 3, 4, 5] rfl rfl (by decide) (by decide) (va_recv (q := (zRX, zTX, 7)) hK hP (ci := 5) (q0 := 0) rfl rfl) rfl hl.1 rfl (Nat.le_of_ble_eq_true rfl) zdX_variety_1 ⟨Nat.le_of_ble_eq_true rfl, Nat.le_of_ble_eq_true rfl⟩ rfl rfl (fun r_ _u H locs hq hP hD hS => ?_)
  subst hq
  have hP : va_P g.1 vwCl [(lt, .inr (2, [.ref lta, .int (nI t.length)])), (lta, .inl (g.2.1, 60, .inl f)), (xp, .inr (2, [.ref xpa, .int (nI b.length)])), (xpa, .inl (g.2.1, 20, .inl f1)), (x0, .inr (5, [.ref xw, .ref xp, .ref xd, .ref xe, .ref xb, .ref xl, .ref xt])), (xl, .inr (3, [.ref lt, .ref lz, .int (nI sr)]))] H := hP
  have hD : va_D A [(lt, .inr (2, [.ref lta, .int (nI t.length)])), (lta, .inl (g.2.1, 60, .inl f)), (xp, .inr (2, [.ref xpa, .int (nI b.length)])), (xpa, .inl (g.2.1, 20, .inl f1)), (x0, .inr (5, [.ref xw, .ref xp, .ref xd, .ref xe, .ref xb, .ref xl, .ref xt])), (xl, .inr (3, [.ref lt, .ref lz, .int (nI sr)]))] := hD
  refine si_if_ne (tgt := 9) hx hb zdX_variety_4 rfl (by decide) (fun h4 => ?_) (fun h4 => ?_)
  · refine lv_lconst (v := 0) hx hb zdX_variety_9 (by decide) ?_
    refine lv_lstore_n (lv' := [(1, .long (0 : Int64)), (0, .ref x0)]) hx hb zdX_variety_10 rfl hl (Nat.le_of_ble_eq_true rfl) rfl (fun ls hl => ?_)
    refine lv_lconst (v := 0) hx hb zdX_variety_11 (by decide) ?_
    refine lv_lstore_n (lv' := [(3, .long (0 : Int64)), (1, .long (0 : Int64)), (0, .ref x0)]) hx hb zdX_variety_12 rfl hl (Nat.le_of_ble_eq_true rfl) rfl (fun ls hl => ?_)
    refine lv_iconst (v := nI 1) hx hb zdX_variety_13 (by decide) ?_
    refine lv_istore (lv' := [(5, .int (nI 1)), (3, .long (0 : Int64)), (1, .long (0 : Int64)), (0, .ref x0)]) hx hb zdX_variety_14 hl (Nat.le_of_ble_eq_true rfl) rfl (fun ls hl => ?_)
    have L16 : ∀ (N : Nat) (k : Nat) (lo : Int64) (hi : Int64) (H : Heap) (locs : List Loc) (ls : Array Slot), t.length + 1 - k < N → (1 ≤ k) → (k ≤ t.length + 1) → (∀ x, x < 64 → si_bi lo x = si_fK t b (k - 1) x) → (∀ x, x < 64 → si_bi hi x = si_fK t b (k - 1) (64 + x)) → lv_has ls 7 [(0, .ref x0), (1, .long lo), (3, .long hi), (5, .int (nI k))] → va_P g.1 vwCl [(x0, .inr (5, [.ref xw, .ref xp, .ref xd, .ref xe, .ref xb, .ref xl, .ref xt])), (xl, .inr (3, [.ref lt, .ref lz, .int (nI sr)])), (lt, .inr (2, [.ref lta, .int (nI t.length)])), (lta, .inl (g.2.1, 60, .inl f)), (xp, .inr (2, [.ref xpa, .int (nI b.length)])), (xpa, .inl (g.2.1, 20, .inl f1))] H → va_D A [(x0, .inr (5, [.ref xw, .ref xp, .ref xd, .ref xe, .ref xb, .ref xl, .ref xt])), (xl, .inr (3, [.ref lt, .ref lz, .int (nI sr)])), (lt, .inr (2, [.ref lta, .int (nI t.length)])), (lta, .inl (g.2.1, 60, .inl f)), (xp, .inr (2, [.ref xpa, .int (nI b.length)])), (xpa, .inl (g.2.1, 20, .inl f1))] → va_S A s.heap H locs → W p l e ({ frames := 3, cells := 0, slots := 0, locals := 65 } : Room) s m args below meth c H locs 0 0 Q (F0 m 16 ls []) := by
      intro N
      induction N with
      | zero => intro k lo hi H locs ls hMs; exact absurd hMs (Nat.not_lt_zero _)
      | succ N ih16 =>
        intro k lo hi H locs ls hMs hk1 hk hlo hhi hl hP hD hS
        refine lv_iload hx hb zdX_variety_16 (lv_at hl 3 rfl) ?_
        refine lv_aload_n hx hb zdX_variety_18 rfl (lv_at hl 0 rfl) ?_
        refine va_get (D := g.1) (ci := 5) (v := .ref xl) (C := zRX) (T := zTX) (N := 7) hx hb hts ziX hown hK hP 0 rfl rfl 5 (by decide) (hts _ zlX_41) (fun _ h => h) rfl zdX_variety_19 ?_
        refine va_getN (D := g.1) (ci := 3) (v := .ref lt) (C := zRR) (T := zTR) (N := 3) hx hb hts ziR hown hK hP 1 rfl rfl 0 (by decide) (va_Nw.use rfl (hN _ zlX_74)) (fun _ h => h) rfl zdX_variety_22 ?_
        refine va_getN (D := g.1) (ci := 2) (v := .int (nI t.length)) (C := zRL) (T := zTL) (N := 2) hx hb hts ziL hown hK hP 2 rfl rfl 1 (by decide) (va_Nw.use rfl (hN _ zlX_88)) (fun _ h => h) rfl zdX_variety_25 ?_
        refine si_icmp_gt (tgt := 89) hx hb zdX_variety_28 rfl (by omega) (by omega) (fun h28 => ?_) (fun h28 => ?_)
        · obtain ⟨nlo, hnlo, rfl⟩ := wb_of lo
          obtain ⟨nhi, hnhi, rfl⟩ := wb_of hi
          have hke : k - 1 = t.length := by omega
          have hva : si_cn 64 (si_tb nlo) + si_cn 64 (si_tb nhi) = si_va t b := by
            rw [← si_vaE hok, ← hke]
            congr 1
            · exact si_cn_congr (fun x hx => by rw [← si_bi_tb _ _ hx, hlo x hx])
            · exact si_cn_congr (fun x hx => by rw [← si_bi_tb _ _ hx, hhi x hx])
          refine lv_lload_n hx hb zdX_variety_89 rfl (lv_at hl 1 rfl) ?_
          refine (cJ_bitCount l g nlo hnlo).callS (wr := [(x0, .inr (5, [.ref xw, .ref xp, .ref xd, .ref xe, .ref xb, .ref xl, .ref xt])), (xl, .inr (3, [.ref lt, .ref lz, .int (nI sr)])), (lt, .inr (2, [.ref lta, .int (nI t.length)])), (lta, .inl (g.2.1, 60, .inl f)), (xp, .inr (2, [.ref xpa, .int (nI b.length)])), (xpa, .inl (g.2.1, 20, .inl f1))]) (As := [.long (lN nlo)]) (rest := []) hF (si_cS 1 hts zcJ_bitCount zlX_117 zstJ_bitCount ziniJ zhJ_bitCount ⟨Nat.le_of_ble_eq_true rfl, Nat.le_of_ble_eq_true rfl⟩) hK hN hP hD hS hA [] [0, 1, 2, 3, 4, 5] rfl rfl (by decide) (by decide) rfl hl.1 rfl (Nat.le_of_ble_eq_true rfl) zdX_variety_90 ⟨Nat.le_of_ble_eq_true rfl, Nat.le_of_ble_eq_true rfl⟩ rfl rfl (fun r_ _u H locs hq hP hD hS => ?_)
          subst hq
          have hP : va_P g.1 vwCl [(x0, .inr (5, [.ref xw, .ref xp, .ref xd, .ref xe, .ref xb, .ref xl, .ref xt])), (xl, .inr (3, [.ref lt, .ref lz, .int (nI sr)])), (lt, .inr (2, [.ref lta, .int (nI t.length)])), (lta, .inl (g.2.1, 60, .inl f)), (xp, .inr (2, [.ref xpa, .int (nI b.length)])), (xpa, .inl (g.2.1, 20, .inl f1))] H := hP
          have hD : va_D A [(x0, .inr (5, [.ref xw, .ref xp, .ref xd, .ref xe, .ref xb, .ref xl, .ref xt])), (xl, .inr (3, [.ref lt, .ref lz, .int (nI sr)])), (lt, .inr (2, [.ref lta, .int (nI t.length)])), (lta, .inl (g.2.1, 60, .inl f)), (xp, .inr (2, [.ref xpa, .int (nI b.length)])), (xpa, .inl (g.2.1, 20, .inl f1))] := hD
          refine lv_lload_n hx hb zdX_variety_93 rfl (lv_at hl 2 rfl) ?_
          refine (cJ_bitCount l g nhi hnhi).callS (wr := [(x0, .inr (5, [.ref xw, .ref xp, .ref xd, .ref xe, .ref xb, .ref xl, .ref xt])), (xl, .inr (3, [.ref lt, .ref lz, .int (nI sr)])), (lt, .inr (2, [.ref lta, .int (nI t.length)])), (lta, .inl (g.2.1, 60, .inl f)), (xp, .inr (2, [.ref xpa, .int (nI b.length)])), (xpa, .inl (g.2.1, 20, .inl f1))]) (As := [.long (lN nhi)]) (rest := [.int (nI (si_cn 64 (si_tb nlo)))]) hF (si_cS 1 hts zcJ_bitCount zlX_117 zstJ_bitCount ziniJ zhJ_bitCount ⟨Nat.le_of_ble_eq_true rfl, Nat.le_of_ble_eq_true rfl⟩) hK hN hP hD hS hA [] [0, 1, 2, 3, 4, 5] rfl rfl (by decide) (by decide) rfl hl.1 rfl (Nat.le_of_ble_eq_true rfl) zdX_variety_94 ⟨Nat.le_of_ble_eq_true rfl, Nat.le_of_ble_eq_true rfl⟩ rfl rfl (fun r_ _u H locs hq hP hD hS => ?_)
          subst hq
          have hP : va_P g.1 vwCl [(x0, .inr (5, [.ref xw, .ref xp, .ref xd, .ref xe, .ref xb, .ref xl, .ref xt])), (xl, .inr (3, [.ref lt, .ref lz, .int (nI sr)])), (lt, .inr (2, [.ref lta, .int (nI t.length)])), (lta, .inl (g.2.1, 60, .inl f)), (xp, .inr (2, [.ref xpa, .int (nI b.length)])), (xpa, .inl (g.2.1, 20, .inl f1))] H := hP
          have hD : va_D A [(x0, .inr (5, [.ref xw, .ref xp, .ref xd, .ref xe, .ref xb, .ref xl, .ref xt])), (xl, .inr (3, [.ref lt, .ref lz, .int (nI sr)])), (lt, .inr (2, [.ref lta, .int (nI t.length)])), (lta, .inl (g.2.1, 60, .inl f)), (xp, .inr (2, [.ref xpa, .int (nI b.length)])), (xpa, .inl (g.2.1, 20, .inl f1))] := hD
          refine si_iadd (v := nI (si_cn 64 (si_tb nlo) + (si_cn 64 (si_tb nhi)))) hx hb zdX_variety_97 (nI_add _ _) ?_
          exact hret (nI (si_cn 64 (si_tb nlo) + (si_cn 64 (si_tb nhi)))) () _ _ _ _ (rfl) (by rw [hva]) (hP.sub [0, 1, 2, 3, 4, 5] rfl) (hD.sub [0, 1, 2, 3, 4, 5] (by decide) rfl) hS zdX_variety_98
        · refine lv_aload_n hx hb zdX_variety_31 rfl (lv_at hl 0 rfl) ?_
          refine lv_iload hx hb zdX_variety_32 (lv_at hl 3 rfl) ?_
          refine (cX_occursAt l g x0 xw xp xd xe xb xl xt lt lz lta xpa sr f f1 t b k hs1 hs2 hok hf hb1 hf1 hval (by omega)).callV (wr := []) (As := [.int (nI k)]) (rest := []) hF (si_cV 1 hts zcX_occursAt zlX_114 zimX_occursAt zseX_occursAt ziniX zhX_occursAt ⟨Nat.le_of_ble_eq_true rfl, Nat.le_of_ble_eq_true rfl⟩) hK hN hP hD hS hA [0, 1, 2, 3, 4, 5] [] rfl rfl (by decide) (by decide) (va_recv (q := (zRX, zTX, 7)) hK hP (ci := 5) (q0 := 0) rfl rfl) rfl hl.1 rfl (Nat.le_of_ble_eq_true rfl) zdX_variety_34 ⟨Nat.le_of_ble_eq_true rfl, Nat.le_of_ble_eq_true rfl⟩ rfl rfl (fun r_ _u H locs hq hP hD hS => ?_)
          subst hq
          have hP : va_P g.1 vwCl [(x0, .inr (5, [.ref xw, .ref xp, .ref xd, .ref xe, .ref xb, .ref xl, .ref xt])), (xl, .inr (3, [.ref lt, .ref lz, .int (nI sr)])), (lt, .inr (2, [.ref lta, .int (nI t.length)])), (lta, .inl (g.2.1, 60, .inl f)), (xp, .inr (2, [.ref xpa, .int (nI b.length)])), (xpa, .inl (g.2.1, 20, .inl f1))] H := hP
          have hD : va_D A [(x0, .inr (5, [.ref xw, .ref xp, .ref xd, .ref xe, .ref xb, .ref xl, .ref xt])), (xl, .inr (3, [.ref lt, .ref lz, .int (nI sr)])), (lt, .inr (2, [.ref lta, .int (nI t.length)])), (lta, .inl (g.2.1, 60, .inl f)), (xp, .inr (2, [.ref xpa, .int (nI b.length)])), (xpa, .inl (g.2.1, 20, .inl f1))] := hD
          refine si_if_eq (tgt := 83) hx hb zdX_variety_37 rfl (si_bn _) (fun h37 => ?_) (fun h37 => ?_)
          · have hoc : si_oc t b k = false := si_b0 h37
            refine lv_iinc (k := 3) (v := nI (k + 1)) (lv' := [(5, .int (nI (k + 1))), (0, .ref x0), (1, .long lo), (3, .long hi)]) hx hb zdX_variety_83 hl rfl (si_inc _) (Nat.le_of_ble_eq_true rfl) rfl (fun ls hl => ?_)
            refine lv_goto (tgt := 16) hx hb zdX_variety_86 rfl ?_
            exact ih16 (k + 1) lo hi _ _ _ (by omega) (by omega) (by omega) (fun x hx => by first | exact si_vA hk1 hlo hoc x hx | exact si_vB hk1 hlo hoc hlt x hx | exact si_vC hk1 hlo hge x hx) (fun x hx => by first | exact si_vD hk1 hhi hoc x hx | exact si_vE hk1 hhi hlt x hx | exact si_vF hk1 hhi hoc hge hg.2 x hx) (lv_sub hl [1, 2, 3, 0] rfl) (hP.sub [0, 1, 2, 3, 4, 5] rfl) (hD.sub [0, 1, 2, 3, 4, 5] (by decide) rfl) hS
          · have hoc : si_oc t b k = true := si_b1 h37
            refine lv_aload_n hx hb zdX_variety_40 rfl (lv_at hl 0 rfl) ?_
            refine va_get (D := g.1) (ci := 5) (v := .ref xl) (C := zRX) (T := zTX) (N := 7) hx hb hts ziX hown hK hP 0 rfl rfl 5 (by decide) (hts _ zlX_41) (fun _ h => h) rfl zdX_variety_41 ?_
            refine va_getN (D := g.1) (ci := 3) (v := .ref lt) (C := zRR) (T := zTR) (N := 3) hx hb hts ziR hown hK hP 1 rfl rfl 0 (by decide) (va_Nw.use rfl (hN _ zlX_74)) (fun _ h => h) rfl zdX_variety_44 ?_
            refine lv_iload hx hb zdX_variety_47 (lv_at hl 3 rfl) ?_
            refine lv_iconst (v := nI 1) hx hb zdX_variety_49 (by decide) ?_
            refine si_isub (v := nI (k - 1)) hx hb zdX_variety_50 (pk_sub (by omega)) ?_
            refine (cL_codeAt l g lt lta 60 t.length f (nI (k - 1)) (nI (si_g t (k - 1))) (by decide) hn (si_ca_n hf (by omega) (by omega))).callV (wr := [(x0, .inr (5, [.ref xw, .ref xp, .ref xd, .ref xe, .ref xb, .ref xl, .ref xt])), (xl, .inr (3, [.ref lt, .ref lz, .int (nI sr)])), (xp, .inr (2, [.ref xpa, .int (nI b.length)])), (xpa, .inl (g.2.1, 20, .inl f1))]) (As := [.int (nI (k - 1))]) (rest := []) hF (si_cV 1 hts zcL_codeAt zlX_94 zimL_codeAt zseL_codeAt ziniL zhL_codeAt ⟨Nat.le_of_ble_eq_true rfl, Nat.le_of_ble_eq_true rfl⟩) hK hN hP hD hS hA [2, 3] [0, 1, 4, 5] rfl rfl (by decide) (by decide) (va_recv (q := (zRL, zTL, 2)) hK hP (ci := 2) (q0 := 2) rfl rfl) rfl hl.1 rfl (Nat.le_of_ble_eq_true rfl) zdX_variety_51 ⟨Nat.le_of_ble_eq_true rfl, Nat.le_of_ble_eq_true rfl⟩ rfl rfl (fun r_ _u H locs hq hP hD hS => ?_)
            subst hq
            have hg := si_ok_at hok (show k - 1 < t.length by omega)
            have hP : va_P g.1 vwCl [(x0, .inr (5, [.ref xw, .ref xp, .ref xd, .ref xe, .ref xb, .ref xl, .ref xt])), (xl, .inr (3, [.ref lt, .ref lz, .int (nI sr)])), (xp, .inr (2, [.ref xpa, .int (nI b.length)])), (xpa, .inl (g.2.1, 20, .inl f1)), (lt, .inr (2, [.ref lta, .int (nI t.length)])), (lta, .inl (g.2.1, 60, .inl f))] H := hP
            have hD : va_D A [(x0, .inr (5, [.ref xw, .ref xp, .ref xd, .ref xe, .ref xb, .ref xl, .ref xt])), (xl, .inr (3, [.ref lt, .ref lz, .int (nI sr)])), (xp, .inr (2, [.ref xpa, .int (nI b.length)])), (xpa, .inl (g.2.1, 20, .inl f1)), (lt, .inr (2, [.ref lta, .int (nI t.length)])), (lta, .inl (g.2.1, 60, .inl f))] := hD
            refine lv_istore (lv' := [(6, .int (nI (si_g t (k - 1)))), (0, .ref x0), (1, .long lo), (3, .long hi), (5, .int (nI k))]) hx hb zdX_variety_54 hl (Nat.le_of_ble_eq_true rfl) rfl (fun ls hl => ?_)
            refine lv_iload hx hb zdX_variety_56 (lv_at hl 0 rfl) ?_
            refine lv_bipush (v := nI 64) hx hb zdX_variety_58 (by decide) ?_
            refine si_icmp_ge (tgt := 73) hx hb zdX_variety_60 rfl (by omega) (by omega) (fun h60 => ?_) (fun h60 => ?_)
            · have hge : 64 ≤ si_g t (k - 1) := h60
              refine lv_lload_n hx hb zdX_variety_73 rfl (lv_at hl 3 rfl) ?_
              refine lv_lconst (v := 1) hx hb zdX_variety_74 (by decide) ?_
              refine lv_iload hx hb zdX_variety_75 (lv_at hl 0 rfl) ?_
              refine lv_bipush (v := nI 64) hx hb zdX_variety_77 (by decide) ?_
              refine si_isub (v := nI ((si_g t (k - 1)) - 64)) hx hb zdX_variety_79 (pk_sub (by omega)) ?_
              refine lv_lshl (v := (1 : Int64) <<< ((nI ((si_g t (k - 1)) - 64)).toInt64 &&& 63)) hx hb zdX_variety_80 (rfl) ?_
              refine si_lor (v := hi ||| ((1 : Int64) <<< ((nI ((si_g t (k - 1)) - 64)).toInt64 &&& 63))) hx hb zdX_variety_81 (rfl) ?_
              refine lv_lstore_n (lv' := [(3, .long (hi ||| ((1 : Int64) <<< ((nI ((si_g t (k - 1)) - 64)).toInt64 &&& 63)))), (6, .int (nI (si_g t (k - 1)))), (0, .ref x0), (1, .long lo), (5, .int (nI k))]) hx hb zdX_variety_82 rfl hl (Nat.le_of_ble_eq_true rfl) rfl (fun ls hl => ?_)
              refine lv_iinc (k := 4) (v := nI (k + 1)) (lv' := [(5, .int (nI (k + 1))), (3, .long (hi ||| ((1 : Int64) <<< ((nI ((si_g t (k - 1)) - 64)).toInt64 &&& 63)))), (6, .int (nI (si_g t (k - 1)))), (0, .ref x0), (1, .long lo)]) hx hb zdX_variety_83 hl rfl (si_inc _) (Nat.le_of_ble_eq_true rfl) rfl (fun ls hl => ?_)
              refine lv_goto (tgt := 16) hx hb zdX_variety_86 rfl ?_
              exact ih16 (k + 1) lo (hi ||| ((1 : Int64) <<< ((nI ((si_g t (k - 1)) - 64)).toInt64 &&& 63))) _ _ _ (by omega) (by omega) (by omega) (fun x hx => by first | exact si_vA hk1 hlo hoc x hx | exact si_vB hk1 hlo hoc hlt x hx | exact si_vC hk1 hlo hge x hx) (fun x hx => by first | exact si_vD hk1 hhi hoc x hx | exact si_vE hk1 hhi hlt x hx | exact si_vF hk1 hhi hoc hge hg.2 x hx) (lv_sub hl [3, 4, 1, 0] rfl) (hP.sub [0, 1, 4, 5, 2, 3] rfl) (hD.sub [0, 1, 4, 5, 2, 3] (by decide) rfl) hS
            · have hlt : si_g t (k - 1) < 64 := h60
              refine lv_lload_n hx hb zdX_variety_63 rfl (lv_at hl 2 rfl) ?_
              refine lv_lconst (v := 1) hx hb zdX_variety_64 (by decide) ?_
              refine lv_iload hx hb zdX_variety_65 (lv_at hl 0 rfl) ?_
              refine lv_lshl (v := (1 : Int64) <<< ((nI (si_g t (k - 1))).toInt64 &&& 63)) hx hb zdX_variety_67 (rfl) ?_
              refine si_lor (v := lo ||| ((1 : Int64) <<< ((nI (si_g t (k - 1))).toInt64 &&& 63))) hx hb zdX_variety_68 (rfl) ?_
              refine lv_lstore_n (lv' := [(1, .long (lo ||| ((1 : Int64) <<< ((nI (si_g t (k - 1))).toInt64 &&& 63)))), (6, .int (nI (si_g t (k - 1)))), (0, .ref x0), (3, .long hi), (5, .int (nI k))]) hx hb zdX_variety_69 rfl hl (Nat.le_of_ble_eq_true rfl) rfl (fun ls hl => ?_)
              refine lv_goto (tgt := 83) hx hb zdX_variety_70 rfl ?_
              refine lv_iinc (k := 4) (v := nI (k + 1)) (lv' := [(5, .int (nI (k + 1))), (1, .long (lo ||| ((1 : Int64) <<< ((nI (si_g t (k - 1))).toInt64 &&& 63)))), (6, .int (nI (si_g t (k - 1)))), (0, .ref x0), (3, .long hi)]) hx hb zdX_variety_83 hl rfl (si_inc _) (Nat.le_of_ble_eq_true rfl) rfl (fun ls hl => ?_)
              refine lv_goto (tgt := 16) hx hb zdX_variety_86 rfl ?_
              exact ih16 (k + 1) (lo ||| ((1 : Int64) <<< ((nI (si_g t (k - 1))).toInt64 &&& 63))) hi _ _ _ (by omega) (by omega) (by omega) (fun x hx => by first | exact si_vA hk1 hlo hoc x hx | exact si_vB hk1 hlo hoc hlt x hx | exact si_vC hk1 hlo hge x hx) (fun x hx => by first | exact si_vD hk1 hhi hoc x hx | exact si_vE hk1 hhi hlt x hx | exact si_vF hk1 hhi hoc hge hg.2 x hx) (lv_sub hl [3, 1, 4, 0] rfl) (hP.sub [0, 1, 4, 5, 2, 3] rfl) (hD.sub [0, 1, 4, 5, 2, 3] (by decide) rfl) hS
    exact L16 (t.length + 1 - 1 + 1) 1 (0 : Int64) (0 : Int64) _ _ _ (by omega) (by omega) (by omega) (fun x _ => si_bi_0 x) (fun x _ => si_bi_0 x) (lv_sub hl [3, 2, 1, 0] rfl) (hP.sub [4, 5, 0, 1, 2, 3] rfl) (hD.sub [4, 5, 0, 1, 2, 3] (by decide) rfl) hS
  · exact absurd h4 (by decide)
end
section
/-! SelfIndexImage: writing, words, drawing, reading, loading. Written by wip/draft/p22.py -/

set_option maxHeartbeats 4000000 in
set_option maxRecDepth 100000 in
/-- write -/
theorem cX_write (l : Launch) (g : si_G) (x0 xw xp xd xe xb xl xt : Nat) (xwa : Nat) (f : Nat → Int32) (sz : Nat) (q : Int32) (hsz : sz ≤ 60) : si_Mi (S := (Nat → Int32) × Nat) l g vwCl zyX_write zwX_write ({ frames := 1, cells := 0, slots := 0, locals := 21 } : Room) [.ref x0, .int q] [(x0, .inr (5, [.ref xw, .ref xp, .ref xd, .ref xe, .ref xb, .ref xl, .ref xt])), (xw, .inr (2, [.ref xwa, .int (nI sz)])), (xwa, .inl (g.2.1, 60, .inl f))] (fun r u => r = nI (decide (si_ch q ∧ sz < 60)).toNat ∧ (decide (si_ch q ∧ sz < 60) = true → u.1 = upd f sz q ∧ u.2 = sz + 1) ∧ (decide (si_ch q ∧ sz < 60) = false → u.1 = f ∧ u.2 = sz)) (fun u => [(x0, .inr (5, [.ref xw, .ref xp, .ref xd, .ref xe, .ref xb, .ref xl, .ref xt])), (xw, .inr (2, [.ref xwa, .int (nI u.2)])), (xwa, .inl (g.2.1, 60, .inl u.1))]) := by
  refine si_Mi.of (cc := zkX_write) (maxL := 2) (by decide) rfl (Nat.le_of_ble_eq_true rfl) ?_
  intro p e s m args below meth c A Q ls hF0 hin hK hN hP hD hA hS hl hret
  obtain ⟨hx, hb, hml, hown, hts0⟩ := hF0
  have hts : ∀ w ∈ si_tbl, w.before args s = true := fun w hw => hts0 w (List.mem_cons_of_mem _ hw)
  have hF : CallFix p m c zkX_write 2 s args si_tbl zRX := ⟨hx, hb, hml, hown, hts⟩
  have hl : lv_has ls 2 [(0, .ref x0), (1, .int q)] := hl
  refine lv_aload_n hx hb zdX_write_0 rfl (lv_at hl 0 rfl) ?_
  refine va_get (D := g.1) (ci := 5) (v := .ref xw) (C := zRX) (T := zTX) (N := 7) hx hb hts ziX hown hK hP 0 rfl rfl 0 (by decide) (hts _ zlX_14) (fun _ h => h) rfl zdX_write_1 ?_
  refine lv_iload_n hx hb zdX_write_4 rfl (lv_at hl 1 rfl) ?_
  refine (cL_add l g xw xwa 60 sz f q (by decide) hsz).callV (wr := [(x0, .inr (5, [.ref xw, .ref xp, .ref xd, .ref xe, .ref xb, .ref xl, .ref xt]))]) (As := [.int q]) (rest := []) hF (si_cV 1 hts zcL_add zlX_48 zimL_add zseL_add ziniL zhL_add ⟨Nat.le_of_ble_eq_true rfl, Nat.le_of_ble_eq_true rfl⟩) hK hN hP hD hS hA [1, 2] [0] rfl rfl (by decide) (by decide) (va_recv (q := (zRL, zTL, 2)) hK hP (ci := 2) (q0 := 1) rfl rfl) rfl hl.1 rfl (Nat.le_of_ble_eq_true rfl) zdX_write_5 ⟨Nat.le_of_ble_eq_true rfl, Nat.le_of_ble_eq_true rfl⟩ rfl rfl (fun r_ u_ H locs hq_ hP hD hS => ?_)
  obtain ⟨f2, z2⟩ := u_
  obtain ⟨hq, hq2⟩ := hq_
  subst hq
  have hP : va_P g.1 vwCl [(x0, .inr (5, [.ref xw, .ref xp, .ref xd, .ref xe, .ref xb, .ref xl, .ref xt])), (xw, .inr (2, [.ref xwa, .int (nI z2)])), (xwa, .inl (g.2.1, 60, .inl f2))] H := hP
  have hD : va_D A [(x0, .inr (5, [.ref xw, .ref xp, .ref xd, .ref xe, .ref xb, .ref xl, .ref xt])), (xw, .inr (2, [.ref xwa, .int (nI z2)])), (xwa, .inl (g.2.1, 60, .inl f2))] := hD
  exact hret (nI ((decide (si_ch q ∧ sz < 60)).toNat)) (f2, z2) _ _ _ _ (si_nb _) (⟨rfl, hq2⟩) (hP.sub [0, 1, 2] rfl) (hD.sub [0, 1, 2] (by decide) rfl) hS zdX_write_8

set_option maxHeartbeats 4000000 in
set_option maxRecDepth 100000 in
/-- ask -/
theorem cX_ask (l : Launch) (g : si_G) (x0 xw xp xd xe xb xl xt : Nat) (xpa : Nat) (f : Nat → Int32) (sz : Nat) (q : Int32) (hsz : sz ≤ 20) : si_Mi (S := (Nat → Int32) × Nat) l g vwCl zyX_ask zwX_ask ({ frames := 1, cells := 0, slots := 0, locals := 21 } : Room) [.ref x0, .int q] [(x0, .inr (5, [.ref xw, .ref xp, .ref xd, .ref xe, .ref xb, .ref xl, .ref xt])), (xp, .inr (2, [.ref xpa, .int (nI sz)])), (xpa, .inl (g.2.1, 20, .inl f))] (fun r u => r = nI (decide (si_ch q ∧ sz < 20)).toNat ∧ (decide (si_ch q ∧ sz < 20) = true → u.1 = upd f sz q ∧ u.2 = sz + 1) ∧ (decide (si_ch q ∧ sz < 20) = false → u.1 = f ∧ u.2 = sz)) (fun u => [(x0, .inr (5, [.ref xw, .ref xp, .ref xd, .ref xe, .ref xb, .ref xl, .ref xt])), (xp, .inr (2, [.ref xpa, .int (nI u.2)])), (xpa, .inl (g.2.1, 20, .inl u.1))]) := by
  refine si_Mi.of (cc := zkX_ask) (maxL := 2) (by decide) rfl (Nat.le_of_ble_eq_true rfl) ?_
  intro p e s m args below meth c A Q ls hF0 hin hK hN hP hD hA hS hl hret
  obtain ⟨hx, hb, hml, hown, hts0⟩ := hF0
  have hts : ∀ w ∈ si_tbl, w.before args s = true := fun w hw => hts0 w (List.mem_cons_of_mem _ hw)
  have hF : CallFix p m c zkX_ask 2 s args si_tbl zRX := ⟨hx, hb, hml, hown, hts⟩
  have hl : lv_has ls 2 [(0, .ref x0), (1, .int q)] := hl
  refine lv_aload_n hx hb zdX_ask_0 rfl (lv_at hl 0 rfl) ?_
  refine va_get (D := g.1) (ci := 5) (v := .ref xp) (C := zRX) (T := zTX) (N := 7) hx hb hts ziX hown hK hP 0 rfl rfl 1 (by decide) (hts _ zlX_18) (fun _ h => h) rfl zdX_ask_1 ?_
  refine lv_iload_n hx hb zdX_ask_4 rfl (lv_at hl 1 rfl) ?_
  refine (cL_add l g xp xpa 20 sz f q (by decide) hsz).callV (wr := [(x0, .inr (5, [.ref xw, .ref xp, .ref xd, .ref xe, .ref xb, .ref xl, .ref xt]))]) (As := [.int q]) (rest := []) hF (si_cV 1 hts zcL_add zlX_48 zimL_add zseL_add ziniL zhL_add ⟨Nat.le_of_ble_eq_true rfl, Nat.le_of_ble_eq_true rfl⟩) hK hN hP hD hS hA [1, 2] [0] rfl rfl (by decide) (by decide) (va_recv (q := (zRL, zTL, 2)) hK hP (ci := 2) (q0 := 1) rfl rfl) rfl hl.1 rfl (Nat.le_of_ble_eq_true rfl) zdX_ask_5 ⟨Nat.le_of_ble_eq_true rfl, Nat.le_of_ble_eq_true rfl⟩ rfl rfl (fun r_ u_ H locs hq_ hP hD hS => ?_)
  obtain ⟨f2, z2⟩ := u_
  obtain ⟨hq, hq2⟩ := hq_
  subst hq
  have hP : va_P g.1 vwCl [(x0, .inr (5, [.ref xw, .ref xp, .ref xd, .ref xe, .ref xb, .ref xl, .ref xt])), (xp, .inr (2, [.ref xpa, .int (nI z2)])), (xpa, .inl (g.2.1, 20, .inl f2))] H := hP
  have hD : va_D A [(x0, .inr (5, [.ref xw, .ref xp, .ref xd, .ref xe, .ref xb, .ref xl, .ref xt])), (xp, .inr (2, [.ref xpa, .int (nI z2)])), (xpa, .inl (g.2.1, 20, .inl f2))] := hD
  exact hret (nI ((decide (si_ch q ∧ sz < 20)).toNat)) (f2, z2) _ _ _ _ (si_nb _) (⟨rfl, hq2⟩) (hP.sub [0, 1, 2] rfl) (hD.sub [0, 1, 2] (by decide) rfl) hS zdX_ask_8

set_option maxHeartbeats 4000000 in
set_option maxRecDepth 100000 in
/-- erase -/
theorem cX_erase (l : Launch) (g : si_G) (x0 xw xp xd xe xb xl xt : Nat) (xwa : Nat) (f : Nat → Int32) (sz : Nat)  : si_Mv (S := Unit) l g vwCl zyX_erase zwX_erase ({ frames := 1, cells := 0, slots := 0, locals := 20 } : Room) [.ref x0] [(x0, .inr (5, [.ref xw, .ref xp, .ref xd, .ref xe, .ref xb, .ref xl, .ref xt])), (xw, .inr (2, [.ref xwa, .int (nI sz)])), (xwa, .inl (g.2.1, 60, .inl f))] (fun u => True) (fun u => [(x0, .inr (5, [.ref xw, .ref xp, .ref xd, .ref xe, .ref xb, .ref xl, .ref xt])), (xw, .inr (2, [.ref xwa, .int (nI 0)])), (xwa, .inl (g.2.1, 60, .inl f))]) := by
  refine si_Mv.of (cc := zkX_erase) (maxL := 1) (by decide) rfl (Nat.le_of_ble_eq_true rfl) ?_
  intro p e s m args below meth c A Q ls hF0 hin hK hN hP hD hA hS hl hret
  obtain ⟨hx, hb, hml, hown, hts0⟩ := hF0
  have hts : ∀ w ∈ si_tbl, w.before args s = true := fun w hw => hts0 w (List.mem_cons_of_mem _ hw)
  have hF : CallFix p m c zkX_erase 1 s args si_tbl zRX := ⟨hx, hb, hml, hown, hts⟩
  have hl : lv_has ls 1 [(0, .ref x0)] := hl
  refine lv_aload_n hx hb zdX_erase_0 rfl (lv_at hl 0 rfl) ?_
  refine va_get (D := g.1) (ci := 5) (v := .ref xw) (C := zRX) (T := zTX) (N := 7) hx hb hts ziX hown hK hP 0 rfl rfl 0 (by decide) (hts _ zlX_14) (fun _ h => h) rfl zdX_erase_1 ?_
  refine (cL_clear l g xw xwa 60 f (nI sz)).callV (wr := [(x0, .inr (5, [.ref xw, .ref xp, .ref xd, .ref xe, .ref xb, .ref xl, .ref xt]))]) (As := []) (rest := []) hF (si_cV 0 hts zcL_clear zlX_52 zimL_clear zseL_clear ziniL zhL_clear ⟨Nat.le_of_ble_eq_true rfl, Nat.le_of_ble_eq_true rfl⟩) hK hN hP hD hS hA [1, 2] [0] rfl rfl (by decide) (by decide) (va_recv (q := (zRL, zTL, 2)) hK hP (ci := 2) (q0 := 1) rfl rfl) rfl hl.1 rfl (Nat.le_of_ble_eq_true rfl) zdX_erase_4 ⟨Nat.le_of_ble_eq_true rfl, Nat.le_of_ble_eq_true rfl⟩ rfl rfl (fun _u H locs _hq hP hD hS => ?_)
  have hP : va_P g.1 vwCl [(x0, .inr (5, [.ref xw, .ref xp, .ref xd, .ref xe, .ref xb, .ref xl, .ref xt])), (xw, .inr (2, [.ref xwa, .int (nI 0)])), (xwa, .inl (g.2.1, 60, .inl f))] H := hP
  have hD : va_D A [(x0, .inr (5, [.ref xw, .ref xp, .ref xd, .ref xe, .ref xb, .ref xl, .ref xt])), (xw, .inr (2, [.ref xwa, .int (nI 0)])), (xwa, .inl (g.2.1, 60, .inl f))] := hD
  exact hret () _ _ _ _ (trivial) (hP.sub [0, 1, 2] rfl) (hD.sub [0, 1, 2] (by decide) rfl) hS zdX_erase_7

set_option maxHeartbeats 4000000 in
set_option maxRecDepth 100000 in
/-- back -/
theorem cX_back (l : Launch) (g : si_G) (x0 xw xp xd xe xb xl xt : Nat) (xpa : Nat) (f : Nat → Int32) (sz : Nat) (hsz : sz ≤ 20) : si_Mi (S := Nat) l g vwCl zyX_back zwX_back ({ frames := 1, cells := 0, slots := 0, locals := 20 } : Room) [.ref x0] [(x0, .inr (5, [.ref xw, .ref xp, .ref xd, .ref xe, .ref xb, .ref xl, .ref xt])), (xp, .inr (2, [.ref xpa, .int (nI sz)])), (xpa, .inl (g.2.1, 20, .inl f))] (fun r u => (r = nI 1 ∧ sz ≠ 0 ∧ u = sz - 1) ∨ (r = nI 0 ∧ sz = 0 ∧ u = 0)) (fun u => [(x0, .inr (5, [.ref xw, .ref xp, .ref xd, .ref xe, .ref xb, .ref xl, .ref xt])), (xp, .inr (2, [.ref xpa, .int (nI u)])), (xpa, .inl (g.2.1, 20, .inl f))]) := by
  refine si_Mi.of (cc := zkX_back) (maxL := 1) (by decide) rfl (Nat.le_of_ble_eq_true rfl) ?_
  intro p e s m args below meth c A Q ls hF0 hin hK hN hP hD hA hS hl hret
  obtain ⟨hx, hb, hml, hown, hts0⟩ := hF0
  have hts : ∀ w ∈ si_tbl, w.before args s = true := fun w hw => hts0 w (List.mem_cons_of_mem _ hw)
  have hF : CallFix p m c zkX_back 1 s args si_tbl zRX := ⟨hx, hb, hml, hown, hts⟩
  have hl : lv_has ls 1 [(0, .ref x0)] := hl
  refine lv_aload_n hx hb zdX_back_0 rfl (lv_at hl 0 rfl) ?_
  refine va_get (D := g.1) (ci := 5) (v := .ref xp) (C := zRX) (T := zTX) (N := 7) hx hb hts ziX hown hK hP 0 rfl rfl 1 (by decide) (hts _ zlX_18) (fun _ h => h) rfl zdX_back_1 ?_
  refine (cL_dropLast l g xp xpa 20 sz f (by decide) hsz).callV (wr := [(x0, .inr (5, [.ref xw, .ref xp, .ref xd, .ref xe, .ref xb, .ref xl, .ref xt]))]) (As := []) (rest := []) hF (si_cV 0 hts zcL_dropLast zlX_111 zimL_dropLast zseL_dropLast ziniL zhL_dropLast ⟨Nat.le_of_ble_eq_true rfl, Nat.le_of_ble_eq_true rfl⟩) hK hN hP hD hS hA [1, 2] [0] rfl rfl (by decide) (by decide) (va_recv (q := (zRL, zTL, 2)) hK hP (ci := 2) (q0 := 1) rfl rfl) rfl hl.1 rfl (Nat.le_of_ble_eq_true rfl) zdX_back_4 ⟨Nat.le_of_ble_eq_true rfl, Nat.le_of_ble_eq_true rfl⟩ rfl rfl (fun r_ z2 H locs hq hP hD hS => ?_)
  have hP : va_P g.1 vwCl [(x0, .inr (5, [.ref xw, .ref xp, .ref xd, .ref xe, .ref xb, .ref xl, .ref xt])), (xp, .inr (2, [.ref xpa, .int (nI z2)])), (xpa, .inl (g.2.1, 20, .inl f))] H := hP
  have hD : va_D A [(x0, .inr (5, [.ref xw, .ref xp, .ref xd, .ref xe, .ref xb, .ref xl, .ref xt])), (xp, .inr (2, [.ref xpa, .int (nI z2)])), (xpa, .inl (g.2.1, 20, .inl f))] := hD
  exact hret r_ z2 _ _ _ _ (by rcases hq with ⟨h, _⟩ | ⟨h, _⟩ <;> (rw [h]; rfl)) (hq) (hP.sub [0, 1, 2] rfl) (hD.sub [0, 1, 2] (by decide) rfl) hS zdX_back_7

set_option maxHeartbeats 4000000 in
set_option maxRecDepth 100000 in
/-- word -/
theorem cX_word (l : Launch) (g : si_G) (x0 xw xp xd xe xb xl xt : Nat) (xda : Nat) (fw : Nat → Int64) (q : Int32)  : si_Ml (S := Unit) l g vwCl zyX_word zwX_word ({ frames := 1, cells := 0, slots := 0, locals := 20 } : Room) [.ref x0, .int q] [(x0, .inr (5, [.ref xw, .ref xp, .ref xd, .ref xe, .ref xb, .ref xl, .ref xt])), (xd, .inr (1, [.ref xda])), (xda, .inl (g.2.2, 23, .inr (.inl fw)))] (fun r u => r = si_wq q fw) (fun u => [(x0, .inr (5, [.ref xw, .ref xp, .ref xd, .ref xe, .ref xb, .ref xl, .ref xt])), (xd, .inr (1, [.ref xda])), (xda, .inl (g.2.2, 23, .inr (.inl fw)))]) := by
  refine si_Ml.of (cc := zkX_word) (maxL := 2) (by decide) rfl (Nat.le_of_ble_eq_true rfl) ?_
  intro p e s m args below meth c A Q ls hF0 hin hK hN hP hD hA hS hl hret
  obtain ⟨hx, hb, hml, hown, hts0⟩ := hF0
  have hts : ∀ w ∈ si_tbl, w.before args s = true := fun w hw => hts0 w (List.mem_cons_of_mem _ hw)
  have hF : CallFix p m c zkX_word 2 s args si_tbl zRX := ⟨hx, hb, hml, hown, hts⟩
  have hl : lv_has ls 2 [(0, .ref x0), (1, .int q)] := hl
  refine lv_iload_n hx hb zdX_word_0 rfl (lv_at hl 1 rfl) ?_
  refine (cX_isWord l g q).callS (wr := [(x0, .inr (5, [.ref xw, .ref xp, .ref xd, .ref xe, .ref xb, .ref xl, .ref xt])), (xd, .inr (1, [.ref xda])), (xda, .inl (g.2.2, 23, .inr (.inl fw)))]) (As := [.int q]) (rest := []) hF (si_cS 1 hts zcX_isWord zlX_63 zstX_isWord ziniX zhX_isWord ⟨Nat.le_of_ble_eq_true rfl, Nat.le_of_ble_eq_true rfl⟩) hK hN hP hD hS hA [] [0, 1, 2] rfl rfl (by decide) (by decide) rfl hl.1 rfl (Nat.le_of_ble_eq_true rfl) zdX_word_1 ⟨Nat.le_of_ble_eq_true rfl, Nat.le_of_ble_eq_true rfl⟩ rfl rfl (fun r_ _u H locs hq hP hD hS => ?_)
  subst hq
  have hP : va_P g.1 vwCl [(x0, .inr (5, [.ref xw, .ref xp, .ref xd, .ref xe, .ref xb, .ref xl, .ref xt])), (xd, .inr (1, [.ref xda])), (xda, .inl (g.2.2, 23, .inr (.inl fw)))] H := hP
  have hD : va_D A [(x0, .inr (5, [.ref xw, .ref xp, .ref xd, .ref xe, .ref xb, .ref xl, .ref xt])), (xd, .inr (1, [.ref xda])), (xda, .inl (g.2.2, 23, .inr (.inl fw)))] := hD
  refine si_if_eq (tgt := 19) hx hb zdX_word_4 rfl (si_bn _) (fun h4 => ?_) (fun h4 => ?_)
  · have hd := si_b0 h4
    refine lv_lconst (v := 0) hx hb zdX_word_19 (by decide) ?_
    exact hret (0 : Int64) () _ _ _ _ ((si_wq_f hd).symm) (hP.sub [0, 1, 2] rfl) (hD.sub [0, 1, 2] (by decide) rfl) hS zdX_word_20
  · have hd := si_b1 h4
    obtain ⟨j, hj, rfl⟩ := si_isW_t hd
    refine lv_aload_n hx hb zdX_word_7 rfl (lv_at hl 0 rfl) ?_
    refine va_get (D := g.1) (ci := 5) (v := .ref xd) (C := zRX) (T := zTX) (N := 7) hx hb hts ziX hown hK hP 0 rfl rfl 2 (by decide) (hts _ zlX_24) (fun _ h => h) rfl zdX_word_8 ?_
    refine va_getN (D := g.1) (ci := 1) (v := .ref xda) (C := zRI) (T := zTI) (N := 1) hx hb hts ziI hown hK hP 1 rfl rfl 0 (by decide) (va_Nw.use rfl (hN _ zlX_66)) (fun _ h => h) rfl zdX_word_11 ?_
    refine lv_iload_n hx hb zdX_word_14 rfl (lv_at hl 1 rfl) ?_
    refine si_lald (v := fw j) hx hb hK hP 2 1 rfl rfl (by decide) (by omega) (rfl) zdX_word_15 ?_
    refine lv_goto (tgt := 20) hx hb zdX_word_16 rfl ?_
    exact hret (fw j) () _ _ _ _ ((si_wq_t hd hj).symm) (hP.sub [0, 1, 2] rfl) (hD.sub [0, 1, 2] (by decide) rfl) hS zdX_word_20

set_option maxHeartbeats 4000000 in
set_option maxRecDepth 100000 in
/-- put -/
theorem cX_put (l : Launch) (g : si_G) (x0 xw xp xd xe xb xl xt : Nat) (xda : Nat) (fw : Nat → Int64) (q : Int32) (x : Int64)  : si_Mi (S := Nat → Int64) l g vwCl zyX_put zwX_put ({ frames := 1, cells := 0, slots := 0, locals := 20 } : Room) [.ref x0, .int q, .long x] [(x0, .inr (5, [.ref xw, .ref xp, .ref xd, .ref xe, .ref xb, .ref xl, .ref xt])), (xd, .inr (1, [.ref xda])), (xda, .inl (g.2.2, 23, .inr (.inl fw)))] (fun r u => r = nI (si_isW q).toNat ∧ (si_isW q = true → u = vp_updL fw q.toNatClampNeg x) ∧ (si_isW q = false → u = fw)) (fun u => [(x0, .inr (5, [.ref xw, .ref xp, .ref xd, .ref xe, .ref xb, .ref xl, .ref xt])), (xd, .inr (1, [.ref xda])), (xda, .inl (g.2.2, 23, .inr (.inl u)))]) := by
  refine si_Mi.of (cc := zkX_put) (maxL := 4) (by decide) rfl (Nat.le_of_ble_eq_true rfl) ?_
  intro p e s m args below meth c A Q ls hF0 hin hK hN hP hD hA hS hl hret
  obtain ⟨hx, hb, hml, hown, hts0⟩ := hF0
  have hts : ∀ w ∈ si_tbl, w.before args s = true := fun w hw => hts0 w (List.mem_cons_of_mem _ hw)
  have hF : CallFix p m c zkX_put 4 s args si_tbl zRX := ⟨hx, hb, hml, hown, hts⟩
  have hl : lv_has ls 4 [(0, .ref x0), (1, .int q), (2, .long x)] := hl
  refine lv_iload_n hx hb zdX_put_0 rfl (lv_at hl 1 rfl) ?_
  refine (cX_isWord l g q).callS (wr := [(x0, .inr (5, [.ref xw, .ref xp, .ref xd, .ref xe, .ref xb, .ref xl, .ref xt])), (xd, .inr (1, [.ref xda])), (xda, .inl (g.2.2, 23, .inr (.inl fw)))]) (As := [.int q]) (rest := []) hF (si_cS 1 hts zcX_isWord zlX_63 zstX_isWord ziniX zhX_isWord ⟨Nat.le_of_ble_eq_true rfl, Nat.le_of_ble_eq_true rfl⟩) hK hN hP hD hS hA [] [0, 1, 2] rfl rfl (by decide) (by decide) rfl hl.1 rfl (Nat.le_of_ble_eq_true rfl) zdX_put_1 ⟨Nat.le_of_ble_eq_true rfl, Nat.le_of_ble_eq_true rfl⟩ rfl rfl (fun r_ _u H locs hq hP hD hS => ?_)
  subst hq
  have hP : va_P g.1 vwCl [(x0, .inr (5, [.ref xw, .ref xp, .ref xd, .ref xe, .ref xb, .ref xl, .ref xt])), (xd, .inr (1, [.ref xda])), (xda, .inl (g.2.2, 23, .inr (.inl fw)))] H := hP
  have hD : va_D A [(x0, .inr (5, [.ref xw, .ref xp, .ref xd, .ref xe, .ref xb, .ref xl, .ref xt])), (xd, .inr (1, [.ref xda])), (xda, .inl (g.2.2, 23, .inr (.inl fw)))] := hD
  refine si_if_ne (tgt := 9) hx hb zdX_put_4 rfl (si_bn _) (fun h4 => ?_) (fun h4 => ?_)
  · have hd := si_b1 h4
    obtain ⟨j, hj, rfl⟩ := si_isW_t hd
    refine lv_aload_n hx hb zdX_put_9 rfl (lv_at hl 0 rfl) ?_
    refine va_get (D := g.1) (ci := 5) (v := .ref xd) (C := zRX) (T := zTX) (N := 7) hx hb hts ziX hown hK hP 0 rfl rfl 2 (by decide) (hts _ zlX_24) (fun _ h => h) rfl zdX_put_10 ?_
    refine va_getN (D := g.1) (ci := 1) (v := .ref xda) (C := zRI) (T := zTI) (N := 1) hx hb hts ziI hown hK hP 1 rfl rfl 0 (by decide) (va_Nw.use rfl (hN _ zlX_66)) (fun _ h => h) rfl zdX_put_13 ?_
    refine lv_iload_n hx hb zdX_put_16 rfl (lv_at hl 1 rfl) ?_
    refine lv_lload_n hx hb zdX_put_17 rfl (lv_at hl 2 rfl) ?_
    refine si_last hx hb hK hP hD hS 2 1 rfl rfl (by decide) (by omega) zdX_put_18 (fun H locs hP hD hS => ?_)
    have hP : va_P g.1 vwCl [(x0, .inr (5, [.ref xw, .ref xp, .ref xd, .ref xe, .ref xb, .ref xl, .ref xt])), (xd, .inr (1, [.ref xda])), (xda, .inl (g.2.2, 23, .inr (.inl (vp_updL fw j x))))] H := hP
    have hD : va_D A [(x0, .inr (5, [.ref xw, .ref xp, .ref xd, .ref xe, .ref xb, .ref xl, .ref xt])), (xd, .inr (1, [.ref xda])), (xda, .inl (g.2.2, 23, .inr (.inl (vp_updL fw j x))))] := hD
    refine lv_iconst (v := nI 1) hx hb zdX_put_19 (by decide) ?_
    exact hret (nI 1) (vp_updL fw j x) _ _ _ _ (rfl) (by rw [hd, nI_clamp (by omega)]; exact ⟨rfl, fun _ => rfl, fun z => absurd z (by decide)⟩) (hP.sub [0, 1, 2] rfl) (hD.sub [0, 1, 2] (by decide) rfl) hS zdX_put_20
  · have hd := si_b0 h4
    refine lv_iconst (v := nI 0) hx hb zdX_put_7 (by decide) ?_
    exact hret (nI 0) fw _ _ _ _ (rfl) (by rw [hd]; exact ⟨rfl, fun z => absurd z (by decide), fun _ => rfl⟩) (hP.sub [0, 1, 2] rfl) (hD.sub [0, 1, 2] (by decide) rfl) hS zdX_put_8

set_option maxHeartbeats 4000000 in
set_option maxRecDepth 100000 in
/-- flip -/
theorem cX_flip (l : Launch) (g : si_G) (x0 xw xp xd xe xb xl xt : Nat) (xda : Nat) (fw : Nat → Int64) (q q2 : Int32)  : si_Mi (S := Nat → Int64) l g vwCl zyX_flip zwX_flip ({ frames := 1, cells := 0, slots := 0, locals := 20 } : Room) [.ref x0, .int q, .int q2] [(x0, .inr (5, [.ref xw, .ref xp, .ref xd, .ref xe, .ref xb, .ref xl, .ref xt])), (xd, .inr (1, [.ref xda])), (xda, .inl (g.2.2, 23, .inr (.inl fw)))] (fun r u => r = nI (si_isW q && si_isB q2).toNat ∧ ((si_isW q && si_isB q2) = true → u = vp_updL fw q.toNatClampNeg (fw q.toNatClampNeg ^^^ ((1 : Int64) <<< (q2.toInt64 &&& 63)))) ∧ ((si_isW q && si_isB q2) = false → u = fw)) (fun u => [(x0, .inr (5, [.ref xw, .ref xp, .ref xd, .ref xe, .ref xb, .ref xl, .ref xt])), (xd, .inr (1, [.ref xda])), (xda, .inl (g.2.2, 23, .inr (.inl u)))]) := by
  refine si_Mi.of (cc := zkX_flip) (maxL := 3) (by decide) rfl (Nat.le_of_ble_eq_true rfl) ?_
  intro p e s m args below meth c A Q ls hF0 hin hK hN hP hD hA hS hl hret
  obtain ⟨hx, hb, hml, hown, hts0⟩ := hF0
  have hts : ∀ w ∈ si_tbl, w.before args s = true := fun w hw => hts0 w (List.mem_cons_of_mem _ hw)
  have hF : CallFix p m c zkX_flip 3 s args si_tbl zRX := ⟨hx, hb, hml, hown, hts⟩
  have hl : lv_has ls 3 [(0, .ref x0), (1, .int q), (2, .int q2)] := hl
  refine lv_iload_n hx hb zdX_flip_0 rfl (lv_at hl 1 rfl) ?_
  refine (cX_isWord l g q).callS (wr := [(x0, .inr (5, [.ref xw, .ref xp, .ref xd, .ref xe, .ref xb, .ref xl, .ref xt])), (xd, .inr (1, [.ref xda])), (xda, .inl (g.2.2, 23, .inr (.inl fw)))]) (As := [.int q]) (rest := []) hF (si_cS 1 hts zcX_isWord zlX_63 zstX_isWord ziniX zhX_isWord ⟨Nat.le_of_ble_eq_true rfl, Nat.le_of_ble_eq_true rfl⟩) hK hN hP hD hS hA [] [0, 1, 2] rfl rfl (by decide) (by decide) rfl hl.1 rfl (Nat.le_of_ble_eq_true rfl) zdX_flip_1 ⟨Nat.le_of_ble_eq_true rfl, Nat.le_of_ble_eq_true rfl⟩ rfl rfl (fun r_ _u H locs hq hP hD hS => ?_)
  subst hq
  have hP : va_P g.1 vwCl [(x0, .inr (5, [.ref xw, .ref xp, .ref xd, .ref xe, .ref xb, .ref xl, .ref xt])), (xd, .inr (1, [.ref xda])), (xda, .inl (g.2.2, 23, .inr (.inl fw)))] H := hP
  have hD : va_D A [(x0, .inr (5, [.ref xw, .ref xp, .ref xd, .ref xe, .ref xb, .ref xl, .ref xt])), (xd, .inr (1, [.ref xda])), (xda, .inl (g.2.2, 23, .inr (.inl fw)))] := hD
  refine si_if_eq (tgt := 17) hx hb zdX_flip_4 rfl (si_bn _) (fun h4 => ?_) (fun h4 => ?_)
  · have hd := si_b0 h4
    have hdd : (si_isW q && si_isB q2) = false := by rw [hd, Bool.false_and]
    refine lv_iconst (v := nI 0) hx hb zdX_flip_17 (by decide) ?_
    exact hret (nI 0) fw _ _ _ _ (rfl) (by rw [hdd]; exact ⟨rfl, fun z => absurd z (by decide), fun _ => rfl⟩) (hP.sub [0, 1, 2] rfl) (hD.sub [0, 1, 2] (by decide) rfl) hS zdX_flip_18
  · have hd := si_b1 h4
    obtain ⟨j, hj, rfl⟩ := si_isW_t hd
    refine lv_iload_n hx hb zdX_flip_7 rfl (lv_at hl 2 rfl) ?_
    refine lv_if_lt (tgt := 17) hx hb zdX_flip_8 rfl (fun h8 => ?_) (fun h8 => ?_)
    · have hdd : (si_isW (nI j) && si_isB q2) = false := by
        have : si_isB q2 = false := decide_eq_false (fun z => z.1 h8)
        rw [this, Bool.and_false]
      refine lv_iconst (v := nI 0) hx hb zdX_flip_17 (by decide) ?_
      exact hret (nI 0) fw _ _ _ _ (rfl) (by rw [hdd]; exact ⟨rfl, fun z => absurd z (by decide), fun _ => rfl⟩) (hP.sub [0, 1, 2] rfl) (hD.sub [0, 1, 2] (by decide) rfl) hS zdX_flip_18
    · refine lv_iload_n hx hb zdX_flip_11 rfl (lv_at hl 2 rfl) ?_
      refine lv_bipush (v := nI 64) hx hb zdX_flip_12 (by decide) ?_
      refine lv_icmp_lt (tgt := 19) hx hb zdX_flip_14 rfl (fun h14 => ?_) (fun h14 => ?_)
      · have hdd : (si_isW (nI j) && si_isB q2) = true := by
          have : si_isB q2 = true := decide_eq_true ⟨h8, h14⟩
          rw [hd, this]; rfl
        refine lv_aload_n hx hb zdX_flip_19 rfl (lv_at hl 0 rfl) ?_
        refine va_get (D := g.1) (ci := 5) (v := .ref xd) (C := zRX) (T := zTX) (N := 7) hx hb hts ziX hown hK hP 0 rfl rfl 2 (by decide) (hts _ zlX_24) (fun _ h => h) rfl zdX_flip_20 ?_
        refine va_getN (D := g.1) (ci := 1) (v := .ref xda) (C := zRI) (T := zTI) (N := 1) hx hb hts ziI hown hK hP 1 rfl rfl 0 (by decide) (va_Nw.use rfl (hN _ zlX_66)) (fun _ h => h) rfl zdX_flip_23 ?_
        refine lv_iload_n hx hb zdX_flip_26 rfl (lv_at hl 1 rfl) ?_
        refine lv_dup2_11 hx hb zdX_flip_27 rfl rfl ?_
        refine si_lald (v := fw j) hx hb hK hP 2 1 rfl rfl (by decide) (by omega) (rfl) zdX_flip_28 ?_
        refine lv_lconst (v := 1) hx hb zdX_flip_29 (by decide) ?_
        refine lv_iload_n hx hb zdX_flip_30 rfl (lv_at hl 2 rfl) ?_
        refine lv_lshl (v := (1 : Int64) <<< (q2.toInt64 &&& 63)) hx hb zdX_flip_31 (rfl) ?_
        refine si_lxor (v := (fw j) ^^^ ((1 : Int64) <<< (q2.toInt64 &&& 63))) hx hb zdX_flip_32 (rfl) ?_
        refine si_last hx hb hK hP hD hS 2 1 rfl rfl (by decide) (by omega) zdX_flip_33 (fun H locs hP hD hS => ?_)
        have hP : va_P g.1 vwCl [(x0, .inr (5, [.ref xw, .ref xp, .ref xd, .ref xe, .ref xb, .ref xl, .ref xt])), (xd, .inr (1, [.ref xda])), (xda, .inl (g.2.2, 23, .inr (.inl (vp_updL fw j ((fw j) ^^^ ((1 : Int64) <<< (q2.toInt64 &&& 63)))))))] H := hP
        have hD : va_D A [(x0, .inr (5, [.ref xw, .ref xp, .ref xd, .ref xe, .ref xb, .ref xl, .ref xt])), (xd, .inr (1, [.ref xda])), (xda, .inl (g.2.2, 23, .inr (.inl (vp_updL fw j ((fw j) ^^^ ((1 : Int64) <<< (q2.toInt64 &&& 63)))))))] := hD
        refine lv_iconst (v := nI 1) hx hb zdX_flip_34 (by decide) ?_
        exact hret (nI 1) (vp_updL fw j (fw j ^^^ ((1 : Int64) <<< (q2.toInt64 &&& 63)))) _ _ _ _ (rfl) (by rw [hdd, nI_clamp (by omega)]; exact ⟨rfl, fun _ => rfl, fun z => absurd z (by decide)⟩) (hP.sub [0, 1, 2] rfl) (hD.sub [0, 1, 2] (by decide) rfl) hS zdX_flip_35
      · have hdd : (si_isW (nI j) && si_isB q2) = false := by
          have : si_isB q2 = false := decide_eq_false (fun z => h14 z.2)
          rw [this, Bool.and_false]
        refine lv_iconst (v := nI 0) hx hb zdX_flip_17 (by decide) ?_
        exact hret (nI 0) fw _ _ _ _ (rfl) (by rw [hdd]; exact ⟨rfl, fun z => absurd z (by decide), fun _ => rfl⟩) (hP.sub [0, 1, 2] rfl) (hD.sub [0, 1, 2] (by decide) rfl) hS zdX_flip_18

set_option maxHeartbeats 4000000 in
set_option maxRecDepth 100000 in
/-- draw -/
theorem cX_draw (l : Launch) (g : si_G) (x0 xw xp xd xe xb xl xt : Nat) (tt tz tsr tsp b1 b2 b3 b4 : Nat) (trt ta ba : Int32) (fr fp fc fo fn ff : Nat → Int32) (h1 a1 h3 a3 : Nat) (f : Nat → Int32) (fw : Nat → Int64) (t : List Nat) (sr : Nat) (hok : si_ok t) (hf : si_ln t f) (hs1 : 1 ≤ sr) (hs2 : sr ≤ 16) : si_Mv (S := (Nat → Int32) × (Nat → Int32) × (Nat → Int32) × (Nat → Int32) × (Nat → Int32) × (Nat → Int64)) l g vwCl zyX_draw zwX_draw ({ frames := 4, cells := 0, slots := 0, locals := 92 } : Room) [.ref x0, .ref h1, .int (nI sr), .ref h3] [(x0, .inr (5, [.ref xw, .ref xp, .ref xd, .ref xe, .ref xb, .ref xl, .ref xt])), (xt, .inr (3, [.ref tt, .ref tz, .int trt])), (h1, .inr (2, [.ref a1, .int (nI t.length)])), (a1, .inl (g.2.1, 60, .inl f)), (tz, .inr (4, [.ref tsr, .ref tsp, .int ta])), (tsr, .inl (g.2.1, 61, .inl fr)), (tsp, .inl (g.2.1, 61, .inl fp)), (xb, .inr (0, [.ref b1, .ref b2, .ref b3, .ref b4, .int ba])), (b1, .inl (g.2.1, 61, .inl fc)), (b2, .inl (g.2.1, 61, .inl fo)), (b3, .inl (g.2.1, 61, .inl fn)), (b4, .inl (g.2.1, 61, .inl ff)), (h3, .inr (1, [.ref a3])), (a3, .inl (g.2.2, 23, .inr (.inl fw)))] (fun u => si_su t u.1 u.2.1 ∧ ∀ k, k < 23 → u.2.2.2.2.2 k = si_im t sr k) (fun u => [(x0, .inr (5, [.ref xw, .ref xp, .ref xd, .ref xe, .ref xb, .ref xl, .ref xt])), (xt, .inr (3, [.ref tt, .ref tz, .int trt])), (h1, .inr (2, [.ref a1, .int (nI t.length)])), (a1, .inl (g.2.1, 60, .inl f)), (tz, .inr (4, [.ref tsr, .ref tsp, .int (nI t.length)])), (tsr, .inl (g.2.1, 61, .inl u.1)), (tsp, .inl (g.2.1, 61, .inl u.2.1)), (xb, .inr (0, [.ref b1, .ref b2, .ref b3, .ref b4, .int (nI t.length)])), (b1, .inl (g.2.1, 61, .inl u.2.2.1)), (b2, .inl (g.2.1, 61, .inl u.2.2.2.1)), (b3, .inl (g.2.1, 61, .inl u.2.2.2.2.1)), (b4, .inl (g.2.1, 61, .inl ff)), (h3, .inr (1, [.ref a3])), (a3, .inl (g.2.2, 23, .inr (.inl u.2.2.2.2.2)))]) := by
  refine si_Mv.of (cc := zkX_draw) (maxL := 4) (by decide) rfl (Nat.le_of_ble_eq_true rfl) ?_
  intro p e s m args below meth c A Q ls hF0 hin hK hN hP hD hA hS hl hret
  obtain ⟨hx, hb, hml, hown, hts0⟩ := hF0
  have hts : ∀ w ∈ si_tbl, w.before args s = true := fun w hw => hts0 w (List.mem_cons_of_mem _ hw)
  have hF : CallFix p m c zkX_draw 4 s args si_tbl zRX := ⟨hx, hb, hml, hown, hts⟩
  have hl : lv_has ls 4 [(0, .ref x0), (1, .ref h1), (2, .int (nI sr)), (3, .ref h3)] := hl
  have hn := hok.1
  refine lv_aload_n hx hb zdX_draw_0 rfl (lv_at hl 0 rfl) ?_
  refine va_get (D := g.1) (ci := 5) (v := .ref xt) (C := zRX) (T := zTX) (N := 7) hx hb hts ziX hown hK hP 0 rfl rfl 6 (by decide) (hts _ zlX_45) (fun _ h => h) rfl zdX_draw_1 ?_
  refine va_getN (D := g.1) (ci := 3) (v := .ref tz) (C := zRR) (T := zTR) (N := 3) hx hb hts ziR hown hK hP 1 rfl rfl 1 (by decide) (va_Nw.use rfl (hN _ zlX_98)) (fun _ h => h) rfl zdX_draw_4 ?_
  refine lv_aload_n hx hb zdX_draw_7 rfl (lv_at hl 1 rfl) ?_
  refine (cS_sort l g tz tsr tsp fr fp ta h1 a1 60 f t (by decide) hn hok hf).callV (wr := [(x0, .inr (5, [.ref xw, .ref xp, .ref xd, .ref xe, .ref xb, .ref xl, .ref xt])), (xt, .inr (3, [.ref tt, .ref tz, .int trt])), (xb, .inr (0, [.ref b1, .ref b2, .ref b3, .ref b4, .int ba])), (b1, .inl (g.2.1, 61, .inl fc)), (b2, .inl (g.2.1, 61, .inl fo)), (b3, .inl (g.2.1, 61, .inl fn)), (b4, .inl (g.2.1, 61, .inl ff)), (h3, .inr (1, [.ref a3])), (a3, .inl (g.2.2, 23, .inr (.inl fw)))]) (As := [.ref h1]) (rest := []) hF (si_cV 1 hts zcS_sort zlX_129 zimS_sort zseS_sort ziniS zhS_sort ⟨Nat.le_of_ble_eq_true rfl, Nat.le_of_ble_eq_true rfl⟩) hK hN hP hD hS hA [4, 5, 6, 2, 3] [0, 1, 7, 8, 9, 10, 11, 12, 13] rfl rfl (by decide) (by decide) (va_recv (q := (zRS, zTS, 3)) hK hP (ci := 4) (q0 := 4) rfl rfl) rfl hl.1 rfl (Nat.le_of_ble_eq_true rfl) zdX_draw_8 ⟨Nat.le_of_ble_eq_true rfl, Nat.le_of_ble_eq_true rfl⟩ rfl rfl (fun u_ H locs hsu hP hD hS => ?_)
  obtain ⟨fr2, fp2⟩ := u_
  have hsu : si_su t fr2 fp2 := hsu
  have hP : va_P g.1 vwCl [(x0, .inr (5, [.ref xw, .ref xp, .ref xd, .ref xe, .ref xb, .ref xl, .ref xt])), (xt, .inr (3, [.ref tt, .ref tz, .int trt])), (xb, .inr (0, [.ref b1, .ref b2, .ref b3, .ref b4, .int ba])), (b1, .inl (g.2.1, 61, .inl fc)), (b2, .inl (g.2.1, 61, .inl fo)), (b3, .inl (g.2.1, 61, .inl fn)), (b4, .inl (g.2.1, 61, .inl ff)), (h3, .inr (1, [.ref a3])), (a3, .inl (g.2.2, 23, .inr (.inl fw))), (tz, .inr (4, [.ref tsr, .ref tsp, .int (nI t.length)])), (tsr, .inl (g.2.1, 61, .inl fr2)), (tsp, .inl (g.2.1, 61, .inl fp2)), (h1, .inr (2, [.ref a1, .int (nI t.length)])), (a1, .inl (g.2.1, 60, .inl f))] H := hP
  have hD : va_D A [(x0, .inr (5, [.ref xw, .ref xp, .ref xd, .ref xe, .ref xb, .ref xl, .ref xt])), (xt, .inr (3, [.ref tt, .ref tz, .int trt])), (xb, .inr (0, [.ref b1, .ref b2, .ref b3, .ref b4, .int ba])), (b1, .inl (g.2.1, 61, .inl fc)), (b2, .inl (g.2.1, 61, .inl fo)), (b3, .inl (g.2.1, 61, .inl fn)), (b4, .inl (g.2.1, 61, .inl ff)), (h3, .inr (1, [.ref a3])), (a3, .inl (g.2.2, 23, .inr (.inl fw))), (tz, .inr (4, [.ref tsr, .ref tsp, .int (nI t.length)])), (tsr, .inl (g.2.1, 61, .inl fr2)), (tsp, .inl (g.2.1, 61, .inl fp2)), (h1, .inr (2, [.ref a1, .int (nI t.length)])), (a1, .inl (g.2.1, 60, .inl f))] := hD
  refine lv_aload_n hx hb zdX_draw_11 rfl (lv_at hl 0 rfl) ?_
  refine va_get (D := g.1) (ci := 5) (v := .ref xb) (C := zRX) (T := zTX) (N := 7) hx hb hts ziX hown hK hP 0 rfl rfl 4 (by decide) (hts _ zlX_34) (fun _ h => h) rfl zdX_draw_12 ?_
  refine lv_aload_n hx hb zdX_draw_15 rfl (lv_at hl 1 rfl) ?_
  refine lv_aload_n hx hb zdX_draw_16 rfl (lv_at hl 0 rfl) ?_
  refine va_get (D := g.1) (ci := 5) (v := .ref xt) (C := zRX) (T := zTX) (N := 7) hx hb hts ziX hown hK hP 0 rfl rfl 6 (by decide) (hts _ zlX_45) (fun _ h => h) rfl zdX_draw_17 ?_
  refine va_getN (D := g.1) (ci := 3) (v := .ref tz) (C := zRR) (T := zTR) (N := 3) hx hb hts ziR hown hK hP 1 rfl rfl 1 (by decide) (va_Nw.use rfl (hN _ zlX_98)) (fun _ h => h) rfl zdX_draw_20 ?_
  refine (cB_takeFrom l g xb b1 b2 b3 b4 tz tsr tsp ba fc fp2 h1 a1 60 f t (by decide) hn hok hf hsu.2).callV (wr := [(x0, .inr (5, [.ref xw, .ref xp, .ref xd, .ref xe, .ref xb, .ref xl, .ref xt])), (xt, .inr (3, [.ref tt, .ref tz, .int trt])), (b2, .inl (g.2.1, 61, .inl fo)), (b3, .inl (g.2.1, 61, .inl fn)), (b4, .inl (g.2.1, 61, .inl ff)), (h3, .inr (1, [.ref a3])), (a3, .inl (g.2.2, 23, .inr (.inl fw))), (tsr, .inl (g.2.1, 61, .inl fr2))]) (As := [.ref h1, .ref tz]) (rest := []) hF (si_cV 2 hts zcB_takeFrom zlX_133 zimB_takeFrom zseB_takeFrom ziniB zhB_takeFrom ⟨Nat.le_of_ble_eq_true rfl, Nat.le_of_ble_eq_true rfl⟩) hK hN hP hD hS hA [2, 3, 12, 13, 9, 11] [0, 1, 4, 5, 6, 7, 8, 10] rfl rfl (by decide) (by decide) (va_recv (q := (zRB, zTB, 5)) hK hP (ci := 0) (q0 := 2) rfl rfl) rfl hl.1 rfl (Nat.le_of_ble_eq_true rfl) zdX_draw_23 ⟨Nat.le_of_ble_eq_true rfl, Nat.le_of_ble_eq_true rfl⟩ rfl rfl (fun fc2 H locs hfc hP hD hS => ?_)
  have hP : va_P g.1 vwCl [(x0, .inr (5, [.ref xw, .ref xp, .ref xd, .ref xe, .ref xb, .ref xl, .ref xt])), (xt, .inr (3, [.ref tt, .ref tz, .int trt])), (b2, .inl (g.2.1, 61, .inl fo)), (b3, .inl (g.2.1, 61, .inl fn)), (b4, .inl (g.2.1, 61, .inl ff)), (h3, .inr (1, [.ref a3])), (a3, .inl (g.2.2, 23, .inr (.inl fw))), (tsr, .inl (g.2.1, 61, .inl fr2)), (xb, .inr (0, [.ref b1, .ref b2, .ref b3, .ref b4, .int (nI t.length)])), (b1, .inl (g.2.1, 61, .inl fc2)), (h1, .inr (2, [.ref a1, .int (nI t.length)])), (a1, .inl (g.2.1, 60, .inl f)), (tz, .inr (4, [.ref tsr, .ref tsp, .int (nI t.length)])), (tsp, .inl (g.2.1, 61, .inl fp2))] H := hP
  have hD : va_D A [(x0, .inr (5, [.ref xw, .ref xp, .ref xd, .ref xe, .ref xb, .ref xl, .ref xt])), (xt, .inr (3, [.ref tt, .ref tz, .int trt])), (b2, .inl (g.2.1, 61, .inl fo)), (b3, .inl (g.2.1, 61, .inl fn)), (b4, .inl (g.2.1, 61, .inl ff)), (h3, .inr (1, [.ref a3])), (a3, .inl (g.2.2, 23, .inr (.inl fw))), (tsr, .inl (g.2.1, 61, .inl fr2)), (xb, .inr (0, [.ref b1, .ref b2, .ref b3, .ref b4, .int (nI t.length)])), (b1, .inl (g.2.1, 61, .inl fc2)), (h1, .inr (2, [.ref a1, .int (nI t.length)])), (a1, .inl (g.2.1, 60, .inl f)), (tz, .inr (4, [.ref tsr, .ref tsp, .int (nI t.length)])), (tsp, .inl (g.2.1, 61, .inl fp2))] := hD
  refine lv_aload_n hx hb zdX_draw_26 rfl (lv_at hl 3 rfl) ?_
  refine lv_aload_n hx hb zdX_draw_27 rfl (lv_at hl 0 rfl) ?_
  refine va_get (D := g.1) (ci := 5) (v := .ref xb) (C := zRX) (T := zTX) (N := 7) hx hb hts ziX hown hK hP 0 rfl rfl 4 (by decide) (hts _ zlX_34) (fun _ h => h) rfl zdX_draw_28 ?_
  refine lv_aload_n hx hb zdX_draw_31 rfl (lv_at hl 0 rfl) ?_
  refine va_get (D := g.1) (ci := 5) (v := .ref xt) (C := zRX) (T := zTX) (N := 7) hx hb hts ziX hown hK hP 0 rfl rfl 6 (by decide) (hts _ zlX_45) (fun _ h => h) rfl zdX_draw_32 ?_
  refine va_getN (D := g.1) (ci := 3) (v := .ref tz) (C := zRR) (T := zTR) (N := 3) hx hb hts ziR hown hK hP 1 rfl rfl 1 (by decide) (va_Nw.use rfl (hN _ zlX_98)) (fun _ h => h) rfl zdX_draw_35 ?_
  refine lv_iload_n hx hb zdX_draw_38 rfl (lv_at hl 2 rfl) ?_
  refine (cI_draw l g h3 a3 xb b1 b2 b3 b4 tz tsr tsp fw fc2 fo fn fr2 fp2 t sr hok hs1 hs2 hfc hsu).callV (wr := [(x0, .inr (5, [.ref xw, .ref xp, .ref xd, .ref xe, .ref xb, .ref xl, .ref xt])), (xt, .inr (3, [.ref tt, .ref tz, .int trt])), (b4, .inl (g.2.1, 61, .inl ff)), (h1, .inr (2, [.ref a1, .int (nI t.length)])), (a1, .inl (g.2.1, 60, .inl f))]) (As := [.ref xb, .ref tz, .int (nI sr)]) (rest := []) hF (si_cV 3 hts zcI_draw zlX_137 zimI_draw zseI_draw ziniI zhI_draw ⟨Nat.le_of_ble_eq_true rfl, Nat.le_of_ble_eq_true rfl⟩) hK hN hP hD hS hA [5, 6, 8, 9, 2, 3, 12, 7, 13] [0, 1, 4, 10, 11] rfl rfl (by decide) (by decide) (va_recv (q := (zRI, zTI, 1)) hK hP (ci := 1) (q0 := 5) rfl rfl) rfl hl.1 rfl (Nat.le_of_ble_eq_true rfl) zdX_draw_39 ⟨Nat.le_of_ble_eq_true rfl, Nat.le_of_ble_eq_true rfl⟩ rfl rfl (fun u_ H locs hw2 hP hD hS => ?_)
  obtain ⟨o2, n2, w2⟩ := u_
  have hP : va_P g.1 vwCl [(x0, .inr (5, [.ref xw, .ref xp, .ref xd, .ref xe, .ref xb, .ref xl, .ref xt])), (xt, .inr (3, [.ref tt, .ref tz, .int trt])), (b4, .inl (g.2.1, 61, .inl ff)), (h1, .inr (2, [.ref a1, .int (nI t.length)])), (a1, .inl (g.2.1, 60, .inl f)), (h3, .inr (1, [.ref a3])), (a3, .inl (g.2.2, 23, .inr (.inl w2))), (xb, .inr (0, [.ref b1, .ref b2, .ref b3, .ref b4, .int (nI t.length)])), (b1, .inl (g.2.1, 61, .inl fc2)), (b2, .inl (g.2.1, 61, .inl o2)), (b3, .inl (g.2.1, 61, .inl n2)), (tz, .inr (4, [.ref tsr, .ref tsp, .int (nI t.length)])), (tsr, .inl (g.2.1, 61, .inl fr2)), (tsp, .inl (g.2.1, 61, .inl fp2))] H := hP
  have hD : va_D A [(x0, .inr (5, [.ref xw, .ref xp, .ref xd, .ref xe, .ref xb, .ref xl, .ref xt])), (xt, .inr (3, [.ref tt, .ref tz, .int trt])), (b4, .inl (g.2.1, 61, .inl ff)), (h1, .inr (2, [.ref a1, .int (nI t.length)])), (a1, .inl (g.2.1, 60, .inl f)), (h3, .inr (1, [.ref a3])), (a3, .inl (g.2.2, 23, .inr (.inl w2))), (xb, .inr (0, [.ref b1, .ref b2, .ref b3, .ref b4, .int (nI t.length)])), (b1, .inl (g.2.1, 61, .inl fc2)), (b2, .inl (g.2.1, 61, .inl o2)), (b3, .inl (g.2.1, 61, .inl n2)), (tz, .inr (4, [.ref tsr, .ref tsp, .int (nI t.length)])), (tsr, .inl (g.2.1, 61, .inl fr2)), (tsp, .inl (g.2.1, 61, .inl fp2))] := hD
  exact hret (fr2, fp2, fc2, o2, n2, w2) _ _ _ _ (⟨hsu, hw2⟩) (hP.sub [0, 1, 3, 4, 11, 12, 13, 7, 8, 9, 10, 2, 5, 6] rfl) (hD.sub [0, 1, 3, 4, 11, 12, 13, 7, 8, 9, 10, 2, 5, 6] (by decide) rfl) hS zdX_draw_42

set_option maxHeartbeats 4000000 in
set_option maxRecDepth 100000 in
/-- build -/
theorem cX_build (l : Launch) (g : si_G) (x0 xw xp xd xe xb xl xt : Nat) (tt tz tsr tsp b1 b2 b3 b4 : Nat) (trt ta ba : Int32) (fr fp fc fo fn ff : Nat → Int32) (xwa xda : Nat) (f : Nat → Int32) (fw : Nat → Int64) (t : List Nat) (q : Int32) (hok : si_ok t) (hf : si_ln t f) : si_Mi (S := (Nat → Int32) × (Nat → Int32) × Int32 × (Nat → Int32) × (Nat → Int32) × (Nat → Int32) × Int32 × (Nat → Int64)) l g vwCl zyX_build zwX_build ({ frames := 5, cells := 0, slots := 0, locals := 115 } : Room) [.ref x0, .int q] [(x0, .inr (5, [.ref xw, .ref xp, .ref xd, .ref xe, .ref xb, .ref xl, .ref xt])), (xt, .inr (3, [.ref tt, .ref tz, .int trt])), (xw, .inr (2, [.ref xwa, .int (nI t.length)])), (xwa, .inl (g.2.1, 60, .inl f)), (tz, .inr (4, [.ref tsr, .ref tsp, .int ta])), (tsr, .inl (g.2.1, 61, .inl fr)), (tsp, .inl (g.2.1, 61, .inl fp)), (xb, .inr (0, [.ref b1, .ref b2, .ref b3, .ref b4, .int ba])), (b1, .inl (g.2.1, 61, .inl fc)), (b2, .inl (g.2.1, 61, .inl fo)), (b3, .inl (g.2.1, 61, .inl fn)), (b4, .inl (g.2.1, 61, .inl ff)), (xd, .inr (1, [.ref xda])), (xda, .inl (g.2.2, 23, .inr (.inl fw)))] (fun r u => r = nI (si_isR q.toInt64).toNat ∧ (si_isR q.toInt64 = true → ∃ sr, 1 ≤ sr ∧ sr ≤ 16 ∧ q = nI sr ∧ ∀ k, k < 23 → u.2.2.2.2.2.2.2 k = si_im t sr k) ∧ (si_isR q.toInt64 = false → u.2.2.2.2.2.2.2 = fw)) (fun u => [(x0, .inr (5, [.ref xw, .ref xp, .ref xd, .ref xe, .ref xb, .ref xl, .ref xt])), (xt, .inr (3, [.ref tt, .ref tz, .int trt])), (xw, .inr (2, [.ref xwa, .int (nI t.length)])), (xwa, .inl (g.2.1, 60, .inl f)), (tz, .inr (4, [.ref tsr, .ref tsp, .int u.2.2.1])), (tsr, .inl (g.2.1, 61, .inl u.1)), (tsp, .inl (g.2.1, 61, .inl u.2.1)), (xb, .inr (0, [.ref b1, .ref b2, .ref b3, .ref b4, .int u.2.2.2.2.2.2.1])), (b1, .inl (g.2.1, 61, .inl u.2.2.2.1)), (b2, .inl (g.2.1, 61, .inl u.2.2.2.2.1)), (b3, .inl (g.2.1, 61, .inl u.2.2.2.2.2.1)), (b4, .inl (g.2.1, 61, .inl ff)), (xd, .inr (1, [.ref xda])), (xda, .inl (g.2.2, 23, .inr (.inl u.2.2.2.2.2.2.2)))]) := by
  refine si_Mi.of (cc := zkX_build) (maxL := 2) (by decide) rfl (Nat.le_of_ble_eq_true rfl) ?_
  intro p e s m args below meth c A Q ls hF0 hin hK hN hP hD hA hS hl hret
  obtain ⟨hx, hb, hml, hown, hts0⟩ := hF0
  have hts : ∀ w ∈ si_tbl, w.before args s = true := fun w hw => hts0 w (List.mem_cons_of_mem _ hw)
  have hF : CallFix p m c zkX_build 2 s args si_tbl zRX := ⟨hx, hb, hml, hown, hts⟩
  have hl : lv_has ls 2 [(0, .ref x0), (1, .int q)] := hl
  refine lv_iload_n hx hb zdX_build_0 rfl (lv_at hl 1 rfl) ?_
  refine lv_i2l (v := q.toInt64) hx hb zdX_build_1 (rfl) ?_
  refine (cX_isRate l g q.toInt64).callS (wr := [(x0, .inr (5, [.ref xw, .ref xp, .ref xd, .ref xe, .ref xb, .ref xl, .ref xt])), (xt, .inr (3, [.ref tt, .ref tz, .int trt])), (xw, .inr (2, [.ref xwa, .int (nI t.length)])), (xwa, .inl (g.2.1, 60, .inl f)), (tz, .inr (4, [.ref tsr, .ref tsp, .int ta])), (tsr, .inl (g.2.1, 61, .inl fr)), (tsp, .inl (g.2.1, 61, .inl fp)), (xb, .inr (0, [.ref b1, .ref b2, .ref b3, .ref b4, .int ba])), (b1, .inl (g.2.1, 61, .inl fc)), (b2, .inl (g.2.1, 61, .inl fo)), (b3, .inl (g.2.1, 61, .inl fn)), (b4, .inl (g.2.1, 61, .inl ff)), (xd, .inr (1, [.ref xda])), (xda, .inl (g.2.2, 23, .inr (.inl fw)))]) (As := [.long q.toInt64]) (rest := []) hF (si_cS 1 hts zcX_isRate zlX_55 zstX_isRate ziniX zhX_isRate ⟨Nat.le_of_ble_eq_true rfl, Nat.le_of_ble_eq_true rfl⟩) hK hN hP hD hS hA [] [0, 1, 2, 3, 4, 5, 6, 7, 8, 9, 10, 11, 12, 13] rfl rfl (by decide) (by decide) rfl hl.1 rfl (Nat.le_of_ble_eq_true rfl) zdX_build_2 ⟨Nat.le_of_ble_eq_true rfl, Nat.le_of_ble_eq_true rfl⟩ rfl rfl (fun r_ _u H locs hq hP hD hS => ?_)
  subst hq
  have hP : va_P g.1 vwCl [(x0, .inr (5, [.ref xw, .ref xp, .ref xd, .ref xe, .ref xb, .ref xl, .ref xt])), (xt, .inr (3, [.ref tt, .ref tz, .int trt])), (xw, .inr (2, [.ref xwa, .int (nI t.length)])), (xwa, .inl (g.2.1, 60, .inl f)), (tz, .inr (4, [.ref tsr, .ref tsp, .int ta])), (tsr, .inl (g.2.1, 61, .inl fr)), (tsp, .inl (g.2.1, 61, .inl fp)), (xb, .inr (0, [.ref b1, .ref b2, .ref b3, .ref b4, .int ba])), (b1, .inl (g.2.1, 61, .inl fc)), (b2, .inl (g.2.1, 61, .inl fo)), (b3, .inl (g.2.1, 61, .inl fn)), (b4, .inl (g.2.1, 61, .inl ff)), (xd, .inr (1, [.ref xda])), (xda, .inl (g.2.2, 23, .inr (.inl fw)))] H := hP
  have hD : va_D A [(x0, .inr (5, [.ref xw, .ref xp, .ref xd, .ref xe, .ref xb, .ref xl, .ref xt])), (xt, .inr (3, [.ref tt, .ref tz, .int trt])), (xw, .inr (2, [.ref xwa, .int (nI t.length)])), (xwa, .inl (g.2.1, 60, .inl f)), (tz, .inr (4, [.ref tsr, .ref tsp, .int ta])), (tsr, .inl (g.2.1, 61, .inl fr)), (tsp, .inl (g.2.1, 61, .inl fp)), (xb, .inr (0, [.ref b1, .ref b2, .ref b3, .ref b4, .int ba])), (b1, .inl (g.2.1, 61, .inl fc)), (b2, .inl (g.2.1, 61, .inl fo)), (b3, .inl (g.2.1, 61, .inl fn)), (b4, .inl (g.2.1, 61, .inl ff)), (xd, .inr (1, [.ref xda])), (xda, .inl (g.2.2, 23, .inr (.inl fw)))] := hD
  refine si_if_ne (tgt := 10) hx hb zdX_build_5 rfl (si_bn _) (fun h5 => ?_) (fun h5 => ?_)
  · have hd := si_b1 h5
    obtain ⟨sr, hs1, hs2, rfl⟩ := si_isRi_t hd
    refine lv_aload_n hx hb zdX_build_10 rfl (lv_at hl 0 rfl) ?_
    refine lv_aload_n hx hb zdX_build_11 rfl (lv_at hl 0 rfl) ?_
    refine va_get (D := g.1) (ci := 5) (v := .ref xw) (C := zRX) (T := zTX) (N := 7) hx hb hts ziX hown hK hP 0 rfl rfl 0 (by decide) (hts _ zlX_14) (fun _ h => h) rfl zdX_build_12 ?_
    refine lv_iload_n hx hb zdX_build_15 rfl (lv_at hl 1 rfl) ?_
    refine lv_aload_n hx hb zdX_build_16 rfl (lv_at hl 0 rfl) ?_
    refine va_get (D := g.1) (ci := 5) (v := .ref xd) (C := zRX) (T := zTX) (N := 7) hx hb hts ziX hown hK hP 0 rfl rfl 2 (by decide) (hts _ zlX_24) (fun _ h => h) rfl zdX_build_17 ?_
    refine (cX_draw l g x0 xw xp xd xe xb xl xt tt tz tsr tsp b1 b2 b3 b4 trt ta ba fr fp fc fo fn ff xw xwa xd xda f fw t sr hok hf hs1 hs2).callV (wr := []) (As := [.ref xw, .int (nI sr), .ref xd]) (rest := []) hF (si_cV 3 hts zcX_draw zlX_59 zimX_draw zseX_draw ziniX zhX_draw ⟨Nat.le_of_ble_eq_true rfl, Nat.le_of_ble_eq_true rfl⟩) hK hN hP hD hS hA [0, 1, 2, 3, 4, 5, 6, 7, 8, 9, 10, 11, 12, 13] [] rfl rfl (by decide) (by decide) (va_recv (q := (zRX, zTX, 7)) hK hP (ci := 5) (q0 := 0) rfl rfl) rfl hl.1 rfl (Nat.le_of_ble_eq_true rfl) zdX_build_20 ⟨Nat.le_of_ble_eq_true rfl, Nat.le_of_ble_eq_true rfl⟩ rfl rfl (fun u_ H locs hq_ hP hD hS => ?_)
    obtain ⟨fr2, fp2, fc2, o2, n2, w2⟩ := u_
    obtain ⟨hsu, hw2⟩ := hq_
    have hP : va_P g.1 vwCl [(x0, .inr (5, [.ref xw, .ref xp, .ref xd, .ref xe, .ref xb, .ref xl, .ref xt])), (xt, .inr (3, [.ref tt, .ref tz, .int trt])), (xw, .inr (2, [.ref xwa, .int (nI t.length)])), (xwa, .inl (g.2.1, 60, .inl f)), (tz, .inr (4, [.ref tsr, .ref tsp, .int (nI t.length)])), (tsr, .inl (g.2.1, 61, .inl fr2)), (tsp, .inl (g.2.1, 61, .inl fp2)), (xb, .inr (0, [.ref b1, .ref b2, .ref b3, .ref b4, .int (nI t.length)])), (b1, .inl (g.2.1, 61, .inl fc2)), (b2, .inl (g.2.1, 61, .inl o2)), (b3, .inl (g.2.1, 61, .inl n2)), (b4, .inl (g.2.1, 61, .inl ff)), (xd, .inr (1, [.ref xda])), (xda, .inl (g.2.2, 23, .inr (.inl w2)))] H := hP
    have hD : va_D A [(x0, .inr (5, [.ref xw, .ref xp, .ref xd, .ref xe, .ref xb, .ref xl, .ref xt])), (xt, .inr (3, [.ref tt, .ref tz, .int trt])), (xw, .inr (2, [.ref xwa, .int (nI t.length)])), (xwa, .inl (g.2.1, 60, .inl f)), (tz, .inr (4, [.ref tsr, .ref tsp, .int (nI t.length)])), (tsr, .inl (g.2.1, 61, .inl fr2)), (tsp, .inl (g.2.1, 61, .inl fp2)), (xb, .inr (0, [.ref b1, .ref b2, .ref b3, .ref b4, .int (nI t.length)])), (b1, .inl (g.2.1, 61, .inl fc2)), (b2, .inl (g.2.1, 61, .inl o2)), (b3, .inl (g.2.1, 61, .inl n2)), (b4, .inl (g.2.1, 61, .inl ff)), (xd, .inr (1, [.ref xda])), (xda, .inl (g.2.2, 23, .inr (.inl w2)))] := hD
    refine lv_iconst (v := nI 1) hx hb zdX_build_23 (by decide) ?_
    exact hret (nI 1) (fr2, fp2, nI t.length, fc2, o2, n2, nI t.length, w2) _ _ _ _ (rfl) (by rw [hd]; exact ⟨rfl, fun _ => ⟨sr, hs1, hs2, rfl, hw2⟩, fun z => absurd z (by decide)⟩) (hP.sub [0, 1, 2, 3, 4, 5, 6, 7, 8, 9, 10, 11, 12, 13] rfl) (hD.sub [0, 1, 2, 3, 4, 5, 6, 7, 8, 9, 10, 11, 12, 13] (by decide) rfl) hS zdX_build_24
  · have hd := si_b0 h5
    refine lv_iconst (v := nI 0) hx hb zdX_build_8 (by decide) ?_
    exact hret (nI 0) (fr, fp, ta, fc, fo, fn, ba, fw) _ _ _ _ (rfl) (by rw [hd]; exact ⟨rfl, fun z => absurd z (by decide), fun _ => rfl⟩) (hP.sub [0, 1, 2, 3, 4, 5, 6, 7, 8, 9, 10, 11, 12, 13] rfl) (hD.sub [0, 1, 2, 3, 4, 5, 6, 7, 8, 9, 10, 11, 12, 13] (by decide) rfl) hS zdX_build_9

theorem si_rd_no {f : Nat → Int64} {hd : Nat} (h : si_hd f hd) (h1 : 60 < lN (hd % 256)) : ∀ v k, ¬ si_is f v k := by
  intro v k hv
  have h2 := (si_is_rate h hv).2
  have e : (60 : Int64) = lN 60 := rfl
  rw [e] at h1
  have := (pk_lLT (a := 60) (b := hd % 256) (by decide) (by omega)).mp h1
  have := hv.1.1
  omega
theorem si_rd_no2 {f : Nat → Int64} {hd : Nat} (h : si_hd f hd) (h1 : si_isR (lN hd / 256) = false) : ∀ v k, ¬ si_is f v k := by
  intro v k hv
  rw [(si_is_rate h hv).1, si_isR_n hv.2.1 hv.2.2.1] at h1
  cases h1
theorem si_rd_is {f : Nat → Int64} {hd s0 : Nat} (h : si_hd f hd) (hs : s0 ≤ 16) (h1 : lN hd / 256 = lN s0) {v : List Nat} {k : Nat} (hv : si_is f v k) : v.length = hd % 256 ∧ k = s0 ∧ ∀ x, x < hd % 256 + 1 → si_rc (si_db f) (hd % 256 + 1) 7 x = si_B v x := by
  have h2 := si_is_rate h hv
  have h3 := h2.1
  rw [h1] at h3
  have h4 := (pk_lEQ (a := s0) (b := k) (by omega) (by have := hv.2.2.1; omega)).mp h3
  refine ⟨h2.2.symm, h4.symm, fun x hx => ?_⟩
  rw [h2.2] at hx ⊢
  exact si_is_codes hv hx
theorem si_rd_60 {k : Nat} (hk : k < 256) (h : ¬ 60 < lN k) : k ≤ 60 := by
  apply Classical.byContradiction
  intro z
  have e : (60 : Int64) = lN 60 := rfl
  rw [e] at h
  exact h ((pk_lLT (a := 60) (b := k) (by decide) (by omega)).mpr (by omega))
set_option maxHeartbeats 4000000 in
set_option maxRecDepth 100000 in
/-- readDesk -/
theorem cX_readDesk (l : Launch) (g : si_G) (x0 xw xp xd xe xb xl xt : Nat) (tt tz tta xda b1 b2 b3 b4 sz : Nat) (trt ba : Int32) (f fc fo fn ff : Nat → Int32) (fw : Nat → Int64)  : si_Mi (S := Int32 × (Nat → Int32) × Nat × (Nat → Int32) × (Nat → Int32) × (Nat → Int32) × (Nat → Int32) × Int32) l g vwCl zyX_readDesk zwX_readDesk ({ frames := 2, cells := 0, slots := 0, locals := 52 } : Room) [.ref x0] [(x0, .inr (5, [.ref xw, .ref xp, .ref xd, .ref xe, .ref xb, .ref xl, .ref xt])), (xt, .inr (3, [.ref tt, .ref tz, .int trt])), (tt, .inr (2, [.ref tta, .int (nI sz)])), (tta, .inl (g.2.1, 60, .inl f)), (xb, .inr (0, [.ref b1, .ref b2, .ref b3, .ref b4, .int ba])), (b1, .inl (g.2.1, 61, .inl fc)), (b2, .inl (g.2.1, 61, .inl fo)), (b3, .inl (g.2.1, 61, .inl fn)), (b4, .inl (g.2.1, 61, .inl ff)), (xd, .inr (1, [.ref xda])), (xda, .inl (g.2.2, 23, .inr (.inl fw)))] (fun r u => (r = nI 1 ∧ ∃ t sr, si_ok t ∧ 1 ≤ sr ∧ sr ≤ 16 ∧ u.1 = nI sr ∧ u.2.2.1 = t.length ∧ si_ln t u.2.1 ∧ ∀ v k, si_is fw v k → v = t ∧ k = sr) ∨ (r = nI 0 ∧ ∀ v k, ¬ si_is fw v k)) (fun u => [(x0, .inr (5, [.ref xw, .ref xp, .ref xd, .ref xe, .ref xb, .ref xl, .ref xt])), (xt, .inr (3, [.ref tt, .ref tz, .int u.1])), (tt, .inr (2, [.ref tta, .int (nI u.2.2.1)])), (tta, .inl (g.2.1, 60, .inl u.2.1)), (xb, .inr (0, [.ref b1, .ref b2, .ref b3, .ref b4, .int u.2.2.2.2.2.2.2])), (b1, .inl (g.2.1, 61, .inl u.2.2.2.1)), (b2, .inl (g.2.1, 61, .inl u.2.2.2.2.1)), (b3, .inl (g.2.1, 61, .inl u.2.2.2.2.2.1)), (b4, .inl (g.2.1, 61, .inl u.2.2.2.2.2.2.1)), (xd, .inr (1, [.ref xda])), (xda, .inl (g.2.2, 23, .inr (.inl fw)))]) := by
  refine si_Mi.of (cc := zkX_readDesk) (maxL := 7) (by decide) rfl (Nat.le_of_ble_eq_true rfl) ?_
  intro p e s m args below meth c A Q ls hF0 hin hK hN hP hD hA hS hl hret
  obtain ⟨hx, hb, hml, hown, hts0⟩ := hF0
  have hts : ∀ w ∈ si_tbl, w.before args s = true := fun w hw => hts0 w (List.mem_cons_of_mem _ hw)
  have hF : CallFix p m c zkX_readDesk 7 s args si_tbl zRX := ⟨hx, hb, hml, hown, hts⟩
  have hl : lv_has ls 7 [(0, .ref x0)] := hl
  obtain ⟨hd, hhd⟩ := si_hd_of fw
  refine lv_aload_n hx hb zdX_readDesk_0 rfl (lv_at hl 0 rfl) ?_
  refine va_get (D := g.1) (ci := 5) (v := .ref xd) (C := zRX) (T := zTX) (N := 7) hx hb hts ziX hown hK hP 0 rfl rfl 2 (by decide) (hts _ zlX_24) (fun _ h => h) rfl zdX_readDesk_1 ?_
  refine va_getN (D := g.1) (ci := 1) (v := .ref xda) (C := zRI) (T := zTI) (N := 1) hx hb hts ziI hown hK hP 9 rfl rfl 0 (by decide) (va_Nw.use rfl (hN _ zlX_66)) (fun _ h => h) rfl zdX_readDesk_4 ?_
  refine lv_iconst (v := nI 0) hx hb zdX_readDesk_7 (by decide) ?_
  refine si_lald (v := lN hd) hx hb hK hP 10 1 rfl rfl (by decide) (by omega) (hhd.1) zdX_readDesk_8 ?_
  refine lv_lstore_n (lv' := [(1, .long (lN hd)), (0, .ref x0)]) hx hb zdX_readDesk_9 rfl hl (Nat.le_of_ble_eq_true rfl) rfl (fun ls hl => ?_)
  refine lv_lload_n hx hb zdX_readDesk_10 rfl (lv_at hl 0 rfl) ?_
  refine lv_ldc2 (v := 255) hx hb hown (hts (.constantLong zRX 140 255) (by decide +kernel)) zdX_readDesk_11 ?_
  refine si_land (v := lN (hd % 256)) hx hb zdX_readDesk_14 (wb_mask (k := 8) hhd.2 (by decide)) ?_
  refine lv_lstore_n (lv' := [(3, .long (lN (hd % 256))), (1, .long (lN hd)), (0, .ref x0)]) hx hb zdX_readDesk_15 rfl hl (Nat.le_of_ble_eq_true rfl) rfl (fun ls hl => ?_)
  refine lv_lload_n hx hb zdX_readDesk_16 rfl (lv_at hl 1 rfl) ?_
  refine lv_ldc2 (v := 256) hx hb hown (hts (.constantLong zRX 142 256) (by decide +kernel)) zdX_readDesk_17 ?_
  refine si_ldiv (v := lN hd / 256) hx hb zdX_readDesk_20 (by decide) (rfl) ?_
  refine lv_lstore (lv' := [(5, .long (lN hd / 256)), (3, .long (lN (hd % 256))), (1, .long (lN hd)), (0, .ref x0)]) hx hb zdX_readDesk_21 hl (Nat.le_of_ble_eq_true rfl) rfl (fun ls hl => ?_)
  refine lv_lload_n hx hb zdX_readDesk_23 rfl (lv_at hl 1 rfl) ?_
  refine lv_ldc2 (v := 60) hx hb hown (hts (.constantLong zRX 144 60) (by decide +kernel)) zdX_readDesk_24 ?_
  refine W.lcmp hx hb zdX_readDesk_27 ?_
  refine lv_if_gt (tgt := 39) hx hb zdX_readDesk_28 rfl (fun h28 => ?_) (fun h28 => ?_)
  · have hno := si_rd_no hhd ((si_lcG _ _).mp h28)
    refine lv_iconst (v := nI 0) hx hb zdX_readDesk_39 (by decide) ?_
    exact hret (nI 0) (trt, f, sz, fc, fo, fn, ff, ba) _ _ _ _ (rfl) (Or.inr ⟨rfl, hno⟩) (hP.sub [0, 1, 2, 3, 4, 5, 6, 7, 8, 9, 10] rfl) (hD.sub [0, 1, 2, 3, 4, 5, 6, 7, 8, 9, 10] (by decide) rfl) hS zdX_readDesk_40
  · have hn := si_rd_60 (k := hd % 256) (by omega) (fun z => h28 ((si_lcG _ _).mpr z))
    refine lv_lload hx hb zdX_readDesk_31 (lv_at hl 0 rfl) ?_
    refine (cX_isRate l g (lN hd / 256)).callS (wr := [(x0, .inr (5, [.ref xw, .ref xp, .ref xd, .ref xe, .ref xb, .ref xl, .ref xt])), (xt, .inr (3, [.ref tt, .ref tz, .int trt])), (tt, .inr (2, [.ref tta, .int (nI sz)])), (tta, .inl (g.2.1, 60, .inl f)), (xb, .inr (0, [.ref b1, .ref b2, .ref b3, .ref b4, .int ba])), (b1, .inl (g.2.1, 61, .inl fc)), (b2, .inl (g.2.1, 61, .inl fo)), (b3, .inl (g.2.1, 61, .inl fn)), (b4, .inl (g.2.1, 61, .inl ff)), (xd, .inr (1, [.ref xda])), (xda, .inl (g.2.2, 23, .inr (.inl fw)))]) (As := [.long (lN hd / 256)]) (rest := []) hF (si_cS 1 hts zcX_isRate zlX_55 zstX_isRate ziniX zhX_isRate ⟨Nat.le_of_ble_eq_true rfl, Nat.le_of_ble_eq_true rfl⟩) hK hN hP hD hS hA [] [0, 1, 2, 3, 4, 5, 6, 7, 8, 9, 10] rfl rfl (by decide) (by decide) rfl hl.1 rfl (Nat.le_of_ble_eq_true rfl) zdX_readDesk_33 ⟨Nat.le_of_ble_eq_true rfl, Nat.le_of_ble_eq_true rfl⟩ rfl rfl (fun r_ _u H locs hq hP hD hS => ?_)
    subst hq
    have hP : va_P g.1 vwCl [(x0, .inr (5, [.ref xw, .ref xp, .ref xd, .ref xe, .ref xb, .ref xl, .ref xt])), (xt, .inr (3, [.ref tt, .ref tz, .int trt])), (tt, .inr (2, [.ref tta, .int (nI sz)])), (tta, .inl (g.2.1, 60, .inl f)), (xb, .inr (0, [.ref b1, .ref b2, .ref b3, .ref b4, .int ba])), (b1, .inl (g.2.1, 61, .inl fc)), (b2, .inl (g.2.1, 61, .inl fo)), (b3, .inl (g.2.1, 61, .inl fn)), (b4, .inl (g.2.1, 61, .inl ff)), (xd, .inr (1, [.ref xda])), (xda, .inl (g.2.2, 23, .inr (.inl fw)))] H := hP
    have hD : va_D A [(x0, .inr (5, [.ref xw, .ref xp, .ref xd, .ref xe, .ref xb, .ref xl, .ref xt])), (xt, .inr (3, [.ref tt, .ref tz, .int trt])), (tt, .inr (2, [.ref tta, .int (nI sz)])), (tta, .inl (g.2.1, 60, .inl f)), (xb, .inr (0, [.ref b1, .ref b2, .ref b3, .ref b4, .int ba])), (b1, .inl (g.2.1, 61, .inl fc)), (b2, .inl (g.2.1, 61, .inl fo)), (b3, .inl (g.2.1, 61, .inl fn)), (b4, .inl (g.2.1, 61, .inl ff)), (xd, .inr (1, [.ref xda])), (xda, .inl (g.2.2, 23, .inr (.inl fw)))] := hD
    refine si_if_ne (tgt := 41) hx hb zdX_readDesk_36 rfl (si_bn _) (fun h36 => ?_) (fun h36 => ?_)
    · obtain ⟨s0, hs1, hs2, hxs⟩ := si_isR_t (si_b1 h36)
      refine lv_aload_n hx hb zdX_readDesk_41 rfl (lv_at hl 3 rfl) ?_
      refine va_get (D := g.1) (ci := 5) (v := .ref xb) (C := zRX) (T := zTX) (N := 7) hx hb hts ziX hown hK hP 0 rfl rfl 4 (by decide) (hts _ zlX_34) (fun _ h => h) rfl zdX_readDesk_42 ?_
      refine lv_aload_n hx hb zdX_readDesk_45 rfl (lv_at hl 3 rfl) ?_
      refine va_get (D := g.1) (ci := 5) (v := .ref xd) (C := zRX) (T := zTX) (N := 7) hx hb hts ziX hown hK hP 0 rfl rfl 2 (by decide) (hts _ zlX_24) (fun _ h => h) rfl zdX_readDesk_46 ?_
      refine lv_lload_n hx hb zdX_readDesk_49 rfl (lv_at hl 1 rfl) ?_
      refine lv_l2i (v := nI (hd % 256)) hx hb zdX_readDesk_50 (lN_i _) ?_
      refine (cB_readLevels l g xb b1 b2 b3 b4 (hd % 256) xd xda ba fc fo fn fw hn).callV (wr := [(x0, .inr (5, [.ref xw, .ref xp, .ref xd, .ref xe, .ref xb, .ref xl, .ref xt])), (xt, .inr (3, [.ref tt, .ref tz, .int trt])), (tt, .inr (2, [.ref tta, .int (nI sz)])), (tta, .inl (g.2.1, 60, .inl f)), (b4, .inl (g.2.1, 61, .inl ff))]) (As := [.ref xd, .int (nI (hd % 256))]) (rest := []) hF (si_cV 2 hts zcB_readLevels zlX_146 zimB_readLevels zseB_readLevels ziniB zhB_readLevels ⟨Nat.le_of_ble_eq_true rfl, Nat.le_of_ble_eq_true rfl⟩) hK hN hP hD hS hA [4, 5, 6, 7, 9, 10] [0, 1, 2, 3, 8] rfl rfl (by decide) (by decide) (va_recv (q := (zRB, zTB, 5)) hK hP (ci := 0) (q0 := 4) rfl rfl) rfl hl.1 rfl (Nat.le_of_ble_eq_true rfl) zdX_readDesk_51 ⟨Nat.le_of_ble_eq_true rfl, Nat.le_of_ble_eq_true rfl⟩ rfl rfl (fun u_ H locs hc2 hP hD hS => ?_)
      obtain ⟨c2, o2, n2⟩ := u_
      have hc2 : ∀ x, x < hd % 256 + 1 → c2 x = nI (si_rc (si_db fw) (hd % 256 + 1) 7 x) := hc2
      have hP : va_P g.1 vwCl [(x0, .inr (5, [.ref xw, .ref xp, .ref xd, .ref xe, .ref xb, .ref xl, .ref xt])), (xt, .inr (3, [.ref tt, .ref tz, .int trt])), (tt, .inr (2, [.ref tta, .int (nI sz)])), (tta, .inl (g.2.1, 60, .inl f)), (b4, .inl (g.2.1, 61, .inl ff)), (xb, .inr (0, [.ref b1, .ref b2, .ref b3, .ref b4, .int (nI (hd % 256))])), (b1, .inl (g.2.1, 61, .inl c2)), (b2, .inl (g.2.1, 61, .inl o2)), (b3, .inl (g.2.1, 61, .inl n2)), (xd, .inr (1, [.ref xda])), (xda, .inl (g.2.2, 23, .inr (.inl fw)))] H := hP
      have hD : va_D A [(x0, .inr (5, [.ref xw, .ref xp, .ref xd, .ref xe, .ref xb, .ref xl, .ref xt])), (xt, .inr (3, [.ref tt, .ref tz, .int trt])), (tt, .inr (2, [.ref tta, .int (nI sz)])), (tta, .inl (g.2.1, 60, .inl f)), (b4, .inl (g.2.1, 61, .inl ff)), (xb, .inr (0, [.ref b1, .ref b2, .ref b3, .ref b4, .int (nI (hd % 256))])), (b1, .inl (g.2.1, 61, .inl c2)), (b2, .inl (g.2.1, 61, .inl o2)), (b3, .inl (g.2.1, 61, .inl n2)), (xd, .inr (1, [.ref xda])), (xda, .inl (g.2.2, 23, .inr (.inl fw)))] := hD
      refine lv_aload_n hx hb zdX_readDesk_54 rfl (lv_at hl 3 rfl) ?_
      refine va_get (D := g.1) (ci := 5) (v := .ref xt) (C := zRX) (T := zTX) (N := 7) hx hb hts ziX hown hK hP 0 rfl rfl 6 (by decide) (hts _ zlX_45) (fun _ h => h) rfl zdX_readDesk_55 ?_
      refine lv_lload hx hb zdX_readDesk_58 (lv_at hl 0 rfl) ?_
      refine lv_l2i (v := nI s0) hx hb zdX_readDesk_60 (by rw [hxs]; exact lN_i _) ?_
      refine va_putN (D := g.1) (ci := 3) (v := .int (nI s0)) (ty := .int) (C := zRR) (T := zTR) (N := 3) hx hb hts ziR ztR ztoR znR hown hK hP hD hS 1 rfl rfl 2 (by decide) (va_Nw.use rfl (hN _ zlX_77)) (fun _ h => h) rfl (by decide +kernel) rfl rfl (Nat.le_of_ble_eq_true rfl) zdX_readDesk_61 (fun H locs hP hD hS => ?_)
      have hP : va_P g.1 vwCl [(x0, .inr (5, [.ref xw, .ref xp, .ref xd, .ref xe, .ref xb, .ref xl, .ref xt])), (xt, .inr (3, [.ref tt, .ref tz, .int (nI s0)])), (tt, .inr (2, [.ref tta, .int (nI sz)])), (tta, .inl (g.2.1, 60, .inl f)), (b4, .inl (g.2.1, 61, .inl ff)), (xb, .inr (0, [.ref b1, .ref b2, .ref b3, .ref b4, .int (nI (hd % 256))])), (b1, .inl (g.2.1, 61, .inl c2)), (b2, .inl (g.2.1, 61, .inl o2)), (b3, .inl (g.2.1, 61, .inl n2)), (xd, .inr (1, [.ref xda])), (xda, .inl (g.2.2, 23, .inr (.inl fw)))] H := hP
      have hD : va_D A [(x0, .inr (5, [.ref xw, .ref xp, .ref xd, .ref xe, .ref xb, .ref xl, .ref xt])), (xt, .inr (3, [.ref tt, .ref tz, .int (nI s0)])), (tt, .inr (2, [.ref tta, .int (nI sz)])), (tta, .inl (g.2.1, 60, .inl f)), (b4, .inl (g.2.1, 61, .inl ff)), (xb, .inr (0, [.ref b1, .ref b2, .ref b3, .ref b4, .int (nI (hd % 256))])), (b1, .inl (g.2.1, 61, .inl c2)), (b2, .inl (g.2.1, 61, .inl o2)), (b3, .inl (g.2.1, 61, .inl n2)), (xd, .inr (1, [.ref xda])), (xda, .inl (g.2.2, 23, .inr (.inl fw)))] := hD
      refine lv_aload_n hx hb zdX_readDesk_64 rfl (lv_at hl 3 rfl) ?_
      refine va_get (D := g.1) (ci := 5) (v := .ref xb) (C := zRX) (T := zTX) (N := 7) hx hb hts ziX hown hK hP 0 rfl rfl 4 (by decide) (hts _ zlX_34) (fun _ h => h) rfl zdX_readDesk_65 ?_
      refine lv_aload_n hx hb zdX_readDesk_68 rfl (lv_at hl 3 rfl) ?_
      refine va_get (D := g.1) (ci := 5) (v := .ref xt) (C := zRX) (T := zTX) (N := 7) hx hb hts ziX hown hK hP 0 rfl rfl 6 (by decide) (hts _ zlX_45) (fun _ h => h) rfl zdX_readDesk_69 ?_
      refine va_getN (D := g.1) (ci := 3) (v := .ref tt) (C := zRR) (T := zTR) (N := 3) hx hb hts ziR hown hK hP 1 rfl rfl 0 (by decide) (va_Nw.use rfl (hN _ zlX_74)) (fun _ h => h) rfl zdX_readDesk_72 ?_
      refine (cB_spell l g xb b1 b2 b3 b4 (hd % 256) tt tta c2 ff f (nI sz) (si_rc (si_db fw) (hd % 256 + 1) 7) hn hc2 (fun x _ => si_rc_lt _ _ 7 x)).callV (wr := [(x0, .inr (5, [.ref xw, .ref xp, .ref xd, .ref xe, .ref xb, .ref xl, .ref xt])), (xt, .inr (3, [.ref tt, .ref tz, .int (nI s0)])), (b2, .inl (g.2.1, 61, .inl o2)), (b3, .inl (g.2.1, 61, .inl n2)), (xd, .inr (1, [.ref xda])), (xda, .inl (g.2.2, 23, .inr (.inl fw)))]) (As := [.ref tt]) (rest := []) hF (si_cV 1 hts zcB_spell zlX_150 zimB_spell zseB_spell ziniB zhB_spell ⟨Nat.le_of_ble_eq_true rfl, Nat.le_of_ble_eq_true rfl⟩) hK hN hP hD hS hA [5, 6, 4, 2, 3] [0, 1, 7, 8, 9, 10] rfl rfl (by decide) (by decide) (va_recv (q := (zRB, zTB, 5)) hK hP (ci := 0) (q0 := 5) rfl rfl) rfl hl.1 rfl (Nat.le_of_ble_eq_true rfl) zdX_readDesk_75 ⟨Nat.le_of_ble_eq_true rfl, Nat.le_of_ble_eq_true rfl⟩ rfl rfl (fun r_ u_ H locs hq hP hD hS => ?_)
      obtain ⟨ff2, f2, z2⟩ := u_
      have hP : va_P g.1 vwCl [(x0, .inr (5, [.ref xw, .ref xp, .ref xd, .ref xe, .ref xb, .ref xl, .ref xt])), (xt, .inr (3, [.ref tt, .ref tz, .int (nI s0)])), (b2, .inl (g.2.1, 61, .inl o2)), (b3, .inl (g.2.1, 61, .inl n2)), (xd, .inr (1, [.ref xda])), (xda, .inl (g.2.2, 23, .inr (.inl fw))), (xb, .inr (0, [.ref b1, .ref b2, .ref b3, .ref b4, .int (nI (hd % 256))])), (b1, .inl (g.2.1, 61, .inl c2)), (b4, .inl (g.2.1, 61, .inl ff2)), (tt, .inr (2, [.ref tta, .int (nI z2)])), (tta, .inl (g.2.1, 60, .inl f2))] H := hP
      have hD : va_D A [(x0, .inr (5, [.ref xw, .ref xp, .ref xd, .ref xe, .ref xb, .ref xl, .ref xt])), (xt, .inr (3, [.ref tt, .ref tz, .int (nI s0)])), (b2, .inl (g.2.1, 61, .inl o2)), (b3, .inl (g.2.1, 61, .inl n2)), (xd, .inr (1, [.ref xda])), (xda, .inl (g.2.2, 23, .inr (.inl fw))), (xb, .inr (0, [.ref b1, .ref b2, .ref b3, .ref b4, .int (nI (hd % 256))])), (b1, .inl (g.2.1, 61, .inl c2)), (b4, .inl (g.2.1, 61, .inl ff2)), (tt, .inr (2, [.ref tta, .int (nI z2)])), (tta, .inl (g.2.1, 60, .inl f2))] := hD
      have hpost : (r_ = nI 1 ∧ ∃ t sr, si_ok t ∧ 1 ≤ sr ∧ sr ≤ 16 ∧ nI s0 = nI sr ∧ z2 = t.length ∧ si_ln t f2 ∧ ∀ v k, si_is fw v k → v = t ∧ k = sr) ∨ (r_ = nI 0 ∧ ∀ v k, ¬ si_is fw v k) := by
        rcases hq with ⟨hr, hz, t, ho, hl2, hln, hall⟩ | ⟨hr, hall⟩
        · refine Or.inl ⟨hr, t, s0, ho, hs1, hs2, rfl, (show z2 = _ from hz).trans hl2.symm, hln, fun v k hv => ?_⟩
          obtain ⟨e1, e2, e3⟩ := si_rd_is hhd hs2 hxs hv
          exact ⟨hall v hv.1 e1 e3, e2⟩
        · refine Or.inr ⟨hr, fun v k hv => ?_⟩
          obtain ⟨e1, e2, e3⟩ := si_rd_is hhd hs2 hxs hv
          exact hall v hv.1 e1 e3
      exact hret r_ (nI s0, f2, z2, c2, o2, n2, ff2, nI (hd % 256)) _ _ _ _ (by rcases hq with ⟨h, _⟩ | ⟨h, _⟩ <;> (rw [h]; rfl)) (hpost) (hP.sub [0, 1, 9, 10, 6, 7, 2, 3, 8, 4, 5] rfl) (hD.sub [0, 1, 9, 10, 6, 7, 2, 3, 8, 4, 5] (by decide) rfl) hS zdX_readDesk_78
    · have hno := si_rd_no2 hhd (si_b0 h36)
      refine lv_iconst (v := nI 0) hx hb zdX_readDesk_39 (by decide) ?_
      exact hret (nI 0) (trt, f, sz, fc, fo, fn, ff, ba) _ _ _ _ (rfl) (Or.inr ⟨rfl, hno⟩) (hP.sub [0, 1, 2, 3, 4, 5, 6, 7, 8, 9, 10] rfl) (hD.sub [0, 1, 2, 3, 4, 5, 6, 7, 8, 9, 10] (by decide) rfl) hS zdX_readDesk_40

set_option maxHeartbeats 4000000 in
set_option maxRecDepth 100000 in
/-- load -/
theorem cX_load (l : Launch) (g : si_G) (x0 xw xp xd xe xb xl xt : Nat) (tt tz tsr tsp b1 b2 b3 b4 : Nat) (trt ta ba : Int32) (fr fp fc fo fn ff : Nat → Int32) (tta xda xea sz : Nat) (f : Nat → Int32) (fw fe : Nat → Int64)  : si_Mi (S := Nat × Nat × Int32 × (Nat → Int32) × Nat × (Nat → Int32) × (Nat → Int32) × Int32 × (Nat → Int32) × (Nat → Int32) × (Nat → Int32) × (Nat → Int32) × Int32 × (Nat → Int64)) l g vwCl zyX_load zwX_load ({ frames := 5, cells := 0, slots := 0, locals := 115 } : Room) [.ref x0] [(x0, .inr (5, [.ref xw, .ref xp, .ref xd, .ref xe, .ref xb, .ref xl, .ref xt])), (xt, .inr (3, [.ref tt, .ref tz, .int trt])), (tt, .inr (2, [.ref tta, .int (nI sz)])), (tta, .inl (g.2.1, 60, .inl f)), (tz, .inr (4, [.ref tsr, .ref tsp, .int ta])), (tsr, .inl (g.2.1, 61, .inl fr)), (tsp, .inl (g.2.1, 61, .inl fp)), (xb, .inr (0, [.ref b1, .ref b2, .ref b3, .ref b4, .int ba])), (b1, .inl (g.2.1, 61, .inl fc)), (b2, .inl (g.2.1, 61, .inl fo)), (b3, .inl (g.2.1, 61, .inl fn)), (b4, .inl (g.2.1, 61, .inl ff)), (xd, .inr (1, [.ref xda])), (xda, .inl (g.2.2, 23, .inr (.inl fw))), (xe, .inr (1, [.ref xea])), (xea, .inl (g.2.2, 23, .inr (.inl fe)))] (fun r u => (r = nI 1 ∧ u.1 = xt ∧ u.2.1 = xl ∧ ∃ t sr, si_is fw t sr ∧ u.2.2.1 = nI sr ∧ u.2.2.2.2.1 = t.length ∧ si_ln t u.2.2.2.1 ∧ si_su t u.2.2.2.2.2.1 u.2.2.2.2.2.2.1) ∨ (r = nI 0 ∧ u.1 = xl ∧ u.2.1 = xt ∧ ∀ v k, ¬ si_is fw v k)) (fun u => [(x0, .inr (5, [.ref xw, .ref xp, .ref xd, .ref xe, .ref xb, .ref u.1, .ref u.2.1])), (xt, .inr (3, [.ref tt, .ref tz, .int u.2.2.1])), (tt, .inr (2, [.ref tta, .int (nI u.2.2.2.2.1)])), (tta, .inl (g.2.1, 60, .inl u.2.2.2.1)), (tz, .inr (4, [.ref tsr, .ref tsp, .int u.2.2.2.2.2.2.2.1])), (tsr, .inl (g.2.1, 61, .inl u.2.2.2.2.2.1)), (tsp, .inl (g.2.1, 61, .inl u.2.2.2.2.2.2.1)), (xb, .inr (0, [.ref b1, .ref b2, .ref b3, .ref b4, .int u.2.2.2.2.2.2.2.2.2.2.2.2.1])), (b1, .inl (g.2.1, 61, .inl u.2.2.2.2.2.2.2.2.1)), (b2, .inl (g.2.1, 61, .inl u.2.2.2.2.2.2.2.2.2.1)), (b3, .inl (g.2.1, 61, .inl u.2.2.2.2.2.2.2.2.2.2.1)), (b4, .inl (g.2.1, 61, .inl u.2.2.2.2.2.2.2.2.2.2.2.1)), (xd, .inr (1, [.ref xda])), (xda, .inl (g.2.2, 23, .inr (.inl fw))), (xe, .inr (1, [.ref xea])), (xea, .inl (g.2.2, 23, .inr (.inl u.2.2.2.2.2.2.2.2.2.2.2.2.2)))]) := by
  refine si_Mi.of (cc := zkX_load) (maxL := 2) (by decide) rfl (Nat.le_of_ble_eq_true rfl) ?_
  intro p e s m args below meth c A Q ls hF0 hin hK hN hP hD hA hS hl hret
  obtain ⟨hx, hb, hml, hown, hts0⟩ := hF0
  have hts : ∀ w ∈ si_tbl, w.before args s = true := fun w hw => hts0 w (List.mem_cons_of_mem _ hw)
  have hF : CallFix p m c zkX_load 2 s args si_tbl zRX := ⟨hx, hb, hml, hown, hts⟩
  have hl : lv_has ls 2 [(0, .ref x0)] := hl
  refine lv_aload_n hx hb zdX_load_0 rfl (lv_at hl 0 rfl) ?_
  refine (cX_readDesk l g x0 xw xp xd xe xb xl xt tt tz tta xda b1 b2 b3 b4 sz trt ba f fc fo fn ff fw).callV (wr := [(tz, .inr (4, [.ref tsr, .ref tsp, .int ta])), (tsr, .inl (g.2.1, 61, .inl fr)), (tsp, .inl (g.2.1, 61, .inl fp)), (xe, .inr (1, [.ref xea])), (xea, .inl (g.2.2, 23, .inr (.inl fe)))]) (As := []) (rest := []) hF (si_cV 0 hts zcX_readDesk zlX_70 zimX_readDesk zseX_readDesk ziniX zhX_readDesk ⟨Nat.le_of_ble_eq_true rfl, Nat.le_of_ble_eq_true rfl⟩) hK hN hP hD hS hA [0, 1, 2, 3, 7, 8, 9, 10, 11, 12, 13] [4, 5, 6, 14, 15] rfl rfl (by decide) (by decide) (va_recv (q := (zRX, zTX, 7)) hK hP (ci := 5) (q0 := 0) rfl rfl) rfl hl.1 rfl (Nat.le_of_ble_eq_true rfl) zdX_load_1 ⟨Nat.le_of_ble_eq_true rfl, Nat.le_of_ble_eq_true rfl⟩ rfl rfl (fun r_ u_ H locs hq hP hD hS => ?_)
  obtain ⟨rt2, f2, z2, c2, o2, n2, ff2, lb2⟩ := u_
  have hP : va_P g.1 vwCl [(tz, .inr (4, [.ref tsr, .ref tsp, .int ta])), (tsr, .inl (g.2.1, 61, .inl fr)), (tsp, .inl (g.2.1, 61, .inl fp)), (xe, .inr (1, [.ref xea])), (xea, .inl (g.2.2, 23, .inr (.inl fe))), (x0, .inr (5, [.ref xw, .ref xp, .ref xd, .ref xe, .ref xb, .ref xl, .ref xt])), (xt, .inr (3, [.ref tt, .ref tz, .int rt2])), (tt, .inr (2, [.ref tta, .int (nI z2)])), (tta, .inl (g.2.1, 60, .inl f2)), (xb, .inr (0, [.ref b1, .ref b2, .ref b3, .ref b4, .int lb2])), (b1, .inl (g.2.1, 61, .inl c2)), (b2, .inl (g.2.1, 61, .inl o2)), (b3, .inl (g.2.1, 61, .inl n2)), (b4, .inl (g.2.1, 61, .inl ff2)), (xd, .inr (1, [.ref xda])), (xda, .inl (g.2.2, 23, .inr (.inl fw)))] H := hP
  have hD : va_D A [(tz, .inr (4, [.ref tsr, .ref tsp, .int ta])), (tsr, .inl (g.2.1, 61, .inl fr)), (tsp, .inl (g.2.1, 61, .inl fp)), (xe, .inr (1, [.ref xea])), (xea, .inl (g.2.2, 23, .inr (.inl fe))), (x0, .inr (5, [.ref xw, .ref xp, .ref xd, .ref xe, .ref xb, .ref xl, .ref xt])), (xt, .inr (3, [.ref tt, .ref tz, .int rt2])), (tt, .inr (2, [.ref tta, .int (nI z2)])), (tta, .inl (g.2.1, 60, .inl f2)), (xb, .inr (0, [.ref b1, .ref b2, .ref b3, .ref b4, .int lb2])), (b1, .inl (g.2.1, 61, .inl c2)), (b2, .inl (g.2.1, 61, .inl o2)), (b3, .inl (g.2.1, 61, .inl n2)), (b4, .inl (g.2.1, 61, .inl ff2)), (xd, .inr (1, [.ref xda])), (xda, .inl (g.2.2, 23, .inr (.inl fw)))] := hD
  refine lv_if_ne (tgt := 9) hx hb zdX_load_4 rfl (fun h4 => ?_) (fun h4 => ?_)
  · obtain ⟨-, t, sr, ho, hs1, hs2, e1, e2, hln, hall⟩ := si_or_l hq (fun z => h4 (z.1.trans nI_0))
    have e1 : rt2 = nI sr := e1
    have e2 : z2 = t.length := e2
    subst e1 e2
    refine lv_aload_n hx hb zdX_load_9 rfl (lv_at hl 0 rfl) ?_
    refine lv_aload_n hx hb zdX_load_10 rfl (lv_at hl 0 rfl) ?_
    refine va_get (D := g.1) (ci := 5) (v := .ref xt) (C := zRX) (T := zTX) (N := 7) hx hb hts ziX hown hK hP 5 rfl rfl 6 (by decide) (hts _ zlX_45) (fun _ h => h) rfl zdX_load_11 ?_
    refine va_getN (D := g.1) (ci := 3) (v := .ref tt) (C := zRR) (T := zTR) (N := 3) hx hb hts ziR hown hK hP 6 rfl rfl 0 (by decide) (va_Nw.use rfl (hN _ zlX_74)) (fun _ h => h) rfl zdX_load_14 ?_
    refine lv_aload_n hx hb zdX_load_17 rfl (lv_at hl 0 rfl) ?_
    refine va_get (D := g.1) (ci := 5) (v := .ref xt) (C := zRX) (T := zTX) (N := 7) hx hb hts ziX hown hK hP 5 rfl rfl 6 (by decide) (hts _ zlX_45) (fun _ h => h) rfl zdX_load_18 ?_
    refine va_getN (D := g.1) (ci := 3) (v := .int (nI sr)) (C := zRR) (T := zTR) (N := 3) hx hb hts ziR hown hK hP 6 rfl rfl 2 (by decide) (va_Nw.use rfl (hN _ zlX_77)) (fun _ h => h) rfl zdX_load_21 ?_
    refine lv_aload_n hx hb zdX_load_24 rfl (lv_at hl 0 rfl) ?_
    refine va_get (D := g.1) (ci := 5) (v := .ref xe) (C := zRX) (T := zTX) (N := 7) hx hb hts ziX hown hK hP 5 rfl rfl 3 (by decide) (hts _ zlX_28) (fun _ h => h) rfl zdX_load_25 ?_
    refine (cX_draw l g x0 xw xp xd xe xb xl xt tt tz tsr tsp b1 b2 b3 b4 (nI sr) ta lb2 fr fp c2 o2 n2 ff2 tt tta xe xea f2 fe t sr ho hln hs1 hs2).callV (wr := [(xd, .inr (1, [.ref xda])), (xda, .inl (g.2.2, 23, .inr (.inl fw)))]) (As := [.ref tt, .int (nI sr), .ref xe]) (rest := []) hF (si_cV 3 hts zcX_draw zlX_59 zimX_draw zseX_draw ziniX zhX_draw ⟨Nat.le_of_ble_eq_true rfl, Nat.le_of_ble_eq_true rfl⟩) hK hN hP hD hS hA [5, 6, 7, 8, 0, 1, 2, 9, 10, 11, 12, 13, 3, 4] [14, 15] rfl rfl (by decide) (by decide) (va_recv (q := (zRX, zTX, 7)) hK hP (ci := 5) (q0 := 5) rfl rfl) rfl hl.1 rfl (Nat.le_of_ble_eq_true rfl) zdX_load_28 ⟨Nat.le_of_ble_eq_true rfl, Nat.le_of_ble_eq_true rfl⟩ rfl rfl (fun u_ H locs hq_ hP hD hS => ?_)
    obtain ⟨fr3, fp3, c3, o3, n3, w3⟩ := u_
    obtain ⟨hsu, hw3⟩ := hq_
    have hsu : si_su t fr3 fp3 := hsu
    have hw3 : ∀ k, k < 23 → w3 k = si_im t sr k := hw3
    have hP : va_P g.1 vwCl [(xd, .inr (1, [.ref xda])), (xda, .inl (g.2.2, 23, .inr (.inl fw))), (x0, .inr (5, [.ref xw, .ref xp, .ref xd, .ref xe, .ref xb, .ref xl, .ref xt])), (xt, .inr (3, [.ref tt, .ref tz, .int (nI sr)])), (tt, .inr (2, [.ref tta, .int (nI t.length)])), (tta, .inl (g.2.1, 60, .inl f2)), (tz, .inr (4, [.ref tsr, .ref tsp, .int (nI t.length)])), (tsr, .inl (g.2.1, 61, .inl fr3)), (tsp, .inl (g.2.1, 61, .inl fp3)), (xb, .inr (0, [.ref b1, .ref b2, .ref b3, .ref b4, .int (nI t.length)])), (b1, .inl (g.2.1, 61, .inl c3)), (b2, .inl (g.2.1, 61, .inl o3)), (b3, .inl (g.2.1, 61, .inl n3)), (b4, .inl (g.2.1, 61, .inl ff2)), (xe, .inr (1, [.ref xea])), (xea, .inl (g.2.2, 23, .inr (.inl w3)))] H := hP
    have hD : va_D A [(xd, .inr (1, [.ref xda])), (xda, .inl (g.2.2, 23, .inr (.inl fw))), (x0, .inr (5, [.ref xw, .ref xp, .ref xd, .ref xe, .ref xb, .ref xl, .ref xt])), (xt, .inr (3, [.ref tt, .ref tz, .int (nI sr)])), (tt, .inr (2, [.ref tta, .int (nI t.length)])), (tta, .inl (g.2.1, 60, .inl f2)), (tz, .inr (4, [.ref tsr, .ref tsp, .int (nI t.length)])), (tsr, .inl (g.2.1, 61, .inl fr3)), (tsp, .inl (g.2.1, 61, .inl fp3)), (xb, .inr (0, [.ref b1, .ref b2, .ref b3, .ref b4, .int (nI t.length)])), (b1, .inl (g.2.1, 61, .inl c3)), (b2, .inl (g.2.1, 61, .inl o3)), (b3, .inl (g.2.1, 61, .inl n3)), (b4, .inl (g.2.1, 61, .inl ff2)), (xe, .inr (1, [.ref xea])), (xea, .inl (g.2.2, 23, .inr (.inl w3)))] := hD
    refine lv_aload_n hx hb zdX_load_31 rfl (lv_at hl 0 rfl) ?_
    refine va_get (D := g.1) (ci := 5) (v := .ref xe) (C := zRX) (T := zTX) (N := 7) hx hb hts ziX hown hK hP 2 rfl rfl 3 (by decide) (hts _ zlX_28) (fun _ h => h) rfl zdX_load_32 ?_
    refine lv_aload_n hx hb zdX_load_35 rfl (lv_at hl 0 rfl) ?_
    refine va_get (D := g.1) (ci := 5) (v := .ref xd) (C := zRX) (T := zTX) (N := 7) hx hb hts ziX hown hK hP 2 rfl rfl 2 (by decide) (hts _ zlX_24) (fun _ h => h) rfl zdX_load_36 ?_
    refine (cI_isSameAs l g xe xea xd xda w3 fw).callV (wr := [(x0, .inr (5, [.ref xw, .ref xp, .ref xd, .ref xe, .ref xb, .ref xl, .ref xt])), (xt, .inr (3, [.ref tt, .ref tz, .int (nI sr)])), (tt, .inr (2, [.ref tta, .int (nI t.length)])), (tta, .inl (g.2.1, 60, .inl f2)), (tz, .inr (4, [.ref tsr, .ref tsp, .int (nI t.length)])), (tsr, .inl (g.2.1, 61, .inl fr3)), (tsp, .inl (g.2.1, 61, .inl fp3)), (xb, .inr (0, [.ref b1, .ref b2, .ref b3, .ref b4, .int (nI t.length)])), (b1, .inl (g.2.1, 61, .inl c3)), (b2, .inl (g.2.1, 61, .inl o3)), (b3, .inl (g.2.1, 61, .inl n3)), (b4, .inl (g.2.1, 61, .inl ff2))]) (As := [.ref xd]) (rest := []) hF (si_cV 1 hts zcI_isSameAs zlX_81 zimI_isSameAs zseI_isSameAs ziniI zhI_isSameAs ⟨Nat.le_of_ble_eq_true rfl, Nat.le_of_ble_eq_true rfl⟩) hK hN hP hD hS hA [14, 15, 0, 1] [2, 3, 4, 5, 6, 7, 8, 9, 10, 11, 12, 13] rfl rfl (by decide) (by decide) (va_recv (q := (zRI, zTI, 1)) hK hP (ci := 1) (q0 := 14) rfl rfl) rfl hl.1 rfl (Nat.le_of_ble_eq_true rfl) zdX_load_39 ⟨Nat.le_of_ble_eq_true rfl, Nat.le_of_ble_eq_true rfl⟩ rfl rfl (fun r_ ub H locs hq_ hP hD hS => ?_)
    obtain ⟨hq5, hiff⟩ := hq_
    subst hq5
    have hP : va_P g.1 vwCl [(x0, .inr (5, [.ref xw, .ref xp, .ref xd, .ref xe, .ref xb, .ref xl, .ref xt])), (xt, .inr (3, [.ref tt, .ref tz, .int (nI sr)])), (tt, .inr (2, [.ref tta, .int (nI t.length)])), (tta, .inl (g.2.1, 60, .inl f2)), (tz, .inr (4, [.ref tsr, .ref tsp, .int (nI t.length)])), (tsr, .inl (g.2.1, 61, .inl fr3)), (tsp, .inl (g.2.1, 61, .inl fp3)), (xb, .inr (0, [.ref b1, .ref b2, .ref b3, .ref b4, .int (nI t.length)])), (b1, .inl (g.2.1, 61, .inl c3)), (b2, .inl (g.2.1, 61, .inl o3)), (b3, .inl (g.2.1, 61, .inl n3)), (b4, .inl (g.2.1, 61, .inl ff2)), (xe, .inr (1, [.ref xea])), (xea, .inl (g.2.2, 23, .inr (.inl w3))), (xd, .inr (1, [.ref xda])), (xda, .inl (g.2.2, 23, .inr (.inl fw)))] H := hP
    have hD : va_D A [(x0, .inr (5, [.ref xw, .ref xp, .ref xd, .ref xe, .ref xb, .ref xl, .ref xt])), (xt, .inr (3, [.ref tt, .ref tz, .int (nI sr)])), (tt, .inr (2, [.ref tta, .int (nI t.length)])), (tta, .inl (g.2.1, 60, .inl f2)), (tz, .inr (4, [.ref tsr, .ref tsp, .int (nI t.length)])), (tsr, .inl (g.2.1, 61, .inl fr3)), (tsp, .inl (g.2.1, 61, .inl fp3)), (xb, .inr (0, [.ref b1, .ref b2, .ref b3, .ref b4, .int (nI t.length)])), (b1, .inl (g.2.1, 61, .inl c3)), (b2, .inl (g.2.1, 61, .inl o3)), (b3, .inl (g.2.1, 61, .inl n3)), (b4, .inl (g.2.1, 61, .inl ff2)), (xe, .inr (1, [.ref xea])), (xea, .inl (g.2.2, 23, .inr (.inl w3))), (xd, .inr (1, [.ref xda])), (xda, .inl (g.2.2, 23, .inr (.inl fw)))] := hD
    refine si_if_ne (tgt := 47) hx hb zdX_load_42 rfl (si_bn _) (fun h42 => ?_) (fun h42 => ?_)
    · have hb1 := si_b1 h42
      have his : si_is fw t sr := ⟨ho, hs1, hs2, fun k9 hk9 => by rw [← hiff.mp hb1 k9 hk9, hw3 k9 hk9]⟩
      refine lv_aload_n hx hb zdX_load_47 rfl (lv_at hl 0 rfl) ?_
      refine va_get (D := g.1) (ci := 5) (v := .ref xl) (C := zRX) (T := zTX) (N := 7) hx hb hts ziX hown hK hP 0 rfl rfl 5 (by decide) (hts _ zlX_41) (fun _ h => h) rfl zdX_load_48 ?_
      refine lv_astore_n (lv' := [(1, .ref xl), (0, .ref x0)]) hx hb zdX_load_51 rfl hl (Nat.le_of_ble_eq_true rfl) rfl (fun ls hl => ?_)
      refine lv_aload_n hx hb zdX_load_52 rfl (lv_at hl 1 rfl) ?_
      refine lv_aload_n hx hb zdX_load_53 rfl (lv_at hl 1 rfl) ?_
      refine va_get (D := g.1) (ci := 5) (v := .ref xt) (C := zRX) (T := zTX) (N := 7) hx hb hts ziX hown hK hP 0 rfl rfl 6 (by decide) (hts _ zlX_45) (fun _ h => h) rfl zdX_load_54 ?_
      refine va_put (D := g.1) (ci := 5) (v := .ref xt) (ty := (.object "SelfIndexImage$Reading")) (C := zRX) (T := zTX) (N := 7) hx hb hts ziX ztX ztoX znX hown hK hP hD hS 0 rfl rfl 5 (by decide) (hts _ zlX_41) (fun _ h => h) rfl (by decide +kernel) rfl rfl (Nat.le_of_ble_eq_true rfl) zdX_load_57 (fun H locs hP hD hS => ?_)
      have hP : va_P g.1 vwCl [(x0, .inr (5, [.ref xw, .ref xp, .ref xd, .ref xe, .ref xb, .ref xt, .ref xt])), (xt, .inr (3, [.ref tt, .ref tz, .int (nI sr)])), (tt, .inr (2, [.ref tta, .int (nI t.length)])), (tta, .inl (g.2.1, 60, .inl f2)), (tz, .inr (4, [.ref tsr, .ref tsp, .int (nI t.length)])), (tsr, .inl (g.2.1, 61, .inl fr3)), (tsp, .inl (g.2.1, 61, .inl fp3)), (xb, .inr (0, [.ref b1, .ref b2, .ref b3, .ref b4, .int (nI t.length)])), (b1, .inl (g.2.1, 61, .inl c3)), (b2, .inl (g.2.1, 61, .inl o3)), (b3, .inl (g.2.1, 61, .inl n3)), (b4, .inl (g.2.1, 61, .inl ff2)), (xe, .inr (1, [.ref xea])), (xea, .inl (g.2.2, 23, .inr (.inl w3))), (xd, .inr (1, [.ref xda])), (xda, .inl (g.2.2, 23, .inr (.inl fw)))] H := hP
      have hD : va_D A [(x0, .inr (5, [.ref xw, .ref xp, .ref xd, .ref xe, .ref xb, .ref xt, .ref xt])), (xt, .inr (3, [.ref tt, .ref tz, .int (nI sr)])), (tt, .inr (2, [.ref tta, .int (nI t.length)])), (tta, .inl (g.2.1, 60, .inl f2)), (tz, .inr (4, [.ref tsr, .ref tsp, .int (nI t.length)])), (tsr, .inl (g.2.1, 61, .inl fr3)), (tsp, .inl (g.2.1, 61, .inl fp3)), (xb, .inr (0, [.ref b1, .ref b2, .ref b3, .ref b4, .int (nI t.length)])), (b1, .inl (g.2.1, 61, .inl c3)), (b2, .inl (g.2.1, 61, .inl o3)), (b3, .inl (g.2.1, 61, .inl n3)), (b4, .inl (g.2.1, 61, .inl ff2)), (xe, .inr (1, [.ref xea])), (xea, .inl (g.2.2, 23, .inr (.inl w3))), (xd, .inr (1, [.ref xda])), (xda, .inl (g.2.2, 23, .inr (.inl fw)))] := hD
      refine lv_aload_n hx hb zdX_load_60 rfl (lv_at hl 1 rfl) ?_
      refine lv_aload_n hx hb zdX_load_61 rfl (lv_at hl 0 rfl) ?_
      refine va_put (D := g.1) (ci := 5) (v := .ref xl) (ty := (.object "SelfIndexImage$Reading")) (C := zRX) (T := zTX) (N := 7) hx hb hts ziX ztX ztoX znX hown hK hP hD hS 0 rfl rfl 6 (by decide) (hts _ zlX_45) (fun _ h => h) rfl (by decide +kernel) rfl rfl (Nat.le_of_ble_eq_true rfl) zdX_load_62 (fun H locs hP hD hS => ?_)
      have hP : va_P g.1 vwCl [(x0, .inr (5, [.ref xw, .ref xp, .ref xd, .ref xe, .ref xb, .ref xt, .ref xl])), (xt, .inr (3, [.ref tt, .ref tz, .int (nI sr)])), (tt, .inr (2, [.ref tta, .int (nI t.length)])), (tta, .inl (g.2.1, 60, .inl f2)), (tz, .inr (4, [.ref tsr, .ref tsp, .int (nI t.length)])), (tsr, .inl (g.2.1, 61, .inl fr3)), (tsp, .inl (g.2.1, 61, .inl fp3)), (xb, .inr (0, [.ref b1, .ref b2, .ref b3, .ref b4, .int (nI t.length)])), (b1, .inl (g.2.1, 61, .inl c3)), (b2, .inl (g.2.1, 61, .inl o3)), (b3, .inl (g.2.1, 61, .inl n3)), (b4, .inl (g.2.1, 61, .inl ff2)), (xe, .inr (1, [.ref xea])), (xea, .inl (g.2.2, 23, .inr (.inl w3))), (xd, .inr (1, [.ref xda])), (xda, .inl (g.2.2, 23, .inr (.inl fw)))] H := hP
      have hD : va_D A [(x0, .inr (5, [.ref xw, .ref xp, .ref xd, .ref xe, .ref xb, .ref xt, .ref xl])), (xt, .inr (3, [.ref tt, .ref tz, .int (nI sr)])), (tt, .inr (2, [.ref tta, .int (nI t.length)])), (tta, .inl (g.2.1, 60, .inl f2)), (tz, .inr (4, [.ref tsr, .ref tsp, .int (nI t.length)])), (tsr, .inl (g.2.1, 61, .inl fr3)), (tsp, .inl (g.2.1, 61, .inl fp3)), (xb, .inr (0, [.ref b1, .ref b2, .ref b3, .ref b4, .int (nI t.length)])), (b1, .inl (g.2.1, 61, .inl c3)), (b2, .inl (g.2.1, 61, .inl o3)), (b3, .inl (g.2.1, 61, .inl n3)), (b4, .inl (g.2.1, 61, .inl ff2)), (xe, .inr (1, [.ref xea])), (xea, .inl (g.2.2, 23, .inr (.inl w3))), (xd, .inr (1, [.ref xda])), (xda, .inl (g.2.2, 23, .inr (.inl fw)))] := hD
      refine lv_iconst (v := nI 1) hx hb zdX_load_65 (by decide) ?_
      exact hret (nI 1) (xt, xl, nI sr, f2, t.length, fr3, fp3, nI t.length, c3, o3, n3, ff2, nI t.length, w3) _ _ _ _ (rfl) (Or.inl ⟨rfl, rfl, rfl, t, sr, his, rfl, rfl, hln, hsu⟩) (hP.sub [0, 1, 2, 3, 4, 5, 6, 7, 8, 9, 10, 11, 14, 15, 12, 13] rfl) (hD.sub [0, 1, 2, 3, 4, 5, 6, 7, 8, 9, 10, 11, 14, 15, 12, 13] (by decide) rfl) hS zdX_load_66
    · have hb0 := si_b0 h42
      have hno : ∀ v k, ¬ si_is fw v k := by
        intro v k hv
        obtain ⟨e3, e4⟩ := hall v k hv
        subst e3 e4
        rw [hiff.mpr (fun k9 hk9 => by rw [hw3 k9 hk9, hv.2.2.2 k9 hk9])] at hb0
        cases hb0
      refine lv_iconst (v := nI 0) hx hb zdX_load_45 (by decide) ?_
      exact hret (nI 0) (xl, xt, nI sr, f2, t.length, fr3, fp3, nI t.length, c3, o3, n3, ff2, nI t.length, w3) _ _ _ _ (rfl) (Or.inr ⟨rfl, rfl, rfl, hno⟩) (hP.sub [0, 1, 2, 3, 4, 5, 6, 7, 8, 9, 10, 11, 14, 15, 12, 13] rfl) (hD.sub [0, 1, 2, 3, 4, 5, 6, 7, 8, 9, 10, 11, 14, 15, 12, 13] (by decide) rfl) hS zdX_load_46
  · have hno := (si_or_r hq (fun z => absurd (h4.symm.trans z.1) (by decide))).2
    refine lv_iconst (v := nI 0) hx hb zdX_load_7 (by decide) ?_
    exact hret (nI 0) (xl, xt, rt2, f2, z2, fr, fp, ta, c2, o2, n2, ff2, lb2, fe) _ _ _ _ (rfl) (Or.inr ⟨rfl, rfl, rfl, hno⟩) (hP.sub [5, 6, 7, 8, 0, 1, 2, 9, 10, 11, 12, 13, 14, 15, 3, 4] rfl) (hD.sub [5, 6, 7, 8, 0, 1, 2, 9, 10, 11, 12, 13, 14, 15, 3, 4] (by decide) rfl) hS zdX_load_8
end
section
/-! Contracts of the reference: sorting, levels. Written by wip/draft/p23.py -/
theorem si_ear {t : List Nat} {a b : Nat} (hok : si_ok t) (ha : a ≤ t.length) (hb : b ≤ t.length) (hne : a ≠ b) (hst : a = t.length ∨ b = t.length ∨ si_g t a ≠ si_g t b) : si_sf t a b = decide (si_g t a < si_g t b) := by
  by_cases ea : a = t.length
  · have hb2 : b < t.length := by omega
    have := si_ok_at hok hb2
    rw [ea, si_sf_e hb2, si_g_out (Nat.le_refl _)]
    exact (decide_eq_true (by omega)).symm
  · by_cases eb : b = t.length
    · rw [eb, si_sf_n, si_g_out (Nat.le_refl t.length)]
      exact (decide_eq_false (by omega)).symm
    · have h1 : si_g t a ≠ si_g t b := by
        rcases hst with h | h | h
        · exact absurd h ea
        · exact absurd h eb
        · exact h
      by_cases h2 : si_g t a < si_g t b
      · rw [si_sm_lt ha (by omega) h2, decide_eq_true h2]
      · rw [si_sm_gt ha (by omega) (by omega), decide_eq_false h2]
theorem si_k1 {t : List Nat} {f : Nat → Int32} (h : ∀ x, x < t.length → f x = nI (si_g t x)) : ∀ x, x < t.length + 1 → upd f t.length (nI 0) x = nI (si_g t x) := by
  intro x hx
  by_cases e : x = t.length
  · subst e; rw [pk_us, si_g_out (Nat.le_refl _)]
  · rw [pk_un e]; exact h x (by omega)
set_option maxHeartbeats 4000000 in
set_option maxRecDepth 100000 in
/-- earlier -/
theorem cM_earlier (l : Launch) (g : si_G) (y0 mW mD mT mP mR mA mK mO mB mI mN mH mC : Nat) (zs zt zn ze za : Int32) (fk : Nat → Int32) (t : List Nat) (kq kp : Nat) (hok : si_ok t) (hK1 : ∀ x, x < t.length + 1 → fk x = nI (si_g t x)) (hq : kq ≤ t.length) (hp : kp ≤ t.length) (hne0 : kq ≠ kp) : si_Mi (S := Unit) l g vwCl zyM_earlier zwM_earlier ({ frames := 0, cells := 0, slots := 0, locals := 0 } : Room) [.ref y0, .int (nI kq), .int (nI kp)] [(y0, .inr (6, [.int zs, .ref mW, .ref mD, .int zt, .int zn, .ref mT, .int ze, .ref mP, .ref mR, .int za, .ref mA, .int (nI t.length), .ref mK, .ref mO, .ref mB, .ref mI, .ref mN, .ref mH, .ref mC])), (mK, .inl (g.2.1, 61, .inl fk))] (fun r u => r = nI (si_sf t kq kp).toNat) (fun u => [(y0, .inr (6, [.int zs, .ref mW, .ref mD, .int zt, .int zn, .ref mT, .int ze, .ref mP, .ref mR, .int za, .ref mA, .int (nI t.length), .ref mK, .ref mO, .ref mB, .ref mI, .ref mN, .ref mH, .ref mC])), (mK, .inl (g.2.1, 61, .inl fk))]) := by
  refine si_Mi.of (cc := zkM_earlier) (maxL := 5) (by decide) rfl (Nat.le_of_ble_eq_true rfl) ?_
  intro p e s m args below meth c A Q ls hF0 hin hK hN hP hD hA hS hl hret
  obtain ⟨hx, hb, hml, hown, hts0⟩ := hF0
  have hts : ∀ w ∈ si_tbl, w.before args s = true := fun w hw => hts0 w (List.mem_cons_of_mem _ hw)
  have hF : CallFix p m c zkM_earlier 5 s args si_tbl zRM := ⟨hx, hb, hml, hown, hts⟩
  have hl : lv_has ls 5 [(0, .ref y0), (1, .int (nI kq)), (2, .int (nI kp))] := hl
  have hn := hok.1
  refine lv_iload_n hx hb zdM_earlier_0 rfl (lv_at hl 1 rfl) ?_
  refine lv_istore_n (lv' := [(3, .int (nI kq)), (0, .ref y0), (1, .int (nI kq)), (2, .int (nI kp))]) hx hb zdM_earlier_1 rfl hl (Nat.le_of_ble_eq_true rfl) rfl (fun ls hl => ?_)
  refine lv_iload_n hx hb zdM_earlier_2 rfl (lv_at hl 3 rfl) ?_
  refine lv_istore (lv' := [(4, .int (nI kp)), (3, .int (nI kq)), (0, .ref y0), (1, .int (nI kq)), (2, .int (nI kp))]) hx hb zdM_earlier_3 hl (Nat.le_of_ble_eq_true rfl) rfl (fun ls hl => ?_)
  have L5 : ∀ (N : Nat) (a : Nat) (b : Nat) (H : Heap) (locs : List Loc) (ls : Array Slot), t.length - a < N → (a ≤ t.length) → (b ≤ t.length) → (a ≠ b) → (si_sf t kq kp = si_sf t a b) → lv_has ls 5 [(0, .ref y0), (1, .int (nI kq)), (2, .int (nI kp)), (3, .int (nI a)), (4, .int (nI b))] → va_P g.1 vwCl [(y0, .inr (6, [.int zs, .ref mW, .ref mD, .int zt, .int zn, .ref mT, .int ze, .ref mP, .ref mR, .int za, .ref mA, .int (nI t.length), .ref mK, .ref mO, .ref mB, .ref mI, .ref mN, .ref mH, .ref mC])), (mK, .inl (g.2.1, 61, .inl fk))] H → va_D A [(y0, .inr (6, [.int zs, .ref mW, .ref mD, .int zt, .int zn, .ref mT, .int ze, .ref mP, .ref mR, .int za, .ref mA, .int (nI t.length), .ref mK, .ref mO, .ref mB, .ref mI, .ref mN, .ref mH, .ref mC])), (mK, .inl (g.2.1, 61, .inl fk))] → va_S A s.heap H locs → W p l e ({ frames := 0, cells := 0, slots := 0, locals := 0 } : Room) s m args below meth c H locs 0 0 Q (F0 m 5 ls []) := by
    intro N
    induction N with
    | zero => intro a b H locs ls hMs; exact absurd hMs (Nat.not_lt_zero _)
    | succ N ih5 =>
      intro a b H locs ls hMs ha hb2 hne hsf hl hP hD hS
      refine lv_iload_n hx hb zdM_earlier_5 rfl (lv_at hl 3 rfl) ?_
      refine lv_aload_n hx hb zdM_earlier_6 rfl (lv_at hl 0 rfl) ?_
      refine va_get (D := g.1) (ci := 6) (v := .int (nI t.length)) (C := zRM) (T := zTM) (N := 19) hx hb hts ziM hown hK hP 0 rfl rfl 11 (by decide) (hts _ zlM_54) (fun _ h => h) rfl zdM_earlier_7 ?_
      refine si_icmp_ge (tgt := 47) hx hb zdM_earlier_10 rfl (by omega) (by omega) (fun h10 => ?_) (fun h10 => ?_)
      · have hst : a = t.length ∨ b = t.length ∨ si_g t a ≠ si_g t b := Or.inl (by omega)
        refine lv_aload_n hx hb zdM_earlier_47 rfl (lv_at hl 0 rfl) ?_
        refine va_get (D := g.1) (ci := 6) (v := .ref mK) (C := zRM) (T := zTM) (N := 19) hx hb hts ziM hown hK hP 0 rfl rfl 12 (by decide) (hts _ zlM_29) (fun _ h => h) rfl zdM_earlier_48 ?_
        refine lv_iload_n hx hb zdM_earlier_51 rfl (lv_at hl 3 rfl) ?_
        refine si_iald (v := nI (si_g t a)) hx hb hK hP 1 0 rfl rfl (by decide) (by omega) (hK1 a (by omega)) zdM_earlier_52 ?_
        refine lv_aload_n hx hb zdM_earlier_53 rfl (lv_at hl 0 rfl) ?_
        refine va_get (D := g.1) (ci := 6) (v := .ref mK) (C := zRM) (T := zTM) (N := 19) hx hb hts ziM hown hK hP 0 rfl rfl 12 (by decide) (hts _ zlM_29) (fun _ h => h) rfl zdM_earlier_54 ?_
        refine lv_iload hx hb zdM_earlier_57 (lv_at hl 4 rfl) ?_
        refine si_iald (v := nI (si_g t b)) hx hb hK hP 1 0 rfl rfl (by decide) (by omega) (hK1 b (by omega)) zdM_earlier_59 ?_
        refine si_icmp_ge (tgt := 67) hx hb zdM_earlier_60 rfl (si_g_lt hok.2) (si_g_lt hok.2) (fun h60 => ?_) (fun h60 => ?_)
        · have hres : si_sf t kq kp = false := by rw [hsf, si_ear hok ha hb2 hne hst]; exact decide_eq_false (by omega)
          refine lv_iconst (v := nI 0) hx hb zdM_earlier_67 (by decide) ?_
          exact hret (nI 0) () _ _ _ _ (rfl) (by rw [hres]; rfl) (hP.sub [0, 1] rfl) (hD.sub [0, 1] (by decide) rfl) hS zdM_earlier_68
        · have hres : si_sf t kq kp = true := by rw [hsf, si_ear hok ha hb2 hne hst]; exact decide_eq_true h60
          refine lv_iconst (v := nI 1) hx hb zdM_earlier_63 (by decide) ?_
          refine lv_goto (tgt := 68) hx hb zdM_earlier_64 rfl ?_
          exact hret (nI 1) () _ _ _ _ (rfl) (by rw [hres]; rfl) (hP.sub [0, 1] rfl) (hD.sub [0, 1] (by decide) rfl) hS zdM_earlier_68
      · refine lv_iload hx hb zdM_earlier_13 (lv_at hl 4 rfl) ?_
        refine lv_aload_n hx hb zdM_earlier_15 rfl (lv_at hl 0 rfl) ?_
        refine va_get (D := g.1) (ci := 6) (v := .int (nI t.length)) (C := zRM) (T := zTM) (N := 19) hx hb hts ziM hown hK hP 0 rfl rfl 11 (by decide) (hts _ zlM_54) (fun _ h => h) rfl zdM_earlier_16 ?_
        refine si_icmp_ge (tgt := 47) hx hb zdM_earlier_19 rfl (by omega) (by omega) (fun h19 => ?_) (fun h19 => ?_)
        · have hst : a = t.length ∨ b = t.length ∨ si_g t a ≠ si_g t b := Or.inr (Or.inl (by omega))
          refine lv_aload_n hx hb zdM_earlier_47 rfl (lv_at hl 0 rfl) ?_
          refine va_get (D := g.1) (ci := 6) (v := .ref mK) (C := zRM) (T := zTM) (N := 19) hx hb hts ziM hown hK hP 0 rfl rfl 12 (by decide) (hts _ zlM_29) (fun _ h => h) rfl zdM_earlier_48 ?_
          refine lv_iload_n hx hb zdM_earlier_51 rfl (lv_at hl 3 rfl) ?_
          refine si_iald (v := nI (si_g t a)) hx hb hK hP 1 0 rfl rfl (by decide) (by omega) (hK1 a (by omega)) zdM_earlier_52 ?_
          refine lv_aload_n hx hb zdM_earlier_53 rfl (lv_at hl 0 rfl) ?_
          refine va_get (D := g.1) (ci := 6) (v := .ref mK) (C := zRM) (T := zTM) (N := 19) hx hb hts ziM hown hK hP 0 rfl rfl 12 (by decide) (hts _ zlM_29) (fun _ h => h) rfl zdM_earlier_54 ?_
          refine lv_iload hx hb zdM_earlier_57 (lv_at hl 4 rfl) ?_
          refine si_iald (v := nI (si_g t b)) hx hb hK hP 1 0 rfl rfl (by decide) (by omega) (hK1 b (by omega)) zdM_earlier_59 ?_
          refine si_icmp_ge (tgt := 67) hx hb zdM_earlier_60 rfl (si_g_lt hok.2) (si_g_lt hok.2) (fun h60 => ?_) (fun h60 => ?_)
          · have hres : si_sf t kq kp = false := by rw [hsf, si_ear hok ha hb2 hne hst]; exact decide_eq_false (by omega)
            refine lv_iconst (v := nI 0) hx hb zdM_earlier_67 (by decide) ?_
            exact hret (nI 0) () _ _ _ _ (rfl) (by rw [hres]; rfl) (hP.sub [0, 1] rfl) (hD.sub [0, 1] (by decide) rfl) hS zdM_earlier_68
          · have hres : si_sf t kq kp = true := by rw [hsf, si_ear hok ha hb2 hne hst]; exact decide_eq_true h60
            refine lv_iconst (v := nI 1) hx hb zdM_earlier_63 (by decide) ?_
            refine lv_goto (tgt := 68) hx hb zdM_earlier_64 rfl ?_
            exact hret (nI 1) () _ _ _ _ (rfl) (by rw [hres]; rfl) (hP.sub [0, 1] rfl) (hD.sub [0, 1] (by decide) rfl) hS zdM_earlier_68
        · refine lv_aload_n hx hb zdM_earlier_22 rfl (lv_at hl 0 rfl) ?_
          refine va_get (D := g.1) (ci := 6) (v := .ref mK) (C := zRM) (T := zTM) (N := 19) hx hb hts ziM hown hK hP 0 rfl rfl 12 (by decide) (hts _ zlM_29) (fun _ h => h) rfl zdM_earlier_23 ?_
          refine lv_iload_n hx hb zdM_earlier_26 rfl (lv_at hl 3 rfl) ?_
          refine si_iald (v := nI (si_g t a)) hx hb hK hP 1 0 rfl rfl (by decide) (by omega) (hK1 a (by omega)) zdM_earlier_27 ?_
          refine lv_aload_n hx hb zdM_earlier_28 rfl (lv_at hl 0 rfl) ?_
          refine va_get (D := g.1) (ci := 6) (v := .ref mK) (C := zRM) (T := zTM) (N := 19) hx hb hts ziM hown hK hP 0 rfl rfl 12 (by decide) (hts _ zlM_29) (fun _ h => h) rfl zdM_earlier_29 ?_
          refine lv_iload hx hb zdM_earlier_32 (lv_at hl 4 rfl) ?_
          refine si_iald (v := nI (si_g t b)) hx hb hK hP 1 0 rfl rfl (by decide) (by omega) (hK1 b (by omega)) zdM_earlier_34 ?_
          refine si_icmp_ne (tgt := 47) hx hb zdM_earlier_35 rfl (si_g_lt hok.2) (si_g_lt hok.2) (fun h35 => ?_) (fun h35 => ?_)
          · have hst : a = t.length ∨ b = t.length ∨ si_g t a ≠ si_g t b := Or.inr (Or.inr h35)
            refine lv_aload_n hx hb zdM_earlier_47 rfl (lv_at hl 0 rfl) ?_
            refine va_get (D := g.1) (ci := 6) (v := .ref mK) (C := zRM) (T := zTM) (N := 19) hx hb hts ziM hown hK hP 0 rfl rfl 12 (by decide) (hts _ zlM_29) (fun _ h => h) rfl zdM_earlier_48 ?_
            refine lv_iload_n hx hb zdM_earlier_51 rfl (lv_at hl 3 rfl) ?_
            refine si_iald (v := nI (si_g t a)) hx hb hK hP 1 0 rfl rfl (by decide) (by omega) (hK1 a (by omega)) zdM_earlier_52 ?_
            refine lv_aload_n hx hb zdM_earlier_53 rfl (lv_at hl 0 rfl) ?_
            refine va_get (D := g.1) (ci := 6) (v := .ref mK) (C := zRM) (T := zTM) (N := 19) hx hb hts ziM hown hK hP 0 rfl rfl 12 (by decide) (hts _ zlM_29) (fun _ h => h) rfl zdM_earlier_54 ?_
            refine lv_iload hx hb zdM_earlier_57 (lv_at hl 4 rfl) ?_
            refine si_iald (v := nI (si_g t b)) hx hb hK hP 1 0 rfl rfl (by decide) (by omega) (hK1 b (by omega)) zdM_earlier_59 ?_
            refine si_icmp_ge (tgt := 67) hx hb zdM_earlier_60 rfl (si_g_lt hok.2) (si_g_lt hok.2) (fun h60 => ?_) (fun h60 => ?_)
            · have hres : si_sf t kq kp = false := by rw [hsf, si_ear hok ha hb2 hne hst]; exact decide_eq_false (by omega)
              refine lv_iconst (v := nI 0) hx hb zdM_earlier_67 (by decide) ?_
              exact hret (nI 0) () _ _ _ _ (rfl) (by rw [hres]; rfl) (hP.sub [0, 1] rfl) (hD.sub [0, 1] (by decide) rfl) hS zdM_earlier_68
            · have hres : si_sf t kq kp = true := by rw [hsf, si_ear hok ha hb2 hne hst]; exact decide_eq_true h60
              refine lv_iconst (v := nI 1) hx hb zdM_earlier_63 (by decide) ?_
              refine lv_goto (tgt := 68) hx hb zdM_earlier_64 rfl ?_
              exact hret (nI 1) () _ _ _ _ (rfl) (by rw [hres]; rfl) (hP.sub [0, 1] rfl) (hD.sub [0, 1] (by decide) rfl) hS zdM_earlier_68
          · refine lv_iinc (k := 3) (v := nI (a + 1)) (lv' := [(3, .int (nI (a + 1))), (0, .ref y0), (1, .int (nI kq)), (2, .int (nI kp)), (4, .int (nI b))]) hx hb zdM_earlier_38 hl rfl (si_inc _) (Nat.le_of_ble_eq_true rfl) rfl (fun ls hl => ?_)
            refine lv_iinc (k := 4) (v := nI (b + 1)) (lv' := [(4, .int (nI (b + 1))), (3, .int (nI (a + 1))), (0, .ref y0), (1, .int (nI kq)), (2, .int (nI kp))]) hx hb zdM_earlier_41 hl rfl (si_inc _) (Nat.le_of_ble_eq_true rfl) rfl (fun ls hl => ?_)
            refine lv_goto (tgt := 5) hx hb zdM_earlier_44 rfl ?_
            exact ih5 (a + 1) (b + 1) _ _ _ (by omega) (by omega) (by omega) (by omega) (by rw [hsf]; exact si_sm_eq (by omega) (by omega) h35) (lv_sub hl [2, 3, 4, 1, 0] rfl) (hP.sub [0, 1] rfl) (hD.sub [0, 1] (by decide) rfl) hS
  exact L5 (t.length - kq + 1) kq kp _ _ _ (by omega) (hq) (hp) (hne0) (rfl) (lv_sub hl [2, 3, 4, 1, 0] rfl) (hP.sub [0, 1] rfl) (hD.sub [0, 1] (by decide) rfl) hS

set_option maxHeartbeats 4000000 in
set_option maxRecDepth 100000 in
/-- sort -/
theorem cM_sort (l : Launch) (g : si_G) (y0 mW mD mT mP mR mA mK mO mB mI mN mH mC : Nat) (zs zt zn ze za : Int32) (fk fo fb : Nat → Int32) (t : List Nat) (hok : si_ok t) (hK0 : ∀ x, x < t.length → fk x = nI (si_g t x)) : si_Mv (S := (Nat → Int32) × (Nat → Int32) × (Nat → Int32)) l g vwCl zyM_sort zwM_sort ({ frames := 1, cells := 0, slots := 0, locals := 24 } : Room) [.ref y0] [(y0, .inr (6, [.int zs, .ref mW, .ref mD, .int zt, .int zn, .ref mT, .int ze, .ref mP, .ref mR, .int za, .ref mA, .int (nI t.length), .ref mK, .ref mO, .ref mB, .ref mI, .ref mN, .ref mH, .ref mC])), (mK, .inl (g.2.1, 61, .inl fk)), (mO, .inl (g.2.1, 61, .inl fo)), (mB, .inl (g.2.1, 61, .inl fb))] (fun u => (∀ x, x < t.length + 1 → u.1 x = nI (si_g t x)) ∧ si_su t u.2.2 u.2.1) (fun u => [(y0, .inr (6, [.int zs, .ref mW, .ref mD, .int zt, .int zn, .ref mT, .int ze, .ref mP, .ref mR, .int za, .ref mA, .int (nI t.length), .ref mK, .ref mO, .ref mB, .ref mI, .ref mN, .ref mH, .ref mC])), (mK, .inl (g.2.1, 61, .inl u.1)), (mO, .inl (g.2.1, 61, .inl u.2.1)), (mB, .inl (g.2.1, 61, .inl u.2.2))]) := by
  refine si_Mv.of (cc := zkM_sort) (maxL := 4) (by decide) rfl (Nat.le_of_ble_eq_true rfl) ?_
  intro p e s m args below meth c A Q ls hF0 hin hK hN hP hD hA hS hl hret
  obtain ⟨hx, hb, hml, hown, hts0⟩ := hF0
  have hts : ∀ w ∈ si_tbl, w.before args s = true := fun w hw => hts0 w (List.mem_cons_of_mem _ hw)
  have hF : CallFix p m c zkM_sort 4 s args si_tbl zRM := ⟨hx, hb, hml, hown, hts⟩
  have hl : lv_has ls 4 [(0, .ref y0)] := hl
  have hn := hok.1
  refine lv_aload_n hx hb zdM_sort_0 rfl (lv_at hl 0 rfl) ?_
  refine va_get (D := g.1) (ci := 6) (v := .ref mK) (C := zRM) (T := zTM) (N := 19) hx hb hts ziM hown hK hP 0 rfl rfl 12 (by decide) (hts _ zlM_29) (fun _ h => h) rfl zdM_sort_1 ?_
  refine lv_aload_n hx hb zdM_sort_4 rfl (lv_at hl 0 rfl) ?_
  refine va_get (D := g.1) (ci := 6) (v := .int (nI t.length)) (C := zRM) (T := zTM) (N := 19) hx hb hts ziM hown hK hP 0 rfl rfl 11 (by decide) (hts _ zlM_54) (fun _ h => h) rfl zdM_sort_5 ?_
  refine lv_iconst (v := nI 0) hx hb zdM_sort_8 (by decide) ?_
  refine si_iast hx hb hK hP hD hS 1 0 rfl rfl (by decide) (by omega) zdM_sort_9 (fun H locs hP hD hS => ?_)
  have hP : va_P g.1 vwCl [(y0, .inr (6, [.int zs, .ref mW, .ref mD, .int zt, .int zn, .ref mT, .int ze, .ref mP, .ref mR, .int za, .ref mA, .int (nI t.length), .ref mK, .ref mO, .ref mB, .ref mI, .ref mN, .ref mH, .ref mC])), (mK, .inl (g.2.1, 61, .inl (upd fk t.length (nI 0)))), (mO, .inl (g.2.1, 61, .inl fo)), (mB, .inl (g.2.1, 61, .inl fb))] H := hP
  have hD : va_D A [(y0, .inr (6, [.int zs, .ref mW, .ref mD, .int zt, .int zn, .ref mT, .int ze, .ref mP, .ref mR, .int za, .ref mA, .int (nI t.length), .ref mK, .ref mO, .ref mB, .ref mI, .ref mN, .ref mH, .ref mC])), (mK, .inl (g.2.1, 61, .inl (upd fk t.length (nI 0)))), (mO, .inl (g.2.1, 61, .inl fo)), (mB, .inl (g.2.1, 61, .inl fb))] := hD
  generalize hk1 : upd fk t.length (nI 0) = k1 at hP hD
  have hK1 : ∀ x, x < t.length + 1 → k1 x = nI (si_g t x) := by rw [← hk1]; exact si_k1 hK0
  refine lv_iconst (v := nI 0) hx hb zdM_sort_10 (by decide) ?_
  refine lv_istore_n (lv' := [(1, .int (nI 0)), (0, .ref y0)]) hx hb zdM_sort_11 rfl hl (Nat.le_of_ble_eq_true rfl) rfl (fun ls hl => ?_)
  have L12 : ∀ (N : Nat) (k : Nat) (o2 : Nat → Int32) (b2 : Nat → Int32) (H : Heap) (locs : List Loc) (ls : Array Slot), t.length + 1 - k < N → (k ≤ t.length + 1) → (∀ x, x < k → b2 x = nI (si_rk t x)) → (∀ x, x < k → o2 (si_rk t x) = nI x) → lv_has ls 4 [(0, .ref y0), (1, .int (nI k))] → va_P g.1 vwCl [(y0, .inr (6, [.int zs, .ref mW, .ref mD, .int zt, .int zn, .ref mT, .int ze, .ref mP, .ref mR, .int za, .ref mA, .int (nI t.length), .ref mK, .ref mO, .ref mB, .ref mI, .ref mN, .ref mH, .ref mC])), (mK, .inl (g.2.1, 61, .inl k1)), (mO, .inl (g.2.1, 61, .inl o2)), (mB, .inl (g.2.1, 61, .inl b2))] H → va_D A [(y0, .inr (6, [.int zs, .ref mW, .ref mD, .int zt, .int zn, .ref mT, .int ze, .ref mP, .ref mR, .int za, .ref mA, .int (nI t.length), .ref mK, .ref mO, .ref mB, .ref mI, .ref mN, .ref mH, .ref mC])), (mK, .inl (g.2.1, 61, .inl k1)), (mO, .inl (g.2.1, 61, .inl o2)), (mB, .inl (g.2.1, 61, .inl b2))] → va_S A s.heap H locs → W p l e ({ frames := 1, cells := 0, slots := 0, locals := 24 } : Room) s m args below meth c H locs 0 0 Q (F0 m 12 ls []) := by
    intro N
    induction N with
    | zero => intro k o2 b2 H locs ls hMs; exact absurd hMs (Nat.not_lt_zero _)
    | succ N ih12 =>
      intro k o2 b2 H locs ls hMs hk hB hO hl hP hD hS
      refine lv_iload_n hx hb zdM_sort_12 rfl (lv_at hl 1 rfl) ?_
      refine lv_aload_n hx hb zdM_sort_13 rfl (lv_at hl 0 rfl) ?_
      refine va_get (D := g.1) (ci := 6) (v := .int (nI t.length)) (C := zRM) (T := zTM) (N := 19) hx hb hts ziM hown hK hP 0 rfl rfl 11 (by decide) (hts _ zlM_54) (fun _ h => h) rfl zdM_sort_14 ?_
      refine si_icmp_gt (tgt := 80) hx hb zdM_sort_17 rfl (by omega) (by omega) (fun h17 => ?_) (fun h17 => ?_)
      · exact hret (k1, o2, b2) _ _ _ _ (⟨hK1, fun x hx => hB x (by omega), si_pl_of (fun x hx => hO x (by omega))⟩) (hP.sub [0, 1, 2, 3] rfl) (hD.sub [0, 1, 2, 3] (by decide) rfl) hS zdM_sort_80
      · refine lv_iconst (v := nI 0) hx hb zdM_sort_20 (by decide) ?_
        refine lv_istore_n (lv' := [(2, .int (nI 0)), (0, .ref y0), (1, .int (nI k))]) hx hb zdM_sort_21 rfl hl (Nat.le_of_ble_eq_true rfl) rfl (fun ls hl => ?_)
        refine lv_iconst (v := nI 0) hx hb zdM_sort_22 (by decide) ?_
        refine lv_istore_n (lv' := [(3, .int (nI 0)), (2, .int (nI 0)), (0, .ref y0), (1, .int (nI k))]) hx hb zdM_sort_23 rfl hl (Nat.le_of_ble_eq_true rfl) rfl (fun ls hl => ?_)
        have L24 : ∀ (N : Nat) (q : Nat) (row : Nat) (H : Heap) (locs : List Loc) (ls : Array Slot), t.length + 1 - q < N → (q ≤ t.length + 1) → (row = si_cn q (fun x => si_sf t x k)) → lv_has ls 4 [(0, .ref y0), (1, .int (nI k)), (2, .int (nI row)), (3, .int (nI q))] → va_P g.1 vwCl [(y0, .inr (6, [.int zs, .ref mW, .ref mD, .int zt, .int zn, .ref mT, .int ze, .ref mP, .ref mR, .int za, .ref mA, .int (nI t.length), .ref mK, .ref mO, .ref mB, .ref mI, .ref mN, .ref mH, .ref mC])), (mK, .inl (g.2.1, 61, .inl k1)), (mO, .inl (g.2.1, 61, .inl o2)), (mB, .inl (g.2.1, 61, .inl b2))] H → va_D A [(y0, .inr (6, [.int zs, .ref mW, .ref mD, .int zt, .int zn, .ref mT, .int ze, .ref mP, .ref mR, .int za, .ref mA, .int (nI t.length), .ref mK, .ref mO, .ref mB, .ref mI, .ref mN, .ref mH, .ref mC])), (mK, .inl (g.2.1, 61, .inl k1)), (mO, .inl (g.2.1, 61, .inl o2)), (mB, .inl (g.2.1, 61, .inl b2))] → va_S A s.heap H locs → W p l e ({ frames := 1, cells := 0, slots := 0, locals := 24 } : Room) s m args below meth c H locs 0 0 Q (F0 m 24 ls []) := by
          intro N
          induction N with
          | zero => intro q row H locs ls hMs; exact absurd hMs (Nat.not_lt_zero _)
          | succ N ih24 =>
            intro q row H locs ls hMs hq hrw hl hP hD hS
            refine lv_iload_n hx hb zdM_sort_24 rfl (lv_at hl 3 rfl) ?_
            refine lv_aload_n hx hb zdM_sort_25 rfl (lv_at hl 0 rfl) ?_
            refine va_get (D := g.1) (ci := 6) (v := .int (nI t.length)) (C := zRM) (T := zTM) (N := 19) hx hb hts ziM hown hK hP 0 rfl rfl 11 (by decide) (hts _ zlM_54) (fun _ h => h) rfl zdM_sort_26 ?_
            refine si_icmp_gt (tgt := 60) hx hb zdM_sort_29 rfl (by omega) (by omega) (fun h29 => ?_) (fun h29 => ?_)
            · have hrow : row = si_rk t k := by rw [hrw, show q = t.length + 1 by omega]; rfl
              have hrk := si_rk_le (t := t) (p := k) (by omega)
              refine lv_aload_n hx hb zdM_sort_60 rfl (lv_at hl 0 rfl) ?_
              refine va_get (D := g.1) (ci := 6) (v := .ref mB) (C := zRM) (T := zTM) (N := 19) hx hb hts ziM hown hK hP 0 rfl rfl 14 (by decide) (hts _ zlM_35) (fun _ h => h) rfl zdM_sort_61 ?_
              refine lv_iload_n hx hb zdM_sort_64 rfl (lv_at hl 1 rfl) ?_
              refine lv_iload_n hx hb zdM_sort_65 rfl (lv_at hl 2 rfl) ?_
              refine si_iast hx hb hK hP hD hS 3 0 rfl rfl (by decide) (by omega) zdM_sort_66 (fun H locs hP hD hS => ?_)
              have hP : va_P g.1 vwCl [(y0, .inr (6, [.int zs, .ref mW, .ref mD, .int zt, .int zn, .ref mT, .int ze, .ref mP, .ref mR, .int za, .ref mA, .int (nI t.length), .ref mK, .ref mO, .ref mB, .ref mI, .ref mN, .ref mH, .ref mC])), (mK, .inl (g.2.1, 61, .inl k1)), (mO, .inl (g.2.1, 61, .inl o2)), (mB, .inl (g.2.1, 61, .inl (upd b2 k (nI row))))] H := hP
              have hD : va_D A [(y0, .inr (6, [.int zs, .ref mW, .ref mD, .int zt, .int zn, .ref mT, .int ze, .ref mP, .ref mR, .int za, .ref mA, .int (nI t.length), .ref mK, .ref mO, .ref mB, .ref mI, .ref mN, .ref mH, .ref mC])), (mK, .inl (g.2.1, 61, .inl k1)), (mO, .inl (g.2.1, 61, .inl o2)), (mB, .inl (g.2.1, 61, .inl (upd b2 k (nI row))))] := hD
              refine lv_aload_n hx hb zdM_sort_67 rfl (lv_at hl 0 rfl) ?_
              refine va_get (D := g.1) (ci := 6) (v := .ref mO) (C := zRM) (T := zTM) (N := 19) hx hb hts ziM hown hK hP 0 rfl rfl 13 (by decide) (hts _ zlM_32) (fun _ h => h) rfl zdM_sort_68 ?_
              refine lv_iload_n hx hb zdM_sort_71 rfl (lv_at hl 2 rfl) ?_
              refine lv_iload_n hx hb zdM_sort_72 rfl (lv_at hl 1 rfl) ?_
              refine si_iast hx hb hK hP hD hS 2 0 rfl rfl (by decide) (by omega) zdM_sort_73 (fun H locs hP hD hS => ?_)
              have hP : va_P g.1 vwCl [(y0, .inr (6, [.int zs, .ref mW, .ref mD, .int zt, .int zn, .ref mT, .int ze, .ref mP, .ref mR, .int za, .ref mA, .int (nI t.length), .ref mK, .ref mO, .ref mB, .ref mI, .ref mN, .ref mH, .ref mC])), (mK, .inl (g.2.1, 61, .inl k1)), (mO, .inl (g.2.1, 61, .inl (upd o2 row (nI k)))), (mB, .inl (g.2.1, 61, .inl (upd b2 k (nI row))))] H := hP
              have hD : va_D A [(y0, .inr (6, [.int zs, .ref mW, .ref mD, .int zt, .int zn, .ref mT, .int ze, .ref mP, .ref mR, .int za, .ref mA, .int (nI t.length), .ref mK, .ref mO, .ref mB, .ref mI, .ref mN, .ref mH, .ref mC])), (mK, .inl (g.2.1, 61, .inl k1)), (mO, .inl (g.2.1, 61, .inl (upd o2 row (nI k)))), (mB, .inl (g.2.1, 61, .inl (upd b2 k (nI row))))] := hD
              refine lv_iinc (k := 1) (v := nI (k + 1)) (lv' := [(1, .int (nI (k + 1))), (0, .ref y0), (2, .int (nI row)), (3, .int (nI q))]) hx hb zdM_sort_74 hl rfl (si_inc _) (Nat.le_of_ble_eq_true rfl) rfl (fun ls hl => ?_)
              refine lv_goto (tgt := 12) hx hb zdM_sort_77 rfl ?_
              exact ih12 (k + 1) (upd o2 row (nI k)) (upd b2 k (nI row)) _ _ _ (by omega) (by omega) (si_up (F := fun x => nI (si_rk t x)) hB (by rw [hrow])) (by rw [hrow]; exact si_plU (by omega) hO) (lv_sub hl [1, 0] rfl) (hP.sub [0, 1, 2, 3] rfl) (hD.sub [0, 1, 2, 3] (by decide) rfl) hS
            · have hrl : row ≤ q := by rw [hrw]; exact si_cn_le _ _
              refine lv_iload_n hx hb zdM_sort_32 rfl (lv_at hl 3 rfl) ?_
              refine lv_iload_n hx hb zdM_sort_33 rfl (lv_at hl 1 rfl) ?_
              refine si_icmp_eq (tgt := 52) hx hb zdM_sort_34 rfl (by omega) (by omega) (fun h34 => ?_) (fun h34 => ?_)
              · have hs2 : si_sf t q k = false := by rw [h34]; exact si_sl_rf _
                refine lv_iload_n hx hb zdM_sort_52 rfl (lv_at hl 2 rfl) ?_
                refine lv_istore_n (lv' := [(2, .int (nI row)), (0, .ref y0), (1, .int (nI k)), (3, .int (nI q))]) hx hb zdM_sort_53 rfl hl (Nat.le_of_ble_eq_true rfl) rfl (fun ls hl => ?_)
                refine lv_iinc (k := 3) (v := nI (q + 1)) (lv' := [(3, .int (nI (q + 1))), (2, .int (nI row)), (0, .ref y0), (1, .int (nI k))]) hx hb zdM_sort_54 hl rfl (si_inc _) (Nat.le_of_ble_eq_true rfl) rfl (fun ls hl => ?_)
                refine lv_goto (tgt := 24) hx hb zdM_sort_57 rfl ?_
                exact ih24 (q + 1) row _ _ _ (by omega) (by omega) (by first | (rw [si_cn_t (P := fun x => si_sf t x k) hs, hrw]; done) | (rw [si_cn_f (P := fun x => si_sf t x k) hs2, hrw]; done)) (lv_sub hl [2, 3, 1, 0] rfl) (hP.sub [0, 1, 2, 3] rfl) (hD.sub [0, 1, 2, 3] (by decide) rfl) hS
              · refine lv_aload_n hx hb zdM_sort_37 rfl (lv_at hl 0 rfl) ?_
                refine lv_iload_n hx hb zdM_sort_38 rfl (lv_at hl 3 rfl) ?_
                refine lv_iload_n hx hb zdM_sort_39 rfl (lv_at hl 1 rfl) ?_
                refine (cM_earlier l g y0 mW mD mT mP mR mA mK mO mB mI mN mH mC zs zt zn ze za k1 t q k hok hK1 (by omega) (by omega) h34).callV (wr := [(mO, .inl (g.2.1, 61, .inl o2)), (mB, .inl (g.2.1, 61, .inl b2))]) (As := [.int (nI q), .int (nI k)]) (rest := []) hF (si_cV 2 hts zcM_earlier zlM_57 zimM_earlier zseM_earlier ziniM zhM_earlier ⟨Nat.le_of_ble_eq_true rfl, Nat.le_of_ble_eq_true rfl⟩) hK hN hP hD hS hA [0, 1] [2, 3] rfl rfl (by decide) (by decide) (va_recv (q := (zRM, zTM, 19)) hK hP (ci := 6) (q0 := 0) rfl rfl) rfl hl.1 rfl (Nat.le_of_ble_eq_true rfl) zdM_sort_40 ⟨Nat.le_of_ble_eq_true rfl, Nat.le_of_ble_eq_true rfl⟩ rfl rfl (fun r_ _u H locs hq9 hP hD hS => ?_)
                subst hq9
                have hP : va_P g.1 vwCl [(mO, .inl (g.2.1, 61, .inl o2)), (mB, .inl (g.2.1, 61, .inl b2)), (y0, .inr (6, [.int zs, .ref mW, .ref mD, .int zt, .int zn, .ref mT, .int ze, .ref mP, .ref mR, .int za, .ref mA, .int (nI t.length), .ref mK, .ref mO, .ref mB, .ref mI, .ref mN, .ref mH, .ref mC])), (mK, .inl (g.2.1, 61, .inl k1))] H := hP
                have hD : va_D A [(mO, .inl (g.2.1, 61, .inl o2)), (mB, .inl (g.2.1, 61, .inl b2)), (y0, .inr (6, [.int zs, .ref mW, .ref mD, .int zt, .int zn, .ref mT, .int ze, .ref mP, .ref mR, .int za, .ref mA, .int (nI t.length), .ref mK, .ref mO, .ref mB, .ref mI, .ref mN, .ref mH, .ref mC])), (mK, .inl (g.2.1, 61, .inl k1))] := hD
                refine si_if_eq (tgt := 52) hx hb zdM_sort_43 rfl (si_bn _) (fun h43 => ?_) (fun h43 => ?_)
                · have hs2 := si_b0 h43
                  refine lv_iload_n hx hb zdM_sort_52 rfl (lv_at hl 2 rfl) ?_
                  refine lv_istore_n (lv' := [(2, .int (nI row)), (0, .ref y0), (1, .int (nI k)), (3, .int (nI q))]) hx hb zdM_sort_53 rfl hl (Nat.le_of_ble_eq_true rfl) rfl (fun ls hl => ?_)
                  refine lv_iinc (k := 3) (v := nI (q + 1)) (lv' := [(3, .int (nI (q + 1))), (2, .int (nI row)), (0, .ref y0), (1, .int (nI k))]) hx hb zdM_sort_54 hl rfl (si_inc _) (Nat.le_of_ble_eq_true rfl) rfl (fun ls hl => ?_)
                  refine lv_goto (tgt := 24) hx hb zdM_sort_57 rfl ?_
                  exact ih24 (q + 1) row _ _ _ (by omega) (by omega) (by first | (rw [si_cn_t (P := fun x => si_sf t x k) hs, hrw]; done) | (rw [si_cn_f (P := fun x => si_sf t x k) hs2, hrw]; done)) (lv_sub hl [2, 3, 1, 0] rfl) (hP.sub [2, 3, 0, 1] rfl) (hD.sub [2, 3, 0, 1] (by decide) rfl) hS
                · have hs := si_b1 h43
                  refine lv_iload_n hx hb zdM_sort_46 rfl (lv_at hl 2 rfl) ?_
                  refine lv_iconst (v := nI 1) hx hb zdM_sort_47 (by decide) ?_
                  refine si_iadd (v := nI (row + 1)) hx hb zdM_sort_48 (nI_add _ _) ?_
                  refine lv_goto (tgt := 53) hx hb zdM_sort_49 rfl ?_
                  refine lv_istore_n (lv' := [(2, .int (nI (row + 1))), (0, .ref y0), (1, .int (nI k)), (3, .int (nI q))]) hx hb zdM_sort_53 rfl hl (Nat.le_of_ble_eq_true rfl) rfl (fun ls hl => ?_)
                  refine lv_iinc (k := 3) (v := nI (q + 1)) (lv' := [(3, .int (nI (q + 1))), (2, .int (nI (row + 1))), (0, .ref y0), (1, .int (nI k))]) hx hb zdM_sort_54 hl rfl (si_inc _) (Nat.le_of_ble_eq_true rfl) rfl (fun ls hl => ?_)
                  refine lv_goto (tgt := 24) hx hb zdM_sort_57 rfl ?_
                  exact ih24 (q + 1) (row + 1) _ _ _ (by omega) (by omega) (by first | (rw [si_cn_t (P := fun x => si_sf t x k) hs, hrw]; done) | (rw [si_cn_f (P := fun x => si_sf t x k) hs2, hrw]; done)) (lv_sub hl [2, 3, 1, 0] rfl) (hP.sub [2, 3, 0, 1] rfl) (hD.sub [2, 3, 0, 1] (by decide) rfl) hS
        exact L24 (t.length + 1 - 0 + 1) 0 0 _ _ _ (by omega) (by omega) (rfl) (lv_sub hl [2, 3, 1, 0] rfl) (hP.sub [0, 1, 2, 3] rfl) (hD.sub [0, 1, 2, 3] (by decide) rfl) hS
  exact L12 (t.length + 1 - 0 + 1) 0 fo fb _ _ _ (by omega) (by omega) (fun x hx => absurd hx (Nat.not_lt_zero _)) (fun x hx => absurd hx (Nat.not_lt_zero _)) (lv_sub hl [1, 0] rfl) (hP.sub [0, 1, 2, 3] rfl) (hD.sub [0, 1, 2, 3] (by decide) rfl) hS

theorem si_B0 {t : List Nat} {k : Nat} (h : si_pl t k = 0) : nI 0 = nI (si_B t k) := by
  unfold si_B si_bf
  rw [if_pos h]
theorem si_B1 {t : List Nat} {k : Nat} (h : si_pl t k ≠ 0) : nI (si_g t (si_pl t k - 1)) = nI (si_B t k) := by
  unfold si_B si_bf
  rw [if_neg h]
theorem si_lN0 {k : Nat} (hk : k < 64) (w : Int64) : w ||| (lN 0 <<< ((nI k).toInt64 &&& 63)) = w := by
  rw [wb_shl 0 hk, Nat.zero_mul]
  exact si_or0 _
theorem si_bz1 (b : Bool) : lg_cmp (if b = true then 1 else 0) (lN 1) = 0 ↔ b = true := by
  rw [si_lc0]
  cases b
  · exact ⟨fun h => absurd h (by decide), fun h => absurd h (by decide)⟩
  · exact ⟨fun _ => rfl, fun _ => rfl⟩
theorem si_t1 {b : Bool} (h : b.toNat = 1) : b = true := by cases b <;> first | rfl | exact absurd h (by decide)
theorem si_t0 {b : Bool} (h : b.toNat ≠ 1) : b = false := by cases b <;> first | rfl | exact absurd rfl h
section SIPQ
variable {n1 i kk : Nat} {b : Nat → Bool} {f2 f3 : Nat → Int32}
theorem si_qZ (hkk : kk = si_cn i (fun k => !b k)) (hZ : ∀ x, x < i → b x = false → f3 (si_cn x (fun k => !b k)) = f2 x) : ∀ x, x < i + 1 → b x = false → upd f3 kk (f2 i) (si_cn x (fun k => !b k)) = f2 x := si_poZ hkk hZ
theorem si_qO (hkk : kk = si_cn n1 (fun k => !b k) + si_cn i b) (hO : ∀ x, x < i → b x = true → f3 (si_cn n1 (fun k => !b k) + si_cn x b) = f2 x) : ∀ x, x < i + 1 → b x = true → upd f3 kk (f2 i) (si_cn n1 (fun k => !b k) + si_cn x b) = f2 x := by
  intro x hx hbx
  by_cases e : x = i
  · subst e; rw [← hkk, pk_us]
  · have := si_cn_ups (show x < i by omega) hbx
    rw [pk_un (by omega)]; exact hO x (by omega) hbx
theorem si_qK (hkk : kk = si_cn n1 (fun k => !b k) + si_cn i b) (hZ : ∀ x, x < n1 → b x = false → f3 (si_cn x (fun k => !b k)) = f2 x) {v : Int32} : ∀ x, x < n1 → b x = false → upd f3 kk v (si_cn x (fun k => !b k)) = f2 x := by
  intro x hx hbx
  have := si_cn_ups (P := fun k => !b k) hx (by simp [hbx])
  rw [pk_un (by omega)]; exact hZ x hx hbx
theorem si_qE (hZ : ∀ x, x < n1 → b x = false → f3 (si_cn x (fun k => !b k)) = f2 x) (hO : ∀ x, x < n1 → b x = true → f3 (si_cn n1 (fun k => !b k) + si_cn x b) = f2 x) : ∀ x, x < n1 → f3 (si_ps n1 b x) = f2 x := by
  intro x hx
  cases hb : b x with
  | false => rw [si_ps_f hb]; exact hZ x hx hb
  | true => rw [si_ps_t hb]; exact hO x hx hb
end SIPQ
theorem si_uLo {f g : Nat → Int64} {k : Nat} {w : Int64} (h : ∀ x, x ≠ k → f x = g x) : ∀ x, x ≠ k → vp_updL f k w x = g x := fun x hx => by rw [pk_uLn hx]; exact h x hx
set_option maxHeartbeats 4000000 in
set_option maxRecDepth 100000 in
/-- levels -/
theorem cM_levels (l : Launch) (g : si_G) (y0 mW mD mT mP mR mA mK mO mB mI mN mH mC : Nat) (zs zt zn ze za : Int32) (fk fo fn fh : Nat → Int32) (fi : Nat → Int64) (t : List Nat) (hok : si_ok t) (hK1 : ∀ x, x < t.length + 1 → fk x = nI (si_g t x)) (hpl : ∀ x, x < t.length + 1 → fo x = nI (si_pl t x)) (hI0 : ∀ k, k < 7 → fi (1 + k) = 0) : si_Mv (S := (Nat → Int32) × (Nat → Int32) × (Nat → Int64)) l g vwCl zyM_levels zwM_levels ({ frames := 0, cells := 0, slots := 0, locals := 0 } : Room) [.ref y0] [(y0, .inr (6, [.int zs, .ref mW, .ref mD, .int zt, .int zn, .ref mT, .int ze, .ref mP, .ref mR, .int za, .ref mA, .int (nI t.length), .ref mK, .ref mO, .ref mB, .ref mI, .ref mN, .ref mH, .ref mC])), (mK, .inl (g.2.1, 61, .inl fk)), (mO, .inl (g.2.1, 61, .inl fo)), (mI, .inl (g.2.2, 23, .inr (.inl fi))), (mN, .inl (g.2.1, 61, .inl fn)), (mH, .inl (g.2.1, 61, .inl fh))] (fun u => (∀ k, k < 7 → u.2.2 (1 + k) = si_wd (t.length + 1) (si_lb (si_B t) (t.length + 1) k)) ∧ ∀ k, k = 0 ∨ 8 ≤ k → u.2.2 k = fi k) (fun u => [(y0, .inr (6, [.int zs, .ref mW, .ref mD, .int zt, .int zn, .ref mT, .int ze, .ref mP, .ref mR, .int za, .ref mA, .int (nI t.length), .ref mK, .ref mO, .ref mB, .ref mI, .ref mN, .ref mH, .ref mC])), (mK, .inl (g.2.1, 61, .inl fk)), (mO, .inl (g.2.1, 61, .inl fo)), (mI, .inl (g.2.2, 23, .inr (.inl u.2.2))), (mN, .inl (g.2.1, 61, .inl u.1)), (mH, .inl (g.2.1, 61, .inl u.2.1))]) := by
  refine si_Mv.of (cc := zkM_levels) (maxL := 5) (by decide) rfl (Nat.le_of_ble_eq_true rfl) ?_
  intro p e s m args below meth c A Q ls hF0 hin hK hN hP hD hA hS hl hret
  obtain ⟨hx, hb, hml, hown, hts0⟩ := hF0
  have hts : ∀ w ∈ si_tbl, w.before args s = true := fun w hw => hts0 w (List.mem_cons_of_mem _ hw)
  have hF : CallFix p m c zkM_levels 5 s args si_tbl zRM := ⟨hx, hb, hml, hown, hts⟩
  have hl : lv_has ls 5 [(0, .ref y0)] := hl
  have hn := hok.1
  refine lv_iconst (v := nI 0) hx hb zdM_levels_0 (by decide) ?_
  refine lv_istore_n (lv' := [(1, .int (nI 0)), (0, .ref y0)]) hx hb zdM_levels_1 rfl hl (Nat.le_of_ble_eq_true rfl) rfl (fun ls hl => ?_)
  have L2 : ∀ (N : Nat) (k : Nat) (f2 : Nat → Int32) (H : Heap) (locs : List Loc) (ls : Array Slot), t.length + 1 - k < N → (k ≤ t.length + 1) → (∀ x, x < k → f2 x = nI (si_B t x)) → lv_has ls 5 [(0, .ref y0), (1, .int (nI k))] → va_P g.1 vwCl [(y0, .inr (6, [.int zs, .ref mW, .ref mD, .int zt, .int zn, .ref mT, .int ze, .ref mP, .ref mR, .int za, .ref mA, .int (nI t.length), .ref mK, .ref mO, .ref mB, .ref mI, .ref mN, .ref mH, .ref mC])), (mK, .inl (g.2.1, 61, .inl fk)), (mO, .inl (g.2.1, 61, .inl fo)), (mI, .inl (g.2.2, 23, .inr (.inl fi))), (mN, .inl (g.2.1, 61, .inl f2)), (mH, .inl (g.2.1, 61, .inl fh))] H → va_D A [(y0, .inr (6, [.int zs, .ref mW, .ref mD, .int zt, .int zn, .ref mT, .int ze, .ref mP, .ref mR, .int za, .ref mA, .int (nI t.length), .ref mK, .ref mO, .ref mB, .ref mI, .ref mN, .ref mH, .ref mC])), (mK, .inl (g.2.1, 61, .inl fk)), (mO, .inl (g.2.1, 61, .inl fo)), (mI, .inl (g.2.2, 23, .inr (.inl fi))), (mN, .inl (g.2.1, 61, .inl f2)), (mH, .inl (g.2.1, 61, .inl fh))] → va_S A s.heap H locs → W p l e ({ frames := 0, cells := 0, slots := 0, locals := 0 } : Room) s m args below meth c H locs 0 0 Q (F0 m 2 ls []) := by
    intro N
    induction N with
    | zero => intro k f2 H locs ls hMs; exact absurd hMs (Nat.not_lt_zero _)
    | succ N ih2 =>
      intro k f2 H locs ls hMs hk hC hl hP hD hS
      refine lv_iload_n hx hb zdM_levels_2 rfl (lv_at hl 1 rfl) ?_
      refine lv_aload_n hx hb zdM_levels_3 rfl (lv_at hl 0 rfl) ?_
      refine va_get (D := g.1) (ci := 6) (v := .int (nI t.length)) (C := zRM) (T := zTM) (N := 19) hx hb hts ziM hown hK hP 0 rfl rfl 11 (by decide) (hts _ zlM_54) (fun _ h => h) rfl zdM_levels_4 ?_
      refine si_icmp_gt (tgt := 48) hx hb zdM_levels_7 rfl (by omega) (by omega) (fun h7 => ?_) (fun h7 => ?_)
      · refine lv_iconst (v := nI 0) hx hb zdM_levels_48 (by decide) ?_
        refine lv_istore_n (lv' := [(1, .int (nI 0)), (0, .ref y0)]) hx hb zdM_levels_49 rfl hl (Nat.le_of_ble_eq_true rfl) rfl (fun ls hl => ?_)
        have L50 : ∀ (N : Nat) (j : Nat) (f2 : Nat → Int32) (h2 : Nat → Int32) (w2 : Nat → Int64) (H : Heap) (locs : List Loc) (ls : Array Slot), 7 - j < N → (j ≤ 7) → (∀ x, x < t.length + 1 → f2 (si_lp (si_B t) (t.length + 1) j x) = nI (si_B t x)) → (∀ k, k < j → w2 (1 + k) = si_wd (t.length + 1) (si_lb (si_B t) (t.length + 1) k)) → (∀ k, k = 0 ∨ 8 ≤ k → w2 k = fi k) → (∀ k, j ≤ k → k < 7 → w2 (1 + k) = 0) → lv_has ls 5 [(0, .ref y0), (1, .int (nI j))] → va_P g.1 vwCl [(y0, .inr (6, [.int zs, .ref mW, .ref mD, .int zt, .int zn, .ref mT, .int ze, .ref mP, .ref mR, .int za, .ref mA, .int (nI t.length), .ref mK, .ref mO, .ref mB, .ref mI, .ref mN, .ref mH, .ref mC])), (mK, .inl (g.2.1, 61, .inl fk)), (mO, .inl (g.2.1, 61, .inl fo)), (mI, .inl (g.2.2, 23, .inr (.inl w2))), (mN, .inl (g.2.1, 61, .inl f2)), (mH, .inl (g.2.1, 61, .inl h2))] H → va_D A [(y0, .inr (6, [.int zs, .ref mW, .ref mD, .int zt, .int zn, .ref mT, .int ze, .ref mP, .ref mR, .int za, .ref mA, .int (nI t.length), .ref mK, .ref mO, .ref mB, .ref mI, .ref mN, .ref mH, .ref mC])), (mK, .inl (g.2.1, 61, .inl fk)), (mO, .inl (g.2.1, 61, .inl fo)), (mI, .inl (g.2.2, 23, .inr (.inl w2))), (mN, .inl (g.2.1, 61, .inl f2)), (mH, .inl (g.2.1, 61, .inl h2))] → va_S A s.heap H locs → W p l e ({ frames := 0, cells := 0, slots := 0, locals := 0 } : Room) s m args below meth c H locs 0 0 Q (F0 m 50 ls []) := by
          intro N
          induction N with
          | zero => intro j f2 h2 w2 H locs ls hMs; exact absurd hMs (Nat.not_lt_zero _)
          | succ N ih50 =>
            intro j f2 h2 w2 H locs ls hMs hj hN2 hW hW0 hW1 hl hP hD hS
            refine lv_iload_n hx hb zdM_levels_50 rfl (lv_at hl 1 rfl) ?_
            refine lv_bipush (v := nI 7) hx hb zdM_levels_51 (by decide) ?_
            refine si_icmp_ge (tgt := 179) hx hb zdM_levels_53 rfl (by omega) (by decide) (fun h53 => ?_) (fun h53 => ?_)
            · exact hret (f2, h2, w2) _ _ _ _ (⟨fun k hk => hW k (by omega), hW0⟩) (hP.sub [0, 1, 2, 3, 4, 5] rfl) (hD.sub [0, 1, 2, 3, 4, 5] (by decide) rfl) hS zdM_levels_179
            · refine lv_iconst (v := nI 0) hx hb zdM_levels_56 (by decide) ?_
              refine lv_istore_n (lv' := [(2, .int (nI 0)), (0, .ref y0), (1, .int (nI j))]) hx hb zdM_levels_57 rfl hl (Nat.le_of_ble_eq_true rfl) rfl (fun ls hl => ?_)
              refine lv_iconst (v := nI 0) hx hb zdM_levels_58 (by decide) ?_
              refine lv_istore_n (lv' := [(3, .int (nI 0)), (2, .int (nI 0)), (0, .ref y0), (1, .int (nI j))]) hx hb zdM_levels_59 rfl hl (Nat.le_of_ble_eq_true rfl) rfl (fun ls hl => ?_)
              refine lv_iload_n hx hb zdM_levels_60 rfl (lv_at hl 0 rfl) ?_
              refine lv_iconst (v := nI 2) hx hb zdM_levels_61 (by decide) ?_
              refine si_icmp_ge (tgt := 145) hx hb zdM_levels_62 rfl (by decide) (by decide) (fun h62 => ?_) (fun h62 => ?_)
              · exact absurd h62 (by decide)
              · refine lv_iconst (v := nI 0) hx hb zdM_levels_65 (by decide) ?_
                refine lv_istore (lv' := [(4, .int (nI 0)), (3, .int (nI 0)), (2, .int (nI 0)), (0, .ref y0), (1, .int (nI j))]) hx hb zdM_levels_66 hl (Nat.le_of_ble_eq_true rfl) rfl (fun ls hl => ?_)
                have L68 : ∀ (N : Nat) (i : Nat) (kk : Nat) (h3 : Nat → Int32) (w3 : Nat → Int64) (H : Heap) (locs : List Loc) (ls : Array Slot), t.length + 1 - i < N → (i ≤ t.length + 1) → (kk = si_cn i (fun k => !si_lb (si_B t) (t.length + 1) j k)) → (∀ x, x < i → si_lb (si_B t) (t.length + 1) j x = false → h3 (si_cn x (fun k => !si_lb (si_B t) (t.length + 1) j k)) = f2 x) → (w3 (1 + j) = 0) → (∀ x, x ≠ 1 + j → w3 x = w2 x) → lv_has ls 5 [(0, .ref y0), (1, .int (nI j)), (2, .int (nI kk)), (3, .int (nI 0)), (4, .int (nI i))] → va_P g.1 vwCl [(y0, .inr (6, [.int zs, .ref mW, .ref mD, .int zt, .int zn, .ref mT, .int ze, .ref mP, .ref mR, .int za, .ref mA, .int (nI t.length), .ref mK, .ref mO, .ref mB, .ref mI, .ref mN, .ref mH, .ref mC])), (mK, .inl (g.2.1, 61, .inl fk)), (mO, .inl (g.2.1, 61, .inl fo)), (mI, .inl (g.2.2, 23, .inr (.inl w3))), (mN, .inl (g.2.1, 61, .inl f2)), (mH, .inl (g.2.1, 61, .inl h3))] H → va_D A [(y0, .inr (6, [.int zs, .ref mW, .ref mD, .int zt, .int zn, .ref mT, .int ze, .ref mP, .ref mR, .int za, .ref mA, .int (nI t.length), .ref mK, .ref mO, .ref mB, .ref mI, .ref mN, .ref mH, .ref mC])), (mK, .inl (g.2.1, 61, .inl fk)), (mO, .inl (g.2.1, 61, .inl fo)), (mI, .inl (g.2.2, 23, .inr (.inl w3))), (mN, .inl (g.2.1, 61, .inl f2)), (mH, .inl (g.2.1, 61, .inl h3))] → va_S A s.heap H locs → W p l e ({ frames := 0, cells := 0, slots := 0, locals := 0 } : Room) s m args below meth c H locs 0 0 Q (F0 m 68 ls []) := by
                  intro N
                  induction N with
                  | zero => intro i kk h3 w3 H locs ls hMs; exact absurd hMs (Nat.not_lt_zero _)
                  | succ N ih68 =>
                    intro i kk h3 w3 H locs ls hMs hi hkk hZ hwj hwo hl hP hD hS
                    refine lv_iload hx hb zdM_levels_68 (lv_at hl 4 rfl) ?_
                    refine lv_aload_n hx hb zdM_levels_70 rfl (lv_at hl 0 rfl) ?_
                    refine va_get (D := g.1) (ci := 6) (v := .int (nI t.length)) (C := zRM) (T := zTM) (N := 19) hx hb hts ziM hown hK hP 0 rfl rfl 11 (by decide) (hts _ zlM_54) (fun _ h => h) rfl zdM_levels_71 ?_
                    refine si_icmp_gt (tgt := 139) hx hb zdM_levels_74 rfl (by omega) (by omega) (fun h74 => ?_) (fun h74 => ?_)
                    · refine lv_iinc (k := 3) (v := nI 1) (lv' := [(3, .int (nI 1)), (0, .ref y0), (1, .int (nI j)), (2, .int (nI kk)), (4, .int (nI i))]) hx hb zdM_levels_139 hl rfl (by decide) (Nat.le_of_ble_eq_true rfl) rfl (fun ls hl => ?_)
                      refine lv_goto (tgt := 60) hx hb zdM_levels_142 rfl ?_
                      refine lv_iload_n hx hb zdM_levels_60 rfl (lv_at hl 0 rfl) ?_
                      refine lv_iconst (v := nI 2) hx hb zdM_levels_61 (by decide) ?_
                      refine si_icmp_ge (tgt := 145) hx hb zdM_levels_62 rfl (by decide) (by decide) (fun h62 => ?_) (fun h62 => ?_)
                      · exact absurd h62 (by decide)
                      · refine lv_iconst (v := nI 0) hx hb zdM_levels_65 (by decide) ?_
                        refine lv_istore (lv' := [(4, .int (nI 0)), (3, .int (nI 1)), (0, .ref y0), (1, .int (nI j)), (2, .int (nI kk))]) hx hb zdM_levels_66 hl (Nat.le_of_ble_eq_true rfl) rfl (fun ls hl => ?_)
                        have L68_2 : ∀ (N : Nat) (i : Nat) (kk : Nat) (h4 : Nat → Int32) (w4 : Nat → Int64) (H : Heap) (locs : List Loc) (ls : Array Slot), t.length + 1 - i < N → (i ≤ t.length + 1) → (kk = si_cn (t.length + 1) (fun k => !si_lb (si_B t) (t.length + 1) j k) + si_cn i (si_lb (si_B t) (t.length + 1) j)) → (∀ x, x < t.length + 1 → si_lb (si_B t) (t.length + 1) j x = false → h4 (si_cn x (fun k => !si_lb (si_B t) (t.length + 1) j k)) = f2 x) → (∀ x, x < i → si_lb (si_B t) (t.length + 1) j x = true → h4 (si_cn (t.length + 1) (fun k => !si_lb (si_B t) (t.length + 1) j k) + si_cn x (si_lb (si_B t) (t.length + 1) j)) = f2 x) → (w4 (1 + j) = si_wd i (si_lb (si_B t) (t.length + 1) j)) → (∀ x, x ≠ 1 + j → w4 x = w2 x) → lv_has ls 5 [(0, .ref y0), (1, .int (nI j)), (2, .int (nI kk)), (3, .int (nI 1)), (4, .int (nI i))] → va_P g.1 vwCl [(y0, .inr (6, [.int zs, .ref mW, .ref mD, .int zt, .int zn, .ref mT, .int ze, .ref mP, .ref mR, .int za, .ref mA, .int (nI t.length), .ref mK, .ref mO, .ref mB, .ref mI, .ref mN, .ref mH, .ref mC])), (mK, .inl (g.2.1, 61, .inl fk)), (mO, .inl (g.2.1, 61, .inl fo)), (mI, .inl (g.2.2, 23, .inr (.inl w4))), (mN, .inl (g.2.1, 61, .inl f2)), (mH, .inl (g.2.1, 61, .inl h4))] H → va_D A [(y0, .inr (6, [.int zs, .ref mW, .ref mD, .int zt, .int zn, .ref mT, .int ze, .ref mP, .ref mR, .int za, .ref mA, .int (nI t.length), .ref mK, .ref mO, .ref mB, .ref mI, .ref mN, .ref mH, .ref mC])), (mK, .inl (g.2.1, 61, .inl fk)), (mO, .inl (g.2.1, 61, .inl fo)), (mI, .inl (g.2.2, 23, .inr (.inl w4))), (mN, .inl (g.2.1, 61, .inl f2)), (mH, .inl (g.2.1, 61, .inl h4))] → va_S A s.heap H locs → W p l e ({ frames := 0, cells := 0, slots := 0, locals := 0 } : Room) s m args below meth c H locs 0 0 Q (F0 m 68 ls []) := by
                          intro N
                          induction N with
                          | zero => intro i kk h4 w4 H locs ls hMs; exact absurd hMs (Nat.not_lt_zero _)
                          | succ N ih68_2 =>
                            intro i kk h4 w4 H locs ls hMs hi2 hkk2 hZ2 hO2 hwj2 hwo2 hl hP hD hS
                            refine lv_iload hx hb zdM_levels_68 (lv_at hl 4 rfl) ?_
                            refine lv_aload_n hx hb zdM_levels_70 rfl (lv_at hl 0 rfl) ?_
                            refine va_get (D := g.1) (ci := 6) (v := .int (nI t.length)) (C := zRM) (T := zTM) (N := 19) hx hb hts ziM hown hK hP 0 rfl rfl 11 (by decide) (hts _ zlM_54) (fun _ h => h) rfl zdM_levels_71 ?_
                            refine si_icmp_gt (tgt := 139) hx hb zdM_levels_74 rfl (by omega) (by omega) (fun h74 => ?_) (fun h74 => ?_)
                            · refine lv_iinc (k := 3) (v := nI 2) (lv' := [(3, .int (nI 2)), (0, .ref y0), (1, .int (nI j)), (2, .int (nI kk)), (4, .int (nI i))]) hx hb zdM_levels_139 hl rfl (by decide) (Nat.le_of_ble_eq_true rfl) rfl (fun ls hl => ?_)
                              refine lv_goto (tgt := 60) hx hb zdM_levels_142 rfl ?_
                              refine lv_iload_n hx hb zdM_levels_60 rfl (lv_at hl 0 rfl) ?_
                              refine lv_iconst (v := nI 2) hx hb zdM_levels_61 (by decide) ?_
                              refine si_icmp_ge (tgt := 145) hx hb zdM_levels_62 rfl (by decide) (by decide) (fun h62 => ?_) (fun h62 => ?_)
                              · have hfin := si_qE hZ2 (fun x hx => hO2 x (by omega))
                                have hwj3 : w4 (1 + j) = si_wd (t.length + 1) (si_lb (si_B t) (t.length + 1) j) := by rw [hwj2, show i = t.length + 1 by omega]
                                refine lv_iconst (v := nI 0) hx hb zdM_levels_145 (by decide) ?_
                                refine lv_istore_n (lv' := [(3, .int (nI 0)), (0, .ref y0), (1, .int (nI j)), (2, .int (nI kk)), (4, .int (nI i))]) hx hb zdM_levels_146 rfl hl (Nat.le_of_ble_eq_true rfl) rfl (fun ls hl => ?_)
                                have L147 : ∀ (N : Nat) (q : Nat) (f5 : Nat → Int32) (H : Heap) (locs : List Loc) (ls : Array Slot), t.length + 1 - q < N → (q ≤ t.length + 1) → (∀ x, x < q → f5 x = h4 x) → lv_has ls 5 [(0, .ref y0), (1, .int (nI j)), (3, .int (nI q))] → va_P g.1 vwCl [(y0, .inr (6, [.int zs, .ref mW, .ref mD, .int zt, .int zn, .ref mT, .int ze, .ref mP, .ref mR, .int za, .ref mA, .int (nI t.length), .ref mK, .ref mO, .ref mB, .ref mI, .ref mN, .ref mH, .ref mC])), (mK, .inl (g.2.1, 61, .inl fk)), (mO, .inl (g.2.1, 61, .inl fo)), (mI, .inl (g.2.2, 23, .inr (.inl w4))), (mN, .inl (g.2.1, 61, .inl f5)), (mH, .inl (g.2.1, 61, .inl h4))] H → va_D A [(y0, .inr (6, [.int zs, .ref mW, .ref mD, .int zt, .int zn, .ref mT, .int ze, .ref mP, .ref mR, .int za, .ref mA, .int (nI t.length), .ref mK, .ref mO, .ref mB, .ref mI, .ref mN, .ref mH, .ref mC])), (mK, .inl (g.2.1, 61, .inl fk)), (mO, .inl (g.2.1, 61, .inl fo)), (mI, .inl (g.2.2, 23, .inr (.inl w4))), (mN, .inl (g.2.1, 61, .inl f5)), (mH, .inl (g.2.1, 61, .inl h4))] → va_S A s.heap H locs → W p l e ({ frames := 0, cells := 0, slots := 0, locals := 0 } : Room) s m args below meth c H locs 0 0 Q (F0 m 147 ls []) := by
                                  intro N
                                  induction N with
                                  | zero => intro q f5 H locs ls hMs; exact absurd hMs (Nat.not_lt_zero _)
                                  | succ N ih147 =>
                                    intro q f5 H locs ls hMs hq hcp0 hl hP hD hS
                                    refine lv_iload_n hx hb zdM_levels_147 rfl (lv_at hl 2 rfl) ?_
                                    refine lv_aload_n hx hb zdM_levels_148 rfl (lv_at hl 0 rfl) ?_
                                    refine va_get (D := g.1) (ci := 6) (v := .int (nI t.length)) (C := zRM) (T := zTM) (N := 19) hx hb hts ziM hown hK hP 0 rfl rfl 11 (by decide) (hts _ zlM_54) (fun _ h => h) rfl zdM_levels_149 ?_
                                    refine si_icmp_gt (tgt := 173) hx hb zdM_levels_152 rfl (by omega) (by omega) (fun h152 => ?_) (fun h152 => ?_)
                                    · have hcp : ∀ x, x < t.length + 1 → f5 x = h4 x := fun x hx => hcp0 x (by omega)
                                      refine lv_iinc (k := 1) (v := nI (j + 1)) (lv' := [(1, .int (nI (j + 1))), (0, .ref y0), (3, .int (nI q))]) hx hb zdM_levels_173 hl rfl (si_inc _) (Nat.le_of_ble_eq_true rfl) rfl (fun ls hl => ?_)
                                      refine lv_goto (tgt := 50) hx hb zdM_levels_176 rfl ?_
                                      exact ih50 (j + 1) f5 h4 w4 _ _ _ (by omega) (by omega) (fun x hx => by have h9 := (si_lp_bij (si_B t) (t.length + 1) j).1 x hx; rw [si_lp_s, hcp _ ((si_ps_bij _ _).1 _ h9), hfin _ h9, hN2 x hx]) (fun k hk => by by_cases e9 : k = j <;> first | (subst e9; exact hwj3) | (rw [hwo2 _ (by omega)]; exact hW k (by omega))) (fun k hk => by rw [hwo2 _ (by omega)]; exact hW0 k hk) (fun k h1 h2 => by rw [hwo2 _ (by omega)]; exact hW1 k (by omega) h2) (lv_sub hl [1, 0] rfl) (hP.sub [0, 1, 2, 3, 4, 5] rfl) (hD.sub [0, 1, 2, 3, 4, 5] (by decide) rfl) hS
                                    · refine lv_aload_n hx hb zdM_levels_155 rfl (lv_at hl 0 rfl) ?_
                                      refine va_get (D := g.1) (ci := 6) (v := .ref mN) (C := zRM) (T := zTM) (N := 19) hx hb hts ziM hown hK hP 0 rfl rfl 16 (by decide) (hts _ zlM_41) (fun _ h => h) rfl zdM_levels_156 ?_
                                      refine lv_iload_n hx hb zdM_levels_159 rfl (lv_at hl 2 rfl) ?_
                                      refine lv_aload_n hx hb zdM_levels_160 rfl (lv_at hl 0 rfl) ?_
                                      refine va_get (D := g.1) (ci := 6) (v := .ref mH) (C := zRM) (T := zTM) (N := 19) hx hb hts ziM hown hK hP 0 rfl rfl 17 (by decide) (hts _ zlM_44) (fun _ h => h) rfl zdM_levels_161 ?_
                                      refine lv_iload_n hx hb zdM_levels_164 rfl (lv_at hl 2 rfl) ?_
                                      refine si_iald (v := h4 q) hx hb hK hP 5 0 rfl rfl (by decide) (by omega) (rfl) zdM_levels_165 ?_
                                      refine si_iast hx hb hK hP hD hS 4 0 rfl rfl (by decide) (by omega) zdM_levels_166 (fun H locs hP hD hS => ?_)
                                      have hP : va_P g.1 vwCl [(y0, .inr (6, [.int zs, .ref mW, .ref mD, .int zt, .int zn, .ref mT, .int ze, .ref mP, .ref mR, .int za, .ref mA, .int (nI t.length), .ref mK, .ref mO, .ref mB, .ref mI, .ref mN, .ref mH, .ref mC])), (mK, .inl (g.2.1, 61, .inl fk)), (mO, .inl (g.2.1, 61, .inl fo)), (mI, .inl (g.2.2, 23, .inr (.inl w4))), (mN, .inl (g.2.1, 61, .inl (upd f5 q (h4 q)))), (mH, .inl (g.2.1, 61, .inl h4))] H := hP
                                      have hD : va_D A [(y0, .inr (6, [.int zs, .ref mW, .ref mD, .int zt, .int zn, .ref mT, .int ze, .ref mP, .ref mR, .int za, .ref mA, .int (nI t.length), .ref mK, .ref mO, .ref mB, .ref mI, .ref mN, .ref mH, .ref mC])), (mK, .inl (g.2.1, 61, .inl fk)), (mO, .inl (g.2.1, 61, .inl fo)), (mI, .inl (g.2.2, 23, .inr (.inl w4))), (mN, .inl (g.2.1, 61, .inl (upd f5 q (h4 q)))), (mH, .inl (g.2.1, 61, .inl h4))] := hD
                                      refine lv_iinc (k := 2) (v := nI (q + 1)) (lv' := [(3, .int (nI (q + 1))), (0, .ref y0), (1, .int (nI j))]) hx hb zdM_levels_167 hl rfl (si_inc _) (Nat.le_of_ble_eq_true rfl) rfl (fun ls hl => ?_)
                                      refine lv_goto (tgt := 147) hx hb zdM_levels_170 rfl ?_
                                      exact ih147 (q + 1) (upd f5 q (h4 q)) _ _ _ (by omega) (by omega) (si_up hcp0 rfl) (lv_sub hl [1, 2, 0] rfl) (hP.sub [0, 1, 2, 3, 4, 5] rfl) (hD.sub [0, 1, 2, 3, 4, 5] (by decide) rfl) hS
                                exact L147 (t.length + 1 - 0 + 1) 0 f2 _ _ _ (by omega) (by omega) (fun x hx => absurd hx (Nat.not_lt_zero _)) (lv_sub hl [1, 2, 0] rfl) (hP.sub [0, 1, 2, 3, 4, 5] rfl) (hD.sub [0, 1, 2, 3, 4, 5] (by decide) rfl) hS
                              · exact absurd h62 (by decide)
                            · have hxi := si_iv_ok (si_lp_bij (si_B t) (t.length + 1) j) (show i < t.length + 1 by omega)
                              have hcv : si_B t (si_iv (t.length + 1) (si_lp (si_B t) (t.length + 1) j) i) < 128 := by have := si_B_le hok (si_iv (t.length + 1) (si_lp (si_B t) (t.length + 1) j) i); omega
                              have hdv : si_B t (si_iv (t.length + 1) (si_lp (si_B t) (t.length + 1) j) i) / 2 ^ (6 - j) ≤ si_B t (si_iv (t.length + 1) (si_lp (si_B t) (t.length + 1) j) i) := Nat.div_le_self _ _
                              refine lv_aload_n hx hb zdM_levels_77 rfl (lv_at hl 0 rfl) ?_
                              refine va_get (D := g.1) (ci := 6) (v := .ref mN) (C := zRM) (T := zTM) (N := 19) hx hb hts ziM hown hK hP 0 rfl rfl 16 (by decide) (hts _ zlM_41) (fun _ h => h) rfl zdM_levels_78 ?_
                              refine lv_iload hx hb zdM_levels_81 (lv_at hl 4 rfl) ?_
                              refine si_iald (v := nI (si_B t (si_iv (t.length + 1) (si_lp (si_B t) (t.length + 1) j) i))) hx hb hK hP 4 0 rfl rfl (by decide) (by omega) (by have h9 := hN2 _ hxi.1; rw [hxi.2] at h9; exact h9) zdM_levels_83 ?_
                              refine lv_bipush (v := nI 6) hx hb zdM_levels_84 (by decide) ?_
                              refine lv_iload_n hx hb zdM_levels_86 rfl (lv_at hl 1 rfl) ?_
                              refine si_isub (v := nI (6 - j)) hx hb zdM_levels_87 (pk_sub (by omega)) ?_
                              refine si_ishr (v := nI (si_B t (si_iv (t.length + 1) (si_lp (si_B t) (t.length + 1) j) i) / 2 ^ (6 - j))) hx hb zdM_levels_88 (pk_shrN (by omega) _ _ (si_sl5 _ (by omega))) ?_
                              refine lv_iconst (v := nI 1) hx hb zdM_levels_89 (by decide) ?_
                              refine si_iand (v := nI ((si_lb (si_B t) (t.length + 1) j i).toNat)) hx hb zdM_levels_90 (si_bitj hcv) ?_
                              refine lv_iload_n hx hb zdM_levels_91 rfl (lv_at hl 3 rfl) ?_
                              refine si_icmp_ne (tgt := 133) hx hb zdM_levels_92 rfl (si_bn _) (by decide) (fun h92 => ?_) (fun h92 => ?_)
                              · have hbf := si_t0 h92
                                refine lv_iinc (k := 4) (v := nI (i + 1)) (lv' := [(4, .int (nI (i + 1))), (0, .ref y0), (1, .int (nI j)), (2, .int (nI kk)), (3, .int (nI 1))]) hx hb zdM_levels_133 hl rfl (si_inc _) (Nat.le_of_ble_eq_true rfl) rfl (fun ls hl => ?_)
                                refine lv_goto (tgt := 68) hx hb zdM_levels_136 rfl ?_
                                exact ih68_2 (i + 1) kk h4 w4 _ _ _ (by omega) (by omega) (by first | (rw [si_cn_t hbt, hkk2]; rfl) | (rw [si_cn_f hbf, hkk2]; done)) (by first | exact hZ2 | exact si_qK hkk2 hZ2) (by first | exact si_qO hkk2 hO2 | exact si_poS (v := false) hbf hO2) (by first | (rw [si_wd_f hbf]; exact hwj2) | (rw [pk_uLs, hwj2, si_wd_t hbt]; rfl)) (by first | exact hwo2 | exact si_uLo hwo2) (lv_sub hl [1, 2, 3, 4, 0] rfl) (hP.sub [0, 1, 2, 3, 4, 5] rfl) (hD.sub [0, 1, 2, 3, 4, 5] (by decide) rfl) hS
                              · have hbt := si_t1 h92
                                have hkl : kk < t.length + 1 := by
                                  have z1 := si_cn_ups (b := t.length + 1) (show i < t.length + 1 by omega) hbt
                                  have z2 := si_cn_not (t.length + 1) (si_lb (si_B t) (t.length + 1) j)
                                  omega
                                refine lv_aload_n hx hb zdM_levels_95 rfl (lv_at hl 0 rfl) ?_
                                refine va_get (D := g.1) (ci := 6) (v := .ref mH) (C := zRM) (T := zTM) (N := 19) hx hb hts ziM hown hK hP 0 rfl rfl 17 (by decide) (hts _ zlM_44) (fun _ h => h) rfl zdM_levels_96 ?_
                                refine lv_iload_n hx hb zdM_levels_99 rfl (lv_at hl 2 rfl) ?_
                                refine lv_aload_n hx hb zdM_levels_100 rfl (lv_at hl 0 rfl) ?_
                                refine va_get (D := g.1) (ci := 6) (v := .ref mN) (C := zRM) (T := zTM) (N := 19) hx hb hts ziM hown hK hP 0 rfl rfl 16 (by decide) (hts _ zlM_41) (fun _ h => h) rfl zdM_levels_101 ?_
                                refine lv_iload hx hb zdM_levels_104 (lv_at hl 4 rfl) ?_
                                refine si_iald (v := f2 i) hx hb hK hP 4 0 rfl rfl (by decide) (by omega) (rfl) zdM_levels_106 ?_
                                refine si_iast hx hb hK hP hD hS 5 0 rfl rfl (by decide) (by omega) zdM_levels_107 (fun H locs hP hD hS => ?_)
                                have hP : va_P g.1 vwCl [(y0, .inr (6, [.int zs, .ref mW, .ref mD, .int zt, .int zn, .ref mT, .int ze, .ref mP, .ref mR, .int za, .ref mA, .int (nI t.length), .ref mK, .ref mO, .ref mB, .ref mI, .ref mN, .ref mH, .ref mC])), (mK, .inl (g.2.1, 61, .inl fk)), (mO, .inl (g.2.1, 61, .inl fo)), (mI, .inl (g.2.2, 23, .inr (.inl w4))), (mN, .inl (g.2.1, 61, .inl f2)), (mH, .inl (g.2.1, 61, .inl (upd h4 kk (f2 i))))] H := hP
                                have hD : va_D A [(y0, .inr (6, [.int zs, .ref mW, .ref mD, .int zt, .int zn, .ref mT, .int ze, .ref mP, .ref mR, .int za, .ref mA, .int (nI t.length), .ref mK, .ref mO, .ref mB, .ref mI, .ref mN, .ref mH, .ref mC])), (mK, .inl (g.2.1, 61, .inl fk)), (mO, .inl (g.2.1, 61, .inl fo)), (mI, .inl (g.2.2, 23, .inr (.inl w4))), (mN, .inl (g.2.1, 61, .inl f2)), (mH, .inl (g.2.1, 61, .inl (upd h4 kk (f2 i))))] := hD
                                refine lv_iinc (k := 2) (v := nI (kk + 1)) (lv' := [(2, .int (nI (kk + 1))), (0, .ref y0), (1, .int (nI j)), (3, .int (nI 1)), (4, .int (nI i))]) hx hb zdM_levels_108 hl rfl (si_inc _) (Nat.le_of_ble_eq_true rfl) rfl (fun ls hl => ?_)
                                refine lv_aload_n hx hb zdM_levels_111 rfl (lv_at hl 1 rfl) ?_
                                refine va_get (D := g.1) (ci := 6) (v := .ref mI) (C := zRM) (T := zTM) (N := 19) hx hb hts ziM hown hK hP 0 rfl rfl 15 (by decide) (hts _ zlM_38) (fun _ h => h) rfl zdM_levels_112 ?_
                                refine lv_iconst (v := nI 1) hx hb zdM_levels_115 (by decide) ?_
                                refine lv_iload_n hx hb zdM_levels_116 rfl (lv_at hl 2 rfl) ?_
                                refine si_iadd (v := nI (1 + j)) hx hb zdM_levels_117 (nI_add _ _) ?_
                                refine lv_aload_n hx hb zdM_levels_118 rfl (lv_at hl 1 rfl) ?_
                                refine va_get (D := g.1) (ci := 6) (v := .ref mI) (C := zRM) (T := zTM) (N := 19) hx hb hts ziM hown hK hP 0 rfl rfl 15 (by decide) (hts _ zlM_38) (fun _ h => h) rfl zdM_levels_119 ?_
                                refine lv_iconst (v := nI 1) hx hb zdM_levels_122 (by decide) ?_
                                refine lv_iload_n hx hb zdM_levels_123 rfl (lv_at hl 2 rfl) ?_
                                refine si_iadd (v := nI (1 + j)) hx hb zdM_levels_124 (nI_add _ _) ?_
                                refine si_lald (v := w4 (1 + j)) hx hb hK hP 3 1 rfl rfl (by decide) (by omega) (rfl) zdM_levels_125 ?_
                                refine lv_iload_n hx hb zdM_levels_126 rfl (lv_at hl 3 rfl) ?_
                                refine lv_i2l (v := lN 1) hx hb zdM_levels_127 (nI_l (by omega)) ?_
                                refine lv_iload hx hb zdM_levels_128 (lv_at hl 4 rfl) ?_
                                refine lv_lshl (v := (lN 1) <<< ((nI i).toInt64 &&& 63)) hx hb zdM_levels_130 (rfl) ?_
                                refine si_lor (v := (w4 (1 + j)) ||| ((lN 1) <<< ((nI i).toInt64 &&& 63))) hx hb zdM_levels_131 (rfl) ?_
                                refine si_last hx hb hK hP hD hS 3 1 rfl rfl (by decide) (by omega) zdM_levels_132 (fun H locs hP hD hS => ?_)
                                have hP : va_P g.1 vwCl [(y0, .inr (6, [.int zs, .ref mW, .ref mD, .int zt, .int zn, .ref mT, .int ze, .ref mP, .ref mR, .int za, .ref mA, .int (nI t.length), .ref mK, .ref mO, .ref mB, .ref mI, .ref mN, .ref mH, .ref mC])), (mK, .inl (g.2.1, 61, .inl fk)), (mO, .inl (g.2.1, 61, .inl fo)), (mI, .inl (g.2.2, 23, .inr (.inl (vp_updL w4 (1 + j) ((w4 (1 + j)) ||| ((lN 1) <<< ((nI i).toInt64 &&& 63))))))), (mN, .inl (g.2.1, 61, .inl f2)), (mH, .inl (g.2.1, 61, .inl (upd h4 kk (f2 i))))] H := hP
                                have hD : va_D A [(y0, .inr (6, [.int zs, .ref mW, .ref mD, .int zt, .int zn, .ref mT, .int ze, .ref mP, .ref mR, .int za, .ref mA, .int (nI t.length), .ref mK, .ref mO, .ref mB, .ref mI, .ref mN, .ref mH, .ref mC])), (mK, .inl (g.2.1, 61, .inl fk)), (mO, .inl (g.2.1, 61, .inl fo)), (mI, .inl (g.2.2, 23, .inr (.inl (vp_updL w4 (1 + j) ((w4 (1 + j)) ||| ((lN 1) <<< ((nI i).toInt64 &&& 63))))))), (mN, .inl (g.2.1, 61, .inl f2)), (mH, .inl (g.2.1, 61, .inl (upd h4 kk (f2 i))))] := hD
                                refine lv_iinc (k := 4) (v := nI (i + 1)) (lv' := [(4, .int (nI (i + 1))), (2, .int (nI (kk + 1))), (0, .ref y0), (1, .int (nI j)), (3, .int (nI 1))]) hx hb zdM_levels_133 hl rfl (si_inc _) (Nat.le_of_ble_eq_true rfl) rfl (fun ls hl => ?_)
                                refine lv_goto (tgt := 68) hx hb zdM_levels_136 rfl ?_
                                exact ih68_2 (i + 1) (kk + 1) (upd h4 kk (f2 i)) (vp_updL w4 (1 + j) ((w4 (1 + j)) ||| ((lN 1) <<< ((nI i).toInt64 &&& 63)))) _ _ _ (by omega) (by omega) (by first | (rw [si_cn_t hbt, hkk2]; rfl) | (rw [si_cn_f hbf, hkk2]; done)) (by first | exact hZ2 | exact si_qK hkk2 hZ2) (by first | exact si_qO hkk2 hO2 | exact si_poS (v := false) hbf hO2) (by first | (rw [si_wd_f hbf]; exact hwj2) | (rw [pk_uLs, hwj2, si_wd_t hbt]; rfl)) (by first | exact hwo2 | exact si_uLo hwo2) (lv_sub hl [2, 3, 1, 4, 0] rfl) (hP.sub [0, 1, 2, 3, 4, 5] rfl) (hD.sub [0, 1, 2, 3, 4, 5] (by decide) rfl) hS
                        exact L68_2 (t.length + 1 - 0 + 1) 0 kk h3 w3 _ _ _ (by omega) (by omega) (by rw [hkk, show i = t.length + 1 by omega]; rfl) (fun x hx => hZ x (by omega)) (fun x hx => absurd hx (Nat.not_lt_zero _)) (hwj) (hwo) (lv_sub hl [2, 3, 4, 1, 0] rfl) (hP.sub [0, 1, 2, 3, 4, 5] rfl) (hD.sub [0, 1, 2, 3, 4, 5] (by decide) rfl) hS
                    · have hxi := si_iv_ok (si_lp_bij (si_B t) (t.length + 1) j) (show i < t.length + 1 by omega)
                      have hcv : si_B t (si_iv (t.length + 1) (si_lp (si_B t) (t.length + 1) j) i) < 128 := by have := si_B_le hok (si_iv (t.length + 1) (si_lp (si_B t) (t.length + 1) j) i); omega
                      have hdv : si_B t (si_iv (t.length + 1) (si_lp (si_B t) (t.length + 1) j) i) / 2 ^ (6 - j) ≤ si_B t (si_iv (t.length + 1) (si_lp (si_B t) (t.length + 1) j) i) := Nat.div_le_self _ _
                      refine lv_aload_n hx hb zdM_levels_77 rfl (lv_at hl 0 rfl) ?_
                      refine va_get (D := g.1) (ci := 6) (v := .ref mN) (C := zRM) (T := zTM) (N := 19) hx hb hts ziM hown hK hP 0 rfl rfl 16 (by decide) (hts _ zlM_41) (fun _ h => h) rfl zdM_levels_78 ?_
                      refine lv_iload hx hb zdM_levels_81 (lv_at hl 4 rfl) ?_
                      refine si_iald (v := nI (si_B t (si_iv (t.length + 1) (si_lp (si_B t) (t.length + 1) j) i))) hx hb hK hP 4 0 rfl rfl (by decide) (by omega) (by have h9 := hN2 _ hxi.1; rw [hxi.2] at h9; exact h9) zdM_levels_83 ?_
                      refine lv_bipush (v := nI 6) hx hb zdM_levels_84 (by decide) ?_
                      refine lv_iload_n hx hb zdM_levels_86 rfl (lv_at hl 1 rfl) ?_
                      refine si_isub (v := nI (6 - j)) hx hb zdM_levels_87 (pk_sub (by omega)) ?_
                      refine si_ishr (v := nI (si_B t (si_iv (t.length + 1) (si_lp (si_B t) (t.length + 1) j) i) / 2 ^ (6 - j))) hx hb zdM_levels_88 (pk_shrN (by omega) _ _ (si_sl5 _ (by omega))) ?_
                      refine lv_iconst (v := nI 1) hx hb zdM_levels_89 (by decide) ?_
                      refine si_iand (v := nI ((si_lb (si_B t) (t.length + 1) j i).toNat)) hx hb zdM_levels_90 (si_bitj hcv) ?_
                      refine lv_iload_n hx hb zdM_levels_91 rfl (lv_at hl 3 rfl) ?_
                      refine si_icmp_ne (tgt := 133) hx hb zdM_levels_92 rfl (si_bn _) (by decide) (fun h92 => ?_) (fun h92 => ?_)
                      · have hbt := si_b1 h92
                        refine lv_iinc (k := 4) (v := nI (i + 1)) (lv' := [(4, .int (nI (i + 1))), (0, .ref y0), (1, .int (nI j)), (2, .int (nI kk)), (3, .int (nI 0))]) hx hb zdM_levels_133 hl rfl (si_inc _) (Nat.le_of_ble_eq_true rfl) rfl (fun ls hl => ?_)
                        refine lv_goto (tgt := 68) hx hb zdM_levels_136 rfl ?_
                        exact ih68 (i + 1) kk h3 w3 _ _ _ (by omega) (by omega) (by first | (rw [si_cn_t (P := (fun k => !si_lb (si_B t) (t.length + 1) j k)) (by simp [hbf]), hkk]; done) | (rw [si_cn_f (P := (fun k => !si_lb (si_B t) (t.length + 1) j k)) (by simp [hbt]), hkk]; done)) (by first | exact si_qZ hkk hZ | exact si_poS (v := true) hbt hZ) (by first | exact hwj | (rw [pk_uLs, si_lN0 (by omega)]; exact hwj)) (by first | exact hwo | exact si_uLo hwo) (lv_sub hl [1, 2, 3, 4, 0] rfl) (hP.sub [0, 1, 2, 3, 4, 5] rfl) (hD.sub [0, 1, 2, 3, 4, 5] (by decide) rfl) hS
                      · have hbf := si_b0 h92
                        have hkl : kk ≤ i := by rw [hkk]; exact si_cn_le _ _
                        refine lv_aload_n hx hb zdM_levels_95 rfl (lv_at hl 0 rfl) ?_
                        refine va_get (D := g.1) (ci := 6) (v := .ref mH) (C := zRM) (T := zTM) (N := 19) hx hb hts ziM hown hK hP 0 rfl rfl 17 (by decide) (hts _ zlM_44) (fun _ h => h) rfl zdM_levels_96 ?_
                        refine lv_iload_n hx hb zdM_levels_99 rfl (lv_at hl 2 rfl) ?_
                        refine lv_aload_n hx hb zdM_levels_100 rfl (lv_at hl 0 rfl) ?_
                        refine va_get (D := g.1) (ci := 6) (v := .ref mN) (C := zRM) (T := zTM) (N := 19) hx hb hts ziM hown hK hP 0 rfl rfl 16 (by decide) (hts _ zlM_41) (fun _ h => h) rfl zdM_levels_101 ?_
                        refine lv_iload hx hb zdM_levels_104 (lv_at hl 4 rfl) ?_
                        refine si_iald (v := f2 i) hx hb hK hP 4 0 rfl rfl (by decide) (by omega) (rfl) zdM_levels_106 ?_
                        refine si_iast hx hb hK hP hD hS 5 0 rfl rfl (by decide) (by omega) zdM_levels_107 (fun H locs hP hD hS => ?_)
                        have hP : va_P g.1 vwCl [(y0, .inr (6, [.int zs, .ref mW, .ref mD, .int zt, .int zn, .ref mT, .int ze, .ref mP, .ref mR, .int za, .ref mA, .int (nI t.length), .ref mK, .ref mO, .ref mB, .ref mI, .ref mN, .ref mH, .ref mC])), (mK, .inl (g.2.1, 61, .inl fk)), (mO, .inl (g.2.1, 61, .inl fo)), (mI, .inl (g.2.2, 23, .inr (.inl w3))), (mN, .inl (g.2.1, 61, .inl f2)), (mH, .inl (g.2.1, 61, .inl (upd h3 kk (f2 i))))] H := hP
                        have hD : va_D A [(y0, .inr (6, [.int zs, .ref mW, .ref mD, .int zt, .int zn, .ref mT, .int ze, .ref mP, .ref mR, .int za, .ref mA, .int (nI t.length), .ref mK, .ref mO, .ref mB, .ref mI, .ref mN, .ref mH, .ref mC])), (mK, .inl (g.2.1, 61, .inl fk)), (mO, .inl (g.2.1, 61, .inl fo)), (mI, .inl (g.2.2, 23, .inr (.inl w3))), (mN, .inl (g.2.1, 61, .inl f2)), (mH, .inl (g.2.1, 61, .inl (upd h3 kk (f2 i))))] := hD
                        refine lv_iinc (k := 2) (v := nI (kk + 1)) (lv' := [(2, .int (nI (kk + 1))), (0, .ref y0), (1, .int (nI j)), (3, .int (nI 0)), (4, .int (nI i))]) hx hb zdM_levels_108 hl rfl (si_inc _) (Nat.le_of_ble_eq_true rfl) rfl (fun ls hl => ?_)
                        refine lv_aload_n hx hb zdM_levels_111 rfl (lv_at hl 1 rfl) ?_
                        refine va_get (D := g.1) (ci := 6) (v := .ref mI) (C := zRM) (T := zTM) (N := 19) hx hb hts ziM hown hK hP 0 rfl rfl 15 (by decide) (hts _ zlM_38) (fun _ h => h) rfl zdM_levels_112 ?_
                        refine lv_iconst (v := nI 1) hx hb zdM_levels_115 (by decide) ?_
                        refine lv_iload_n hx hb zdM_levels_116 rfl (lv_at hl 2 rfl) ?_
                        refine si_iadd (v := nI (1 + j)) hx hb zdM_levels_117 (nI_add _ _) ?_
                        refine lv_aload_n hx hb zdM_levels_118 rfl (lv_at hl 1 rfl) ?_
                        refine va_get (D := g.1) (ci := 6) (v := .ref mI) (C := zRM) (T := zTM) (N := 19) hx hb hts ziM hown hK hP 0 rfl rfl 15 (by decide) (hts _ zlM_38) (fun _ h => h) rfl zdM_levels_119 ?_
                        refine lv_iconst (v := nI 1) hx hb zdM_levels_122 (by decide) ?_
                        refine lv_iload_n hx hb zdM_levels_123 rfl (lv_at hl 2 rfl) ?_
                        refine si_iadd (v := nI (1 + j)) hx hb zdM_levels_124 (nI_add _ _) ?_
                        refine si_lald (v := w3 (1 + j)) hx hb hK hP 3 1 rfl rfl (by decide) (by omega) (rfl) zdM_levels_125 ?_
                        refine lv_iload_n hx hb zdM_levels_126 rfl (lv_at hl 3 rfl) ?_
                        refine lv_i2l (v := lN 0) hx hb zdM_levels_127 (nI_l (by omega)) ?_
                        refine lv_iload hx hb zdM_levels_128 (lv_at hl 4 rfl) ?_
                        refine lv_lshl (v := (lN 0) <<< ((nI i).toInt64 &&& 63)) hx hb zdM_levels_130 (rfl) ?_
                        refine si_lor (v := (w3 (1 + j)) ||| ((lN 0) <<< ((nI i).toInt64 &&& 63))) hx hb zdM_levels_131 (rfl) ?_
                        refine si_last hx hb hK hP hD hS 3 1 rfl rfl (by decide) (by omega) zdM_levels_132 (fun H locs hP hD hS => ?_)
                        have hP : va_P g.1 vwCl [(y0, .inr (6, [.int zs, .ref mW, .ref mD, .int zt, .int zn, .ref mT, .int ze, .ref mP, .ref mR, .int za, .ref mA, .int (nI t.length), .ref mK, .ref mO, .ref mB, .ref mI, .ref mN, .ref mH, .ref mC])), (mK, .inl (g.2.1, 61, .inl fk)), (mO, .inl (g.2.1, 61, .inl fo)), (mI, .inl (g.2.2, 23, .inr (.inl (vp_updL w3 (1 + j) ((w3 (1 + j)) ||| ((lN 0) <<< ((nI i).toInt64 &&& 63))))))), (mN, .inl (g.2.1, 61, .inl f2)), (mH, .inl (g.2.1, 61, .inl (upd h3 kk (f2 i))))] H := hP
                        have hD : va_D A [(y0, .inr (6, [.int zs, .ref mW, .ref mD, .int zt, .int zn, .ref mT, .int ze, .ref mP, .ref mR, .int za, .ref mA, .int (nI t.length), .ref mK, .ref mO, .ref mB, .ref mI, .ref mN, .ref mH, .ref mC])), (mK, .inl (g.2.1, 61, .inl fk)), (mO, .inl (g.2.1, 61, .inl fo)), (mI, .inl (g.2.2, 23, .inr (.inl (vp_updL w3 (1 + j) ((w3 (1 + j)) ||| ((lN 0) <<< ((nI i).toInt64 &&& 63))))))), (mN, .inl (g.2.1, 61, .inl f2)), (mH, .inl (g.2.1, 61, .inl (upd h3 kk (f2 i))))] := hD
                        refine lv_iinc (k := 4) (v := nI (i + 1)) (lv' := [(4, .int (nI (i + 1))), (2, .int (nI (kk + 1))), (0, .ref y0), (1, .int (nI j)), (3, .int (nI 0))]) hx hb zdM_levels_133 hl rfl (si_inc _) (Nat.le_of_ble_eq_true rfl) rfl (fun ls hl => ?_)
                        refine lv_goto (tgt := 68) hx hb zdM_levels_136 rfl ?_
                        exact ih68 (i + 1) (kk + 1) (upd h3 kk (f2 i)) (vp_updL w3 (1 + j) ((w3 (1 + j)) ||| ((lN 0) <<< ((nI i).toInt64 &&& 63)))) _ _ _ (by omega) (by omega) (by first | (rw [si_cn_t (P := (fun k => !si_lb (si_B t) (t.length + 1) j k)) (by simp [hbf]), hkk]; done) | (rw [si_cn_f (P := (fun k => !si_lb (si_B t) (t.length + 1) j k)) (by simp [hbt]), hkk]; done)) (by first | exact si_qZ hkk hZ | exact si_poS (v := true) hbt hZ) (by first | exact hwj | (rw [pk_uLs, si_lN0 (by omega)]; exact hwj)) (by first | exact hwo | exact si_uLo hwo) (lv_sub hl [2, 3, 1, 4, 0] rfl) (hP.sub [0, 1, 2, 3, 4, 5] rfl) (hD.sub [0, 1, 2, 3, 4, 5] (by decide) rfl) hS
                exact L68 (t.length + 1 - 0 + 1) 0 0 h2 w2 _ _ _ (by omega) (by omega) (rfl) (fun x hx => absurd hx (Nat.not_lt_zero _)) (hW1 j (Nat.le_refl _) (by omega)) (fun x _ => rfl) (lv_sub hl [3, 4, 2, 1, 0] rfl) (hP.sub [0, 1, 2, 3, 4, 5] rfl) (hD.sub [0, 1, 2, 3, 4, 5] (by decide) rfl) hS
        exact L50 (7 - 0 + 1) 0 f2 fh fi _ _ _ (by omega) (by omega) (fun x hx => hC x (by omega)) (fun k hk => absurd hk (Nat.not_lt_zero _)) (fun k _ => rfl) (fun k _ hk => hI0 k hk) (lv_sub hl [1, 0] rfl) (hP.sub [0, 1, 2, 3, 4, 5] rfl) (hD.sub [0, 1, 2, 3, 4, 5] (by decide) rfl) hS
      · have hpk := (si_pl_ok (t := t) (r := k) (by omega)).1
        refine lv_aload_n hx hb zdM_levels_10 rfl (lv_at hl 0 rfl) ?_
        refine va_get (D := g.1) (ci := 6) (v := .ref mN) (C := zRM) (T := zTM) (N := 19) hx hb hts ziM hown hK hP 0 rfl rfl 16 (by decide) (hts _ zlM_41) (fun _ h => h) rfl zdM_levels_11 ?_
        refine lv_iload_n hx hb zdM_levels_14 rfl (lv_at hl 1 rfl) ?_
        refine lv_aload_n hx hb zdM_levels_15 rfl (lv_at hl 0 rfl) ?_
        refine va_get (D := g.1) (ci := 6) (v := .ref mO) (C := zRM) (T := zTM) (N := 19) hx hb hts ziM hown hK hP 0 rfl rfl 13 (by decide) (hts _ zlM_32) (fun _ h => h) rfl zdM_levels_16 ?_
        refine lv_iload_n hx hb zdM_levels_19 rfl (lv_at hl 1 rfl) ?_
        refine si_iald (v := nI (si_pl t k)) hx hb hK hP 2 0 rfl rfl (by decide) (by omega) (hpl k (by omega)) zdM_levels_20 ?_
        refine si_if_ne (tgt := 28) hx hb zdM_levels_21 rfl (by omega) (fun h21 => ?_) (fun h21 => ?_)
        · refine lv_aload_n hx hb zdM_levels_28 rfl (lv_at hl 0 rfl) ?_
          refine va_get (D := g.1) (ci := 6) (v := .ref mK) (C := zRM) (T := zTM) (N := 19) hx hb hts ziM hown hK hP 0 rfl rfl 12 (by decide) (hts _ zlM_29) (fun _ h => h) rfl zdM_levels_29 ?_
          refine lv_aload_n hx hb zdM_levels_32 rfl (lv_at hl 0 rfl) ?_
          refine va_get (D := g.1) (ci := 6) (v := .ref mO) (C := zRM) (T := zTM) (N := 19) hx hb hts ziM hown hK hP 0 rfl rfl 13 (by decide) (hts _ zlM_32) (fun _ h => h) rfl zdM_levels_33 ?_
          refine lv_iload_n hx hb zdM_levels_36 rfl (lv_at hl 1 rfl) ?_
          refine si_iald (v := nI (si_pl t k)) hx hb hK hP 2 0 rfl rfl (by decide) (by omega) (hpl k (by omega)) zdM_levels_37 ?_
          refine lv_iconst (v := nI 1) hx hb zdM_levels_38 (by decide) ?_
          refine si_isub (v := nI ((si_pl t k) - 1)) hx hb zdM_levels_39 (pk_sub (by omega)) ?_
          refine si_iald (v := nI (si_g t (si_pl t k - 1))) hx hb hK hP 1 0 rfl rfl (by decide) (by omega) (hK1 _ (by omega)) zdM_levels_40 ?_
          refine si_iast hx hb hK hP hD hS 4 0 rfl rfl (by decide) (by omega) zdM_levels_41 (fun H locs hP hD hS => ?_)
          have hP : va_P g.1 vwCl [(y0, .inr (6, [.int zs, .ref mW, .ref mD, .int zt, .int zn, .ref mT, .int ze, .ref mP, .ref mR, .int za, .ref mA, .int (nI t.length), .ref mK, .ref mO, .ref mB, .ref mI, .ref mN, .ref mH, .ref mC])), (mK, .inl (g.2.1, 61, .inl fk)), (mO, .inl (g.2.1, 61, .inl fo)), (mI, .inl (g.2.2, 23, .inr (.inl fi))), (mN, .inl (g.2.1, 61, .inl (upd f2 k (nI (si_g t (si_pl t k - 1)))))), (mH, .inl (g.2.1, 61, .inl fh))] H := hP
          have hD : va_D A [(y0, .inr (6, [.int zs, .ref mW, .ref mD, .int zt, .int zn, .ref mT, .int ze, .ref mP, .ref mR, .int za, .ref mA, .int (nI t.length), .ref mK, .ref mO, .ref mB, .ref mI, .ref mN, .ref mH, .ref mC])), (mK, .inl (g.2.1, 61, .inl fk)), (mO, .inl (g.2.1, 61, .inl fo)), (mI, .inl (g.2.2, 23, .inr (.inl fi))), (mN, .inl (g.2.1, 61, .inl (upd f2 k (nI (si_g t (si_pl t k - 1)))))), (mH, .inl (g.2.1, 61, .inl fh))] := hD
          refine lv_iinc (k := 1) (v := nI (k + 1)) (lv' := [(1, .int (nI (k + 1))), (0, .ref y0)]) hx hb zdM_levels_42 hl rfl (si_inc _) (Nat.le_of_ble_eq_true rfl) rfl (fun ls hl => ?_)
          refine lv_goto (tgt := 2) hx hb zdM_levels_45 rfl ?_
          exact ih2 (k + 1) (upd f2 k (nI (si_g t (si_pl t k - 1)))) _ _ _ (by omega) (by omega) (by first | exact si_up (F := fun x => nI (si_B t x)) hC (si_B0 h21) | exact si_up (F := fun x => nI (si_B t x)) hC (si_B1 h21)) (lv_sub hl [1, 0] rfl) (hP.sub [0, 1, 2, 3, 4, 5] rfl) (hD.sub [0, 1, 2, 3, 4, 5] (by decide) rfl) hS
        · refine lv_iconst (v := nI 0) hx hb zdM_levels_24 (by decide) ?_
          refine lv_goto (tgt := 41) hx hb zdM_levels_25 rfl ?_
          refine si_iast hx hb hK hP hD hS 4 0 rfl rfl (by decide) (by omega) zdM_levels_41 (fun H locs hP hD hS => ?_)
          have hP : va_P g.1 vwCl [(y0, .inr (6, [.int zs, .ref mW, .ref mD, .int zt, .int zn, .ref mT, .int ze, .ref mP, .ref mR, .int za, .ref mA, .int (nI t.length), .ref mK, .ref mO, .ref mB, .ref mI, .ref mN, .ref mH, .ref mC])), (mK, .inl (g.2.1, 61, .inl fk)), (mO, .inl (g.2.1, 61, .inl fo)), (mI, .inl (g.2.2, 23, .inr (.inl fi))), (mN, .inl (g.2.1, 61, .inl (upd f2 k (nI 0)))), (mH, .inl (g.2.1, 61, .inl fh))] H := hP
          have hD : va_D A [(y0, .inr (6, [.int zs, .ref mW, .ref mD, .int zt, .int zn, .ref mT, .int ze, .ref mP, .ref mR, .int za, .ref mA, .int (nI t.length), .ref mK, .ref mO, .ref mB, .ref mI, .ref mN, .ref mH, .ref mC])), (mK, .inl (g.2.1, 61, .inl fk)), (mO, .inl (g.2.1, 61, .inl fo)), (mI, .inl (g.2.2, 23, .inr (.inl fi))), (mN, .inl (g.2.1, 61, .inl (upd f2 k (nI 0)))), (mH, .inl (g.2.1, 61, .inl fh))] := hD
          refine lv_iinc (k := 1) (v := nI (k + 1)) (lv' := [(1, .int (nI (k + 1))), (0, .ref y0)]) hx hb zdM_levels_42 hl rfl (si_inc _) (Nat.le_of_ble_eq_true rfl) rfl (fun ls hl => ?_)
          refine lv_goto (tgt := 2) hx hb zdM_levels_45 rfl ?_
          exact ih2 (k + 1) (upd f2 k (nI 0)) _ _ _ (by omega) (by omega) (by first | exact si_up (F := fun x => nI (si_B t x)) hC (si_B0 h21) | exact si_up (F := fun x => nI (si_B t x)) hC (si_B1 h21)) (lv_sub hl [1, 0] rfl) (hP.sub [0, 1, 2, 3, 4, 5] rfl) (hD.sub [0, 1, 2, 3, 4, 5] (by decide) rfl) hS
  exact L2 (t.length + 1 - 0 + 1) 0 fn _ _ _ (by omega) (by omega) (fun x hx => absurd hx (Nat.not_lt_zero _)) (lv_sub hl [1, 0] rfl) (hP.sub [0, 1, 2, 3, 4, 5] rfl) (hD.sub [0, 1, 2, 3, 4, 5] (by decide) rfl) hS
end
