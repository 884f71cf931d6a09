/-! Calls out of the tables' words; the Line's contracts. Written by wip/draft/p15.py -/
section SICW
variable {own C : String} {i : Nat} {y : MethodName} {b : ByteArray} {k : Nat} {r : Option FieldType} {rm R : Room} {s : State} {args : Array Value}
theorem si_cV (n : Nat) (ht : ∀ w ∈ si_tbl, w.before args s = true) (h : Cond.code y b k r ∈ si_tbl) (h1 : Cond.methodLink own i y ∈ si_tbl) (h2 : Cond.instanceMethod y ∈ si_tbl) (h3 : Cond.selects C y y ∈ si_tbl) (h4 : Cond.initialized y.cls ∈ si_tbl) (hd : y.cls ≠ "java/lang/invoke/MethodHandle" ∧ y.cls ≠ "java/lang/invoke/VarHandle" ∧ (parseMethodDescriptor y.desc).map (fun d => d.parameters.length) = some n) (hR : rm.frames + 1 ≤ R.frames ∧ 8 + (k + 11) + rm.locals ≤ R.locals) : CallW R s args own C i y b k r (.code y b k r :: si_tbl) rm rm.cells rm.slots n :=
  ⟨callB_of n ht (si_gW h) rfl rfl rfl (ht _ h4) (ht _ h1) hd hR, ht _ h2, ht _ h3⟩
theorem si_cS (n : Nat) (ht : ∀ w ∈ si_tbl, w.before args s = true) (h : Cond.code y b k r ∈ si_tbl) (h1 : Cond.methodLink own i y ∈ si_tbl) (h2 : Cond.static y ∈ si_tbl) (h4 : Cond.initialized y.cls ∈ si_tbl) (hd : y.cls ≠ "java/lang/invoke/MethodHandle" ∧ y.cls ≠ "java/lang/invoke/VarHandle" ∧ (parseMethodDescriptor y.desc).map (fun d => d.parameters.length) = some n) (hR : rm.frames + 1 ≤ R.frames ∧ 8 + (k + 11) + rm.locals ≤ R.locals) : CallB R s args own i y b k r (.code y b k r :: si_tbl) rm rm.cells rm.slots n ∧ (Cond.static y).before args s = true :=
  ⟨callB_of n ht (si_gW h) rfl rfl rfl (ht _ h4) (ht _ h1) hd hR, ht _ h2⟩
theorem si_cI (n : Nat) (ht : ∀ w ∈ si_tbl, w.before args s = true) (h : Cond.code y b k none ∈ si_tbl) (h1 : Cond.methodLink own i y ∈ si_tbl) (h2 : Cond.instanceMethod y ∈ si_tbl) (h4 : Cond.initialized y.cls ∈ si_tbl) (hy : y.name = "<init>") (hd : y.cls ≠ "java/lang/invoke/MethodHandle" ∧ y.cls ≠ "java/lang/invoke/VarHandle" ∧ (parseMethodDescriptor y.desc).map (fun d => d.parameters.length) = some n) (hR : rm.frames + 1 ≤ R.frames ∧ 8 + (k + 11) + rm.locals ≤ R.locals) : CallB R s args own i y b k none (.code y b k none :: si_tbl) rm rm.cells rm.slots n ∧ y.name = "<init>" ∧ (Cond.instanceMethod y).before args s = true :=
  ⟨callB_of n ht (si_gW h) rfl rfl rfl (ht _ h4) (ht _ h1) hd hR, hy, ht _ h2⟩
end SICW
theorem si_g_lt {t : List Nat} (h : ∀ z ∈ t, 32 ≤ z ∧ z ≤ 126) {k : Nat} : si_g t k < 2 ^ 31 := by
  by_cases q : k < t.length
  · have := h _ (List.getElem_mem q)
    rw [si_g_in q]; omega
  · rw [si_g_out (by omega)]; decide
theorem si_ca_lt {f : Nat → Int32} {sz : Nat} {q v : Int32} (h : si_ca f sz q v) (hs : sz < 2 ^ 31) (hp : q < 0) : nI 0 = v := by
  rcases h with ⟨k, hk, rfl, -⟩ | ⟨-, h⟩
  · exact absurd hp (nI_pos (by omega))
  · rw [h]; rfl
theorem si_ca_ge {f : Nat → Int32} {sz : Nat} {q v : Int32} (h : si_ca f sz q v) (hs : sz < 2 ^ 31) (hp : nI sz ≤ q) : nI 0 = v := by
  rcases h with ⟨k, hk, rfl, -⟩ | ⟨-, h⟩
  · exact absurd hp (nI_ge hk hs)
  · rw [h]; rfl
theorem si_ca_in {f : Nat → Int32} {sz : Nat} {q v : Int32} (h : si_ca f sz q v) (h1 : ¬ q < 0) (h2 : ¬ nI sz ≤ q) : ∃ k, k < sz ∧ q = nI k ∧ v = f k := by
  rcases h with h | ⟨h | h, -⟩
  · exact h
  · exact absurd h h1
  · exact absurd h h2
/-- a code of a character -/
abbrev si_ch (q : Int32) : Prop := ¬ q < nI 32 ∧ ¬ nI 126 < q
theorem zhX_init : zyX_init.cls ≠ "java/lang/invoke/MethodHandle" ∧ zyX_init.cls ≠ "java/lang/invoke/VarHandle" ∧ (parseMethodDescriptor zyX_init.desc).map (fun d => d.parameters.length) = some 0 := by decide +kernel
theorem zhX_write : zyX_write.cls ≠ "java/lang/invoke/MethodHandle" ∧ zyX_write.cls ≠ "java/lang/invoke/VarHandle" ∧ (parseMethodDescriptor zyX_write.desc).map (fun d => d.parameters.length) = some 1 := by decide +kernel
theorem zhX_erase : zyX_erase.cls ≠ "java/lang/invoke/MethodHandle" ∧ zyX_erase.cls ≠ "java/lang/invoke/VarHandle" ∧ (parseMethodDescriptor zyX_erase.desc).map (fun d => d.parameters.length) = some 0 := by decide +kernel
theorem zhX_build : zyX_build.cls ≠ "java/lang/invoke/MethodHandle" ∧ zyX_build.cls ≠ "java/lang/invoke/VarHandle" ∧ (parseMethodDescriptor zyX_build.desc).map (fun d => d.parameters.length) = some 1 := by decide +kernel
theorem zhX_word : zyX_word.cls ≠ "java/lang/invoke/MethodHandle" ∧ zyX_word.cls ≠ "java/lang/invoke/VarHandle" ∧ (parseMethodDescriptor zyX_word.desc).map (fun d => d.parameters.length) = some 1 := by decide +kernel
theorem zhX_put : zyX_put.cls ≠ "java/lang/invoke/MethodHandle" ∧ zyX_put.cls ≠ "java/lang/invoke/VarHandle" ∧ (parseMethodDescriptor zyX_put.desc).map (fun d => d.parameters.length) = some 2 := by decide +kernel
theorem zhX_flip : zyX_flip.cls ≠ "java/lang/invoke/MethodHandle" ∧ zyX_flip.cls ≠ "java/lang/invoke/VarHandle" ∧ (parseMethodDescriptor zyX_flip.desc).map (fun d => d.parameters.length) = some 2 := by decide +kernel
theorem zhX_load : zyX_load.cls ≠ "java/lang/invoke/MethodHandle" ∧ zyX_load.cls ≠ "java/lang/invoke/VarHandle" ∧ (parseMethodDescriptor zyX_load.desc).map (fun d => d.parameters.length) = some 0 := by decide +kernel
theorem zhX_length : zyX_length.cls ≠ "java/lang/invoke/MethodHandle" ∧ zyX_length.cls ≠ "java/lang/invoke/VarHandle" ∧ (parseMethodDescriptor zyX_length.desc).map (fun d => d.parameters.length) = some 0 := by decide +kernel
theorem zhX_rate : zyX_rate.cls ≠ "java/lang/invoke/MethodHandle" ∧ zyX_rate.cls ≠ "java/lang/invoke/VarHandle" ∧ (parseMethodDescriptor zyX_rate.desc).map (fun d => d.parameters.length) = some 0 := by decide +kernel
theorem zhX_charAt : zyX_charAt.cls ≠ "java/lang/invoke/MethodHandle" ∧ zyX_charAt.cls ≠ "java/lang/invoke/VarHandle" ∧ (parseMethodDescriptor zyX_charAt.desc).map (fun d => d.parameters.length) = some 1 := by decide +kernel
theorem zhX_rowOf : zyX_rowOf.cls ≠ "java/lang/invoke/MethodHandle" ∧ zyX_rowOf.cls ≠ "java/lang/invoke/VarHandle" ∧ (parseMethodDescriptor zyX_rowOf.desc).map (fun d => d.parameters.length) = some 1 := by decide +kernel
theorem zhX_placeOf : zyX_placeOf.cls ≠ "java/lang/invoke/MethodHandle" ∧ zyX_placeOf.cls ≠ "java/lang/invoke/VarHandle" ∧ (parseMethodDescriptor zyX_placeOf.desc).map (fun d => d.parameters.length) = some 1 := by decide +kernel
theorem zhX_ask : zyX_ask.cls ≠ "java/lang/invoke/MethodHandle" ∧ zyX_ask.cls ≠ "java/lang/invoke/VarHandle" ∧ (parseMethodDescriptor zyX_ask.desc).map (fun d => d.parameters.length) = some 1 := by decide +kernel
theorem zhX_back : zyX_back.cls ≠ "java/lang/invoke/MethodHandle" ∧ zyX_back.cls ≠ "java/lang/invoke/VarHandle" ∧ (parseMethodDescriptor zyX_back.desc).map (fun d => d.parameters.length) = some 0 := by decide +kernel
theorem zhX_count : zyX_count.cls ≠ "java/lang/invoke/MethodHandle" ∧ zyX_count.cls ≠ "java/lang/invoke/VarHandle" ∧ (parseMethodDescriptor zyX_count.desc).map (fun d => d.parameters.length) = some 0 := by decide +kernel
theorem zhX_firstRow : zyX_firstRow.cls ≠ "java/lang/invoke/MethodHandle" ∧ zyX_firstRow.cls ≠ "java/lang/invoke/VarHandle" ∧ (parseMethodDescriptor zyX_firstRow.desc).map (fun d => d.parameters.length) = some 0 := by decide +kernel
theorem zhX_locate : zyX_locate.cls ≠ "java/lang/invoke/MethodHandle" ∧ zyX_locate.cls ≠ "java/lang/invoke/VarHandle" ∧ (parseMethodDescriptor zyX_locate.desc).map (fun d => d.parameters.length) = some 1 := by decide +kernel
theorem zhX_variety : zyX_variety.cls ≠ "java/lang/invoke/MethodHandle" ∧ zyX_variety.cls ≠ "java/lang/invoke/VarHandle" ∧ (parseMethodDescriptor zyX_variety.desc).map (fun d => d.parameters.length) = some 0 := by decide +kernel
theorem zhX_isWord : zyX_isWord.cls ≠ "java/lang/invoke/MethodHandle" ∧ zyX_isWord.cls ≠ "java/lang/invoke/VarHandle" ∧ (parseMethodDescriptor zyX_isWord.desc).map (fun d => d.parameters.length) = some 1 := by decide +kernel
theorem zhX_isRate : zyX_isRate.cls ≠ "java/lang/invoke/MethodHandle" ∧ zyX_isRate.cls ≠ "java/lang/invoke/VarHandle" ∧ (parseMethodDescriptor zyX_isRate.desc).map (fun d => d.parameters.length) = some 1 := by decide +kernel
theorem zhX_hasLoaded : zyX_hasLoaded.cls ≠ "java/lang/invoke/MethodHandle" ∧ zyX_hasLoaded.cls ≠ "java/lang/invoke/VarHandle" ∧ (parseMethodDescriptor zyX_hasLoaded.desc).map (fun d => d.parameters.length) = some 0 := by decide +kernel
theorem zhX_isLoadedPlace : zyX_isLoadedPlace.cls ≠ "java/lang/invoke/MethodHandle" ∧ zyX_isLoadedPlace.cls ≠ "java/lang/invoke/VarHandle" ∧ (parseMethodDescriptor zyX_isLoadedPlace.desc).map (fun d => d.parameters.length) = some 1 := by decide +kernel
theorem zhX_occursAt : zyX_occursAt.cls ≠ "java/lang/invoke/MethodHandle" ∧ zyX_occursAt.cls ≠ "java/lang/invoke/VarHandle" ∧ (parseMethodDescriptor zyX_occursAt.desc).map (fun d => d.parameters.length) = some 1 := by decide +kernel
theorem zhX_draw : zyX_draw.cls ≠ "java/lang/invoke/MethodHandle" ∧ zyX_draw.cls ≠ "java/lang/invoke/VarHandle" ∧ (parseMethodDescriptor zyX_draw.desc).map (fun d => d.parameters.length) = some 3 := by decide +kernel
theorem zhX_readDesk : zyX_readDesk.cls ≠ "java/lang/invoke/MethodHandle" ∧ zyX_readDesk.cls ≠ "java/lang/invoke/VarHandle" ∧ (parseMethodDescriptor zyX_readDesk.desc).map (fun d => d.parameters.length) = some 0 := by decide +kernel
theorem zhM_init : zyM_init.cls ≠ "java/lang/invoke/MethodHandle" ∧ zyM_init.cls ≠ "java/lang/invoke/VarHandle" ∧ (parseMethodDescriptor zyM_init.desc).map (fun d => d.parameters.length) = some 0 := by decide +kernel
theorem zhM_write : zyM_write.cls ≠ "java/lang/invoke/MethodHandle" ∧ zyM_write.cls ≠ "java/lang/invoke/VarHandle" ∧ (parseMethodDescriptor zyM_write.desc).map (fun d => d.parameters.length) = some 1 := by decide +kernel
theorem zhM_erase : zyM_erase.cls ≠ "java/lang/invoke/MethodHandle" ∧ zyM_erase.cls ≠ "java/lang/invoke/VarHandle" ∧ (parseMethodDescriptor zyM_erase.desc).map (fun d => d.parameters.length) = some 0 := by decide +kernel
theorem zhM_word : zyM_word.cls ≠ "java/lang/invoke/MethodHandle" ∧ zyM_word.cls ≠ "java/lang/invoke/VarHandle" ∧ (parseMethodDescriptor zyM_word.desc).map (fun d => d.parameters.length) = some 1 := by decide +kernel
theorem zhM_put : zyM_put.cls ≠ "java/lang/invoke/MethodHandle" ∧ zyM_put.cls ≠ "java/lang/invoke/VarHandle" ∧ (parseMethodDescriptor zyM_put.desc).map (fun d => d.parameters.length) = some 2 := by decide +kernel
theorem zhM_flip : zyM_flip.cls ≠ "java/lang/invoke/MethodHandle" ∧ zyM_flip.cls ≠ "java/lang/invoke/VarHandle" ∧ (parseMethodDescriptor zyM_flip.desc).map (fun d => d.parameters.length) = some 2 := by decide +kernel
theorem zhM_earlier : zyM_earlier.cls ≠ "java/lang/invoke/MethodHandle" ∧ zyM_earlier.cls ≠ "java/lang/invoke/VarHandle" ∧ (parseMethodDescriptor zyM_earlier.desc).map (fun d => d.parameters.length) = some 2 := by decide +kernel
theorem zhM_sort : zyM_sort.cls ≠ "java/lang/invoke/MethodHandle" ∧ zyM_sort.cls ≠ "java/lang/invoke/VarHandle" ∧ (parseMethodDescriptor zyM_sort.desc).map (fun d => d.parameters.length) = some 0 := by decide +kernel
theorem zhM_levels : zyM_levels.cls ≠ "java/lang/invoke/MethodHandle" ∧ zyM_levels.cls ≠ "java/lang/invoke/VarHandle" ∧ (parseMethodDescriptor zyM_levels.desc).map (fun d => d.parameters.length) = some 0 := by decide +kernel
theorem zhM_picture : zyM_picture.cls ≠ "java/lang/invoke/MethodHandle" ∧ zyM_picture.cls ≠ "java/lang/invoke/VarHandle" ∧ (parseMethodDescriptor zyM_picture.desc).map (fun d => d.parameters.length) = some 1 := by decide +kernel
theorem zhM_build : zyM_build.cls ≠ "java/lang/invoke/MethodHandle" ∧ zyM_build.cls ≠ "java/lang/invoke/VarHandle" ∧ (parseMethodDescriptor zyM_build.desc).map (fun d => d.parameters.length) = some 1 := by decide +kernel
theorem zhM_readCodes : zyM_readCodes.cls ≠ "java/lang/invoke/MethodHandle" ∧ zyM_readCodes.cls ≠ "java/lang/invoke/VarHandle" ∧ (parseMethodDescriptor zyM_readCodes.desc).map (fun d => d.parameters.length) = some 0 := by decide +kernel
theorem zhM_before : zyM_before.cls ≠ "java/lang/invoke/MethodHandle" ∧ zyM_before.cls ≠ "java/lang/invoke/VarHandle" ∧ (parseMethodDescriptor zyM_before.desc).map (fun d => d.parameters.length) = some 1 := by decide +kernel
theorem zhM_load : zyM_load.cls ≠ "java/lang/invoke/MethodHandle" ∧ zyM_load.cls ≠ "java/lang/invoke/VarHandle" ∧ (parseMethodDescriptor zyM_load.desc).map (fun d => d.parameters.length) = some 0 := by decide +kernel
theorem zhM_length : zyM_length.cls ≠ "java/lang/invoke/MethodHandle" ∧ zyM_length.cls ≠ "java/lang/invoke/VarHandle" ∧ (parseMethodDescriptor zyM_length.desc).map (fun d => d.parameters.length) = some 0 := by decide +kernel
theorem zhM_rate : zyM_rate.cls ≠ "java/lang/invoke/MethodHandle" ∧ zyM_rate.cls ≠ "java/lang/invoke/VarHandle" ∧ (parseMethodDescriptor zyM_rate.desc).map (fun d => d.parameters.length) = some 0 := by decide +kernel
theorem zhM_place : zyM_place.cls ≠ "java/lang/invoke/MethodHandle" ∧ zyM_place.cls ≠ "java/lang/invoke/VarHandle" ∧ (parseMethodDescriptor zyM_place.desc).map (fun d => d.parameters.length) = some 1 := by decide +kernel
theorem zhM_charAt : zyM_charAt.cls ≠ "java/lang/invoke/MethodHandle" ∧ zyM_charAt.cls ≠ "java/lang/invoke/VarHandle" ∧ (parseMethodDescriptor zyM_charAt.desc).map (fun d => d.parameters.length) = some 1 := by decide +kernel
theorem zhM_rowOf : zyM_rowOf.cls ≠ "java/lang/invoke/MethodHandle" ∧ zyM_rowOf.cls ≠ "java/lang/invoke/VarHandle" ∧ (parseMethodDescriptor zyM_rowOf.desc).map (fun d => d.parameters.length) = some 1 := by decide +kernel
theorem zhM_placeOf : zyM_placeOf.cls ≠ "java/lang/invoke/MethodHandle" ∧ zyM_placeOf.cls ≠ "java/lang/invoke/VarHandle" ∧ (parseMethodDescriptor zyM_placeOf.desc).map (fun d => d.parameters.length) = some 1 := by decide +kernel
theorem zhM_ask : zyM_ask.cls ≠ "java/lang/invoke/MethodHandle" ∧ zyM_ask.cls ≠ "java/lang/invoke/VarHandle" ∧ (parseMethodDescriptor zyM_ask.desc).map (fun d => d.parameters.length) = some 1 := by decide +kernel
theorem zhM_back : zyM_back.cls ≠ "java/lang/invoke/MethodHandle" ∧ zyM_back.cls ≠ "java/lang/invoke/VarHandle" ∧ (parseMethodDescriptor zyM_back.desc).map (fun d => d.parameters.length) = some 0 := by decide +kernel
theorem zhM_occurs : zyM_occurs.cls ≠ "java/lang/invoke/MethodHandle" ∧ zyM_occurs.cls ≠ "java/lang/invoke/VarHandle" ∧ (parseMethodDescriptor zyM_occurs.desc).map (fun d => d.parameters.length) = some 1 := by decide +kernel
theorem zhM_count : zyM_count.cls ≠ "java/lang/invoke/MethodHandle" ∧ zyM_count.cls ≠ "java/lang/invoke/VarHandle" ∧ (parseMethodDescriptor zyM_count.desc).map (fun d => d.parameters.length) = some 0 := by decide +kernel
theorem zhM_firstRow : zyM_firstRow.cls ≠ "java/lang/invoke/MethodHandle" ∧ zyM_firstRow.cls ≠ "java/lang/invoke/VarHandle" ∧ (parseMethodDescriptor zyM_firstRow.desc).map (fun d => d.parameters.length) = some 0 := by decide +kernel
theorem zhM_locate : zyM_locate.cls ≠ "java/lang/invoke/MethodHandle" ∧ zyM_locate.cls ≠ "java/lang/invoke/VarHandle" ∧ (parseMethodDescriptor zyM_locate.desc).map (fun d => d.parameters.length) = some 1 := by decide +kernel
theorem zhM_variety : zyM_variety.cls ≠ "java/lang/invoke/MethodHandle" ∧ zyM_variety.cls ≠ "java/lang/invoke/VarHandle" ∧ (parseMethodDescriptor zyM_variety.desc).map (fun d => d.parameters.length) = some 0 := by decide +kernel
theorem zhB_init : zyB_init.cls ≠ "java/lang/invoke/MethodHandle" ∧ zyB_init.cls ≠ "java/lang/invoke/VarHandle" ∧ (parseMethodDescriptor zyB_init.desc).map (fun d => d.parameters.length) = some 0 := by decide +kernel
theorem zhB_takeFrom : zyB_takeFrom.cls ≠ "java/lang/invoke/MethodHandle" ∧ zyB_takeFrom.cls ≠ "java/lang/invoke/VarHandle" ∧ (parseMethodDescriptor zyB_takeFrom.desc).map (fun d => d.parameters.length) = some 2 := by decide +kernel
theorem zhB_drawLevels : zyB_drawLevels.cls ≠ "java/lang/invoke/MethodHandle" ∧ zyB_drawLevels.cls ≠ "java/lang/invoke/VarHandle" ∧ (parseMethodDescriptor zyB_drawLevels.desc).map (fun d => d.parameters.length) = some 1 := by decide +kernel
theorem zhB_readLevels : zyB_readLevels.cls ≠ "java/lang/invoke/MethodHandle" ∧ zyB_readLevels.cls ≠ "java/lang/invoke/VarHandle" ∧ (parseMethodDescriptor zyB_readLevels.desc).map (fun d => d.parameters.length) = some 2 := by decide +kernel
theorem zhB_spell : zyB_spell.cls ≠ "java/lang/invoke/MethodHandle" ∧ zyB_spell.cls ≠ "java/lang/invoke/VarHandle" ∧ (parseMethodDescriptor zyB_spell.desc).map (fun d => d.parameters.length) = some 1 := by decide +kernel
theorem zhB_rowBefore : zyB_rowBefore.cls ≠ "java/lang/invoke/MethodHandle" ∧ zyB_rowBefore.cls ≠ "java/lang/invoke/VarHandle" ∧ (parseMethodDescriptor zyB_rowBefore.desc).map (fun d => d.parameters.length) = some 1 := by decide +kernel
theorem zhB_startOrder : zyB_startOrder.cls ≠ "java/lang/invoke/MethodHandle" ∧ zyB_startOrder.cls ≠ "java/lang/invoke/VarHandle" ∧ (parseMethodDescriptor zyB_startOrder.desc).map (fun d => d.parameters.length) = some 0 := by decide +kernel
theorem zhB_partOrder : zyB_partOrder.cls ≠ "java/lang/invoke/MethodHandle" ∧ zyB_partOrder.cls ≠ "java/lang/invoke/VarHandle" ∧ (parseMethodDescriptor zyB_partOrder.desc).map (fun d => d.parameters.length) = some 1 := by decide +kernel
theorem zhI_init : zyI_init.cls ≠ "java/lang/invoke/MethodHandle" ∧ zyI_init.cls ≠ "java/lang/invoke/VarHandle" ∧ (parseMethodDescriptor zyI_init.desc).map (fun d => d.parameters.length) = some 0 := by decide +kernel
theorem zhI_isSameAs : zyI_isSameAs.cls ≠ "java/lang/invoke/MethodHandle" ∧ zyI_isSameAs.cls ≠ "java/lang/invoke/VarHandle" ∧ (parseMethodDescriptor zyI_isSameAs.desc).map (fun d => d.parameters.length) = some 1 := by decide +kernel
theorem zhI_draw : zyI_draw.cls ≠ "java/lang/invoke/MethodHandle" ∧ zyI_draw.cls ≠ "java/lang/invoke/VarHandle" ∧ (parseMethodDescriptor zyI_draw.desc).map (fun d => d.parameters.length) = some 3 := by decide +kernel
theorem zhI_drawMarkedRows : zyI_drawMarkedRows.cls ≠ "java/lang/invoke/MethodHandle" ∧ zyI_drawMarkedRows.cls ≠ "java/lang/invoke/VarHandle" ∧ (parseMethodDescriptor zyI_drawMarkedRows.desc).map (fun d => d.parameters.length) = some 2 := by decide +kernel
theorem zhI_drawRowsOfPlaces : zyI_drawRowsOfPlaces.cls ≠ "java/lang/invoke/MethodHandle" ∧ zyI_drawRowsOfPlaces.cls ≠ "java/lang/invoke/VarHandle" ∧ (parseMethodDescriptor zyI_drawRowsOfPlaces.desc).map (fun d => d.parameters.length) = some 2 := by decide +kernel
theorem zhI_drawNumber : zyI_drawNumber.cls ≠ "java/lang/invoke/MethodHandle" ∧ zyI_drawNumber.cls ≠ "java/lang/invoke/VarHandle" ∧ (parseMethodDescriptor zyI_drawNumber.desc).map (fun d => d.parameters.length) = some 3 := by decide +kernel
theorem zhL_init : zyL_init.cls ≠ "java/lang/invoke/MethodHandle" ∧ zyL_init.cls ≠ "java/lang/invoke/VarHandle" ∧ (parseMethodDescriptor zyL_init.desc).map (fun d => d.parameters.length) = some 1 := by decide +kernel
theorem zhL_add : zyL_add.cls ≠ "java/lang/invoke/MethodHandle" ∧ zyL_add.cls ≠ "java/lang/invoke/VarHandle" ∧ (parseMethodDescriptor zyL_add.desc).map (fun d => d.parameters.length) = some 1 := by decide +kernel
theorem zhL_dropLast : zyL_dropLast.cls ≠ "java/lang/invoke/MethodHandle" ∧ zyL_dropLast.cls ≠ "java/lang/invoke/VarHandle" ∧ (parseMethodDescriptor zyL_dropLast.desc).map (fun d => d.parameters.length) = some 0 := by decide +kernel
theorem zhL_clear : zyL_clear.cls ≠ "java/lang/invoke/MethodHandle" ∧ zyL_clear.cls ≠ "java/lang/invoke/VarHandle" ∧ (parseMethodDescriptor zyL_clear.desc).map (fun d => d.parameters.length) = some 0 := by decide +kernel
theorem zhL_codeAt : zyL_codeAt.cls ≠ "java/lang/invoke/MethodHandle" ∧ zyL_codeAt.cls ≠ "java/lang/invoke/VarHandle" ∧ (parseMethodDescriptor zyL_codeAt.desc).map (fun d => d.parameters.length) = some 1 := by decide +kernel
theorem zhL_hasAt : zyL_hasAt.cls ≠ "java/lang/invoke/MethodHandle" ∧ zyL_hasAt.cls ≠ "java/lang/invoke/VarHandle" ∧ (parseMethodDescriptor zyL_hasAt.desc).map (fun d => d.parameters.length) = some 2 := by decide +kernel
theorem zhR_init : zyR_init.cls ≠ "java/lang/invoke/MethodHandle" ∧ zyR_init.cls ≠ "java/lang/invoke/VarHandle" ∧ (parseMethodDescriptor zyR_init.desc).map (fun d => d.parameters.length) = some 0 := by decide +kernel
theorem zhS_init : zyS_init.cls ≠ "java/lang/invoke/MethodHandle" ∧ zyS_init.cls ≠ "java/lang/invoke/VarHandle" ∧ (parseMethodDescriptor zyS_init.desc).map (fun d => d.parameters.length) = some 0 := by decide +kernel
theorem zhS_sort : zyS_sort.cls ≠ "java/lang/invoke/MethodHandle" ∧ zyS_sort.cls ≠ "java/lang/invoke/VarHandle" ∧ (parseMethodDescriptor zyS_sort.desc).map (fun d => d.parameters.length) = some 1 := by decide +kernel
theorem zhS_insert : zyS_insert.cls ≠ "java/lang/invoke/MethodHandle" ∧ zyS_insert.cls ≠ "java/lang/invoke/VarHandle" ∧ (parseMethodDescriptor zyS_insert.desc).map (fun d => d.parameters.length) = some 2 := by decide +kernel
theorem zhS_isSmaller : zyS_isSmaller.cls ≠ "java/lang/invoke/MethodHandle" ∧ zyS_isSmaller.cls ≠ "java/lang/invoke/VarHandle" ∧ (parseMethodDescriptor zyS_isSmaller.desc).map (fun d => d.parameters.length) = some 3 := by decide +kernel
theorem zhJ_bitCount : zyJ_bitCount.cls ≠ "java/lang/invoke/MethodHandle" ∧ zyJ_bitCount.cls ≠ "java/lang/invoke/VarHandle" ∧ (parseMethodDescriptor zyJ_bitCount.desc).map (fun d => d.parameters.length) = some 1 := by decide +kernel
