-- the law's base: its words, its pictures
def kLw : List Cond := [Cond.methodLink RL 7 yX10_append, Cond.instanceMethod yX10_append, Cond.selects RX10 yX10_append yX10_append, Cond.classLink RL 13 "java/lang/IllegalStateException", Cond.methodLink RL 15 yX10_truncate, Cond.instanceMethod yX10_truncate, Cond.selects RX10 yX10_truncate yX10_truncate, Cond.classLink RL 19 "java/lang/IndexOutOfBoundsException", Cond.methodLink RL 21 yX10_load, Cond.instanceMethod yX10_load, Cond.selects RX10 yX10_load yX10_load, Cond.classLink RL 25 "java/lang/IllegalArgumentException", Cond.methodLink RL 27 yX10_find, Cond.instanceMethod yX10_find, Cond.selects RX10 yX10_find yX10_find, Cond.classLink RL 30 "java/util/NoSuchElementException", Cond.methodLink RL 32 yX10_count, Cond.instanceMethod yX10_count, Cond.selects RX10 yX10_count yX10_count, Cond.methodLink RL 35 yX10_outlet, Cond.instanceMethod yX10_outlet, Cond.selects RX10 yX10_outlet yX10_outlet, Cond.methodLink RL 39 yX10_known, Cond.instanceMethod yX10_known, Cond.selects RX10 yX10_known yX10_known, Cond.methodLink RL 42 yX10_needs, Cond.instanceMethod yX10_needs, Cond.selects RX10 yX10_needs yX10_needs, Cond.methodLink RL 46 yX10_outletsWith, Cond.instanceMethod yX10_outletsWith, Cond.selects RX10 yX10_outletsWith yX10_outletsWith, Cond.methodLink RL 49 yX10_load_, Cond.instanceMethod yX10_load_, Cond.selects RX10 yX10_load_ yX10_load_, Cond.methodLink RL 51 yX10_message, Cond.instanceMethod yX10_message, Cond.selects RX10 yX10_message yX10_message, Cond.methodLink RL 54 yX10_traffic, Cond.instanceMethod yX10_traffic, Cond.selects RX10 yX10_traffic yX10_traffic, Cond.methodLink RL 57 yX10_learned, Cond.instanceMethod yX10_learned, Cond.selects RX10 yX10_learned yX10_learned, Cond.methodLink RL 60 yX10_why, Cond.instanceMethod yX10_why, Cond.selects RX10 yX10_why yX10_why, Cond.methodLink RL 63 yX10_runsIn, Cond.instanceMethod yX10_runsIn, Cond.selects RX10 yX10_runsIn yX10_runsIn, Cond.methodLink RL 66 yX10_allIn, Cond.instanceMethod yX10_allIn, Cond.selects RX10 yX10_allIn yX10_allIn, Cond.methodLink RL 69 yX10_peakIn, Cond.instanceMethod yX10_peakIn, Cond.selects RX10 yX10_peakIn yX10_peakIn, Cond.methodLink RL 72 yX10_sentIn, Cond.instanceMethod yX10_sentIn, Cond.selects RX10 yX10_sentIn yX10_sentIn, Cond.methodLink RL 75 yX10_run, Cond.instanceMethod yX10_run, Cond.selects RX10 yX10_run yX10_run, Cond.methodLink RL 78 yX10_blackout, Cond.instanceMethod yX10_blackout, Cond.selects RX10 yX10_blackout yX10_blackout, Cond.methodLink RL 81 yX10_want, Cond.instanceMethod yX10_want, Cond.selects RX10 yX10_want yX10_want, Cond.methodLink RL 85 yX10_setFuse, Cond.instanceMethod yX10_setFuse, Cond.selects RX10 yX10_setFuse yX10_setFuse, Cond.methodLink RL 88 yX10_setPriority, Cond.instanceMethod yX10_setPriority, Cond.selects RX10 yX10_setPriority yX10_setPriority, Cond.methodLink RL 91 yX10_undo, Cond.instanceMethod yX10_undo, Cond.selects RX10 yX10_undo yX10_undo, Cond.methodLink RL 94 yX10_save, Cond.instanceMethod yX10_save, Cond.selects RX10 yX10_save yX10_save, Cond.methodLink RL 98 yX10_restore, Cond.instanceMethod yX10_restore, Cond.selects RX10 yX10_restore yX10_restore]
def kAL : List Cond := kLw ++ kAll
theorem kLl0 : Cond.methodLink RL 7 yX10_append ∈ kAL := List.mem_append_left _ (List.mem_of_getElem? (i := 0) rfl)
theorem kLl1 : Cond.instanceMethod yX10_append ∈ kAL := List.mem_append_left _ (List.mem_of_getElem? (i := 1) rfl)
theorem kLl2 : Cond.selects RX10 yX10_append yX10_append ∈ kAL := List.mem_append_left _ (List.mem_of_getElem? (i := 2) rfl)
theorem kLl3 : Cond.classLink RL 13 "java/lang/IllegalStateException" ∈ kAL := List.mem_append_left _ (List.mem_of_getElem? (i := 3) rfl)
theorem kLl4 : Cond.methodLink RL 15 yX10_truncate ∈ kAL := List.mem_append_left _ (List.mem_of_getElem? (i := 4) rfl)
theorem kLl5 : Cond.instanceMethod yX10_truncate ∈ kAL := List.mem_append_left _ (List.mem_of_getElem? (i := 5) rfl)
theorem kLl6 : Cond.selects RX10 yX10_truncate yX10_truncate ∈ kAL := List.mem_append_left _ (List.mem_of_getElem? (i := 6) rfl)
theorem kLl7 : Cond.classLink RL 19 "java/lang/IndexOutOfBoundsException" ∈ kAL := List.mem_append_left _ (List.mem_of_getElem? (i := 7) rfl)
theorem kLl8 : Cond.methodLink RL 21 yX10_load ∈ kAL := List.mem_append_left _ (List.mem_of_getElem? (i := 8) rfl)
theorem kLl9 : Cond.instanceMethod yX10_load ∈ kAL := List.mem_append_left _ (List.mem_of_getElem? (i := 9) rfl)
theorem kLl10 : Cond.selects RX10 yX10_load yX10_load ∈ kAL := List.mem_append_left _ (List.mem_of_getElem? (i := 10) rfl)
theorem kLl11 : Cond.classLink RL 25 "java/lang/IllegalArgumentException" ∈ kAL := List.mem_append_left _ (List.mem_of_getElem? (i := 11) rfl)
theorem kLl12 : Cond.methodLink RL 27 yX10_find ∈ kAL := List.mem_append_left _ (List.mem_of_getElem? (i := 12) rfl)
theorem kLl13 : Cond.instanceMethod yX10_find ∈ kAL := List.mem_append_left _ (List.mem_of_getElem? (i := 13) rfl)
theorem kLl14 : Cond.selects RX10 yX10_find yX10_find ∈ kAL := List.mem_append_left _ (List.mem_of_getElem? (i := 14) rfl)
theorem kLl15 : Cond.classLink RL 30 "java/util/NoSuchElementException" ∈ kAL := List.mem_append_left _ (List.mem_of_getElem? (i := 15) rfl)
theorem kLl16 : Cond.methodLink RL 32 yX10_count ∈ kAL := List.mem_append_left _ (List.mem_of_getElem? (i := 16) rfl)
theorem kLl17 : Cond.instanceMethod yX10_count ∈ kAL := List.mem_append_left _ (List.mem_of_getElem? (i := 17) rfl)
theorem kLl18 : Cond.selects RX10 yX10_count yX10_count ∈ kAL := List.mem_append_left _ (List.mem_of_getElem? (i := 18) rfl)
theorem kLl19 : Cond.methodLink RL 35 yX10_outlet ∈ kAL := List.mem_append_left _ (List.mem_of_getElem? (i := 19) rfl)
theorem kLl20 : Cond.instanceMethod yX10_outlet ∈ kAL := List.mem_append_left _ (List.mem_of_getElem? (i := 20) rfl)
theorem kLl21 : Cond.selects RX10 yX10_outlet yX10_outlet ∈ kAL := List.mem_append_left _ (List.mem_of_getElem? (i := 21) rfl)
theorem kLl22 : Cond.methodLink RL 39 yX10_known ∈ kAL := List.mem_append_left _ (List.mem_of_getElem? (i := 22) rfl)
theorem kLl23 : Cond.instanceMethod yX10_known ∈ kAL := List.mem_append_left _ (List.mem_of_getElem? (i := 23) rfl)
theorem kLl24 : Cond.selects RX10 yX10_known yX10_known ∈ kAL := List.mem_append_left _ (List.mem_of_getElem? (i := 24) rfl)
theorem kLl25 : Cond.methodLink RL 42 yX10_needs ∈ kAL := List.mem_append_left _ (List.mem_of_getElem? (i := 25) rfl)
theorem kLl26 : Cond.instanceMethod yX10_needs ∈ kAL := List.mem_append_left _ (List.mem_of_getElem? (i := 26) rfl)
theorem kLl27 : Cond.selects RX10 yX10_needs yX10_needs ∈ kAL := List.mem_append_left _ (List.mem_of_getElem? (i := 27) rfl)
theorem kLl28 : Cond.methodLink RL 46 yX10_outletsWith ∈ kAL := List.mem_append_left _ (List.mem_of_getElem? (i := 28) rfl)
theorem kLl29 : Cond.instanceMethod yX10_outletsWith ∈ kAL := List.mem_append_left _ (List.mem_of_getElem? (i := 29) rfl)
theorem kLl30 : Cond.selects RX10 yX10_outletsWith yX10_outletsWith ∈ kAL := List.mem_append_left _ (List.mem_of_getElem? (i := 30) rfl)
theorem kLl31 : Cond.methodLink RL 49 yX10_load_ ∈ kAL := List.mem_append_left _ (List.mem_of_getElem? (i := 31) rfl)
theorem kLl32 : Cond.instanceMethod yX10_load_ ∈ kAL := List.mem_append_left _ (List.mem_of_getElem? (i := 32) rfl)
theorem kLl33 : Cond.selects RX10 yX10_load_ yX10_load_ ∈ kAL := List.mem_append_left _ (List.mem_of_getElem? (i := 33) rfl)
theorem kLl34 : Cond.methodLink RL 51 yX10_message ∈ kAL := List.mem_append_left _ (List.mem_of_getElem? (i := 34) rfl)
theorem kLl35 : Cond.instanceMethod yX10_message ∈ kAL := List.mem_append_left _ (List.mem_of_getElem? (i := 35) rfl)
theorem kLl36 : Cond.selects RX10 yX10_message yX10_message ∈ kAL := List.mem_append_left _ (List.mem_of_getElem? (i := 36) rfl)
theorem kLl37 : Cond.methodLink RL 54 yX10_traffic ∈ kAL := List.mem_append_left _ (List.mem_of_getElem? (i := 37) rfl)
theorem kLl38 : Cond.instanceMethod yX10_traffic ∈ kAL := List.mem_append_left _ (List.mem_of_getElem? (i := 38) rfl)
theorem kLl39 : Cond.selects RX10 yX10_traffic yX10_traffic ∈ kAL := List.mem_append_left _ (List.mem_of_getElem? (i := 39) rfl)
theorem kLl40 : Cond.methodLink RL 57 yX10_learned ∈ kAL := List.mem_append_left _ (List.mem_of_getElem? (i := 40) rfl)
theorem kLl41 : Cond.instanceMethod yX10_learned ∈ kAL := List.mem_append_left _ (List.mem_of_getElem? (i := 41) rfl)
theorem kLl42 : Cond.selects RX10 yX10_learned yX10_learned ∈ kAL := List.mem_append_left _ (List.mem_of_getElem? (i := 42) rfl)
theorem kLl43 : Cond.methodLink RL 60 yX10_why ∈ kAL := List.mem_append_left _ (List.mem_of_getElem? (i := 43) rfl)
theorem kLl44 : Cond.instanceMethod yX10_why ∈ kAL := List.mem_append_left _ (List.mem_of_getElem? (i := 44) rfl)
theorem kLl45 : Cond.selects RX10 yX10_why yX10_why ∈ kAL := List.mem_append_left _ (List.mem_of_getElem? (i := 45) rfl)
theorem kLl46 : Cond.methodLink RL 63 yX10_runsIn ∈ kAL := List.mem_append_left _ (List.mem_of_getElem? (i := 46) rfl)
theorem kLl47 : Cond.instanceMethod yX10_runsIn ∈ kAL := List.mem_append_left _ (List.mem_of_getElem? (i := 47) rfl)
theorem kLl48 : Cond.selects RX10 yX10_runsIn yX10_runsIn ∈ kAL := List.mem_append_left _ (List.mem_of_getElem? (i := 48) rfl)
theorem kLl49 : Cond.methodLink RL 66 yX10_allIn ∈ kAL := List.mem_append_left _ (List.mem_of_getElem? (i := 49) rfl)
theorem kLl50 : Cond.instanceMethod yX10_allIn ∈ kAL := List.mem_append_left _ (List.mem_of_getElem? (i := 50) rfl)
theorem kLl51 : Cond.selects RX10 yX10_allIn yX10_allIn ∈ kAL := List.mem_append_left _ (List.mem_of_getElem? (i := 51) rfl)
theorem kLl52 : Cond.methodLink RL 69 yX10_peakIn ∈ kAL := List.mem_append_left _ (List.mem_of_getElem? (i := 52) rfl)
theorem kLl53 : Cond.instanceMethod yX10_peakIn ∈ kAL := List.mem_append_left _ (List.mem_of_getElem? (i := 53) rfl)
theorem kLl54 : Cond.selects RX10 yX10_peakIn yX10_peakIn ∈ kAL := List.mem_append_left _ (List.mem_of_getElem? (i := 54) rfl)
theorem kLl55 : Cond.methodLink RL 72 yX10_sentIn ∈ kAL := List.mem_append_left _ (List.mem_of_getElem? (i := 55) rfl)
theorem kLl56 : Cond.instanceMethod yX10_sentIn ∈ kAL := List.mem_append_left _ (List.mem_of_getElem? (i := 56) rfl)
theorem kLl57 : Cond.selects RX10 yX10_sentIn yX10_sentIn ∈ kAL := List.mem_append_left _ (List.mem_of_getElem? (i := 57) rfl)
theorem kLl58 : Cond.methodLink RL 75 yX10_run ∈ kAL := List.mem_append_left _ (List.mem_of_getElem? (i := 58) rfl)
theorem kLl59 : Cond.instanceMethod yX10_run ∈ kAL := List.mem_append_left _ (List.mem_of_getElem? (i := 59) rfl)
theorem kLl60 : Cond.selects RX10 yX10_run yX10_run ∈ kAL := List.mem_append_left _ (List.mem_of_getElem? (i := 60) rfl)
theorem kLl61 : Cond.methodLink RL 78 yX10_blackout ∈ kAL := List.mem_append_left _ (List.mem_of_getElem? (i := 61) rfl)
theorem kLl62 : Cond.instanceMethod yX10_blackout ∈ kAL := List.mem_append_left _ (List.mem_of_getElem? (i := 62) rfl)
theorem kLl63 : Cond.selects RX10 yX10_blackout yX10_blackout ∈ kAL := List.mem_append_left _ (List.mem_of_getElem? (i := 63) rfl)
theorem kLl64 : Cond.methodLink RL 81 yX10_want ∈ kAL := List.mem_append_left _ (List.mem_of_getElem? (i := 64) rfl)
theorem kLl65 : Cond.instanceMethod yX10_want ∈ kAL := List.mem_append_left _ (List.mem_of_getElem? (i := 65) rfl)
theorem kLl66 : Cond.selects RX10 yX10_want yX10_want ∈ kAL := List.mem_append_left _ (List.mem_of_getElem? (i := 66) rfl)
theorem kLl67 : Cond.methodLink RL 85 yX10_setFuse ∈ kAL := List.mem_append_left _ (List.mem_of_getElem? (i := 67) rfl)
theorem kLl68 : Cond.instanceMethod yX10_setFuse ∈ kAL := List.mem_append_left _ (List.mem_of_getElem? (i := 68) rfl)
theorem kLl69 : Cond.selects RX10 yX10_setFuse yX10_setFuse ∈ kAL := List.mem_append_left _ (List.mem_of_getElem? (i := 69) rfl)
theorem kLl70 : Cond.methodLink RL 88 yX10_setPriority ∈ kAL := List.mem_append_left _ (List.mem_of_getElem? (i := 70) rfl)
theorem kLl71 : Cond.instanceMethod yX10_setPriority ∈ kAL := List.mem_append_left _ (List.mem_of_getElem? (i := 71) rfl)
theorem kLl72 : Cond.selects RX10 yX10_setPriority yX10_setPriority ∈ kAL := List.mem_append_left _ (List.mem_of_getElem? (i := 72) rfl)
theorem kLl73 : Cond.methodLink RL 91 yX10_undo ∈ kAL := List.mem_append_left _ (List.mem_of_getElem? (i := 73) rfl)
theorem kLl74 : Cond.instanceMethod yX10_undo ∈ kAL := List.mem_append_left _ (List.mem_of_getElem? (i := 74) rfl)
theorem kLl75 : Cond.selects RX10 yX10_undo yX10_undo ∈ kAL := List.mem_append_left _ (List.mem_of_getElem? (i := 75) rfl)
theorem kLl76 : Cond.methodLink RL 94 yX10_save ∈ kAL := List.mem_append_left _ (List.mem_of_getElem? (i := 76) rfl)
theorem kLl77 : Cond.instanceMethod yX10_save ∈ kAL := List.mem_append_left _ (List.mem_of_getElem? (i := 77) rfl)
theorem kLl78 : Cond.selects RX10 yX10_save yX10_save ∈ kAL := List.mem_append_left _ (List.mem_of_getElem? (i := 78) rfl)
theorem kLl79 : Cond.methodLink RL 98 yX10_restore ∈ kAL := List.mem_append_left _ (List.mem_of_getElem? (i := 79) rfl)
theorem kLl80 : Cond.instanceMethod yX10_restore ∈ kAL := List.mem_append_left _ (List.mem_of_getElem? (i := 80) rfl)
theorem kLl81 : Cond.selects RX10 yX10_restore yX10_restore ∈ kAL := List.mem_append_left _ (List.mem_of_getElem? (i := 81) rfl)
theorem kA {w : Cond} (h : w ∈ kAll) : w ∈ kAL := List.mem_append_right _ h
theorem kLw_good : kLw.all goodWord = true := by decide +kernel
theorem kAL_good : ∀ w ∈ kAL, goodWord w = true := fun w hw => (List.mem_append.mp hw).elim (fun h => List.all_eq_true.mp kLw_good w h) (kAll_good w)
theorem kgL_all (w : Cond) (hw : w ∈ kAL) : w ∈ kAL ∧ ((w.onTables && w.keeps) = true ∨ ∃ ty, w = .arrayClass ty) := ⟨hw, good_of_word (kAL_good w hw)⟩
theorem kgL_c {c : Cond} {ws : List Cond} (h : c ∈ kAL) (t : GoodIn kAL ws) : GoodIn kAL (c :: ws) := fun w hw => (List.mem_cons.mp hw).elim (fun e => e ▸ kgL_all c h) (t w)
theorem kgL_k : GoodIn kAL kAll := fun w hw => kgL_all w (kA hw)
theorem kgL_a : GoodIn kAL kAL := fun w hw => kgL_all w hw
theorem Ct.ofWH {l : Launch} {y : MethodName} {ws : List Cond} {rm : Room} {D : va_G} {T : Nat → ClassId} {av : List Value} {W1 W2 : va_W} {rv : Option Value} {cc : ByteArray} {maxL : Nat} {ret : Option FieldType} {hh : List (Nat × Nat × Nat × Nat)}
    (hy : plainName y.cls = true) (hw : ws = Cond.codeWith y cc maxL ret hh :: kAL) (hsl : (lg_sl av).length ≤ maxL)
    (body : ∀ (p : Program) (e : Env) (s : State) (m : MethodId) (args : Array Value) (below : List Frame) (meth : Method) (c : Code) (A : Nat → Prop) (ls : Array Slot), CallFix p m c cc maxL s args kAll y.cls → (∀ w ∈ kAL, w.before args s = true) → meth.sig.returnType = ret → meth.locks = false → c.exceptionTable.toList = tableOf hh → Rg D T A s W1 s.heap [] → lv_has ls maxL (lv_args 0 av) →
      W p l e rm s m args below meth c s.heap [] 0 0 (MQ below (kQ rv D W2 A) args s rm.cells rm.slots A) (F0 m 0 ls [])) : Ct l y ws rm D T av W1 rv W2 := by
  intro sz
  refine MetFree.of_bodyS (code := cc) (maxLocals := maxL) (ret := ret) hy ?_ ?_
  · intro args s m h hn
    obtain ⟨m9, meth, c, hn9, h1, h2, h3, h4, -, h5, h6, -⟩ := Cond.codeWith_spec (atoms_spec (ws := ws) h _ (by rw [hw]; exact List.mem_cons_self))
    cases hn.symm.trans hn9
    exact ⟨meth, c, h1, h2, h3, h4, h5, h6⟩
  · intro p e s m args below meth c s₁ B hml hP _
    have hh0 : s₁.heap = s.heap := by rw [B.state]; rfl
    obtain ⟨rfl, hsz, hP, hK, hN, hD0⟩ := hP
    have hts := atoms_spec (ws := ws) B.pre
    have hown : s.vm.findClass y.cls = some m.cls := findClass_of_methodNamed B.named
    subst hsz
    have hAL : ∀ w ∈ kAL, w.before av.toArray s = true := fun w h => hts w (by rw [hw]; exact List.mem_cons_of_mem _ h)
    have htab := vx_table (x := y) B (hts _ (by rw [hw]; exact List.mem_cons_self))
    have K := body p e s m _ below meth c (va_A W1 s.heap.size) _ ⟨B.exec, B.bytes, hml, hown, fun w h => hAL w (kA h)⟩ hAL B.returns B.notSynchronized htab ⟨hK, hP, hD0.self, va_S.rf, hN, fun q h => Or.inr h⟩ (lv_entry av hsl)
    rw [← lg_entry_eq] at K
    obtain ⟨t, a1, o, b1, b2, b3⟩ := K s₁ hh0 (Stand.of_body B)
    exact ⟨t, o, a1, b1, b2, ⟨b3.1, b3.2⟩⟩
def gOc (T : Nat → ClassId) (aF aR aD aP aH : Nat → Nat) (aW : Nat → Nat → Nat) (aO : Nat) (tx ps : Nat → Nat → Int32) (nm : Nat → Int64) (v : Nat → Nat → Int32) (vn : Nat → Int64) (hs : Nat → Nat → Int32) (ww : Nat → Nat → Nat → Int32) (out : Nat → Int64) : Nat → va_W := fun k => match k with
  | 0 => [(aO, .inl (T 1, 1, .inr (.inl out)))]
  | k + 1 => gFc T aF aR aD aP aH aW tx ps nm v vn hs ww k
abbrev gO (T : Nat → ClassId) (aF aR aD aP aH : Nat → Nat) (aW : Nat → Nat → Nat) (aO : Nat) (tx ps : Nat → Nat → Int32) (nm : Nat → Int64) (v : Nat → Nat → Int32) (vn : Nat → Int64) (hs : Nat → Nat → Int32) (ww : Nat → Nat → Nat → Int32) (out : Nat → Int64) : va_W := (List.range 20).flatMap (gOc T aF aR aD aP aH aW aO tx ps nm v vn hs ww out)
def gLc (T : Nat → ClassId) (aF aR aD aP aH : Nat → Nat) (aW : Nat → Nat → Nat) (aO : Nat) (aM : Nat → Nat) (tx ps : Nat → Nat → Int32) (nm : Nat → Int64) (v : Nat → Nat → Int32) (vn : Nat → Int64) (hs : Nat → Nat → Int32) (ww : Nat → Nat → Nat → Int32) (out : Nat → Int64) (z : Nat → Nat → Int32) : Nat → va_W := fun k => match k with
  | 0 => gM T aM z
  | k + 1 => gOc T aF aR aD aP aH aW aO tx ps nm v vn hs ww out k
abbrev gL (T : Nat → ClassId) (aF aR aD aP aH : Nat → Nat) (aW : Nat → Nat → Nat) (aO : Nat) (aM : Nat → Nat) (tx ps : Nat → Nat → Int32) (nm : Nat → Int64) (v : Nat → Nat → Int32) (vn : Nat → Int64) (hs : Nat → Nat → Int32) (ww : Nat → Nat → Nat → Int32) (out : Nat → Int64) (z : Nat → Nat → Int32) : va_W := (List.range 21).flatMap (gLc T aF aR aD aP aH aW aO aM tx ps nm v vn hs ww out z)
section KL
variable {p : Program} {l : Launch} {e : Env} {R : Room} {s : State} {m : MethodId} {args : Array Value} {below : List Frame} {meth : Method} {c : Code} {H : Heap} {locs : List Loc} {cells slots : Nat} {Q : State → Prop}
variable {D : va_G} {T : Nat → ClassId} {A : Nat → Prop} {W1 W2 Wc Wn : va_W} {cc : ByteArray} {nL : Nat} {own : String} {pc : Nat} {ls : Array Slot} {rest st0 : List Value} {rv : Option Value} {rm : Room} {y : MethodName} {ws : List Cond} {a n : Nat} {g g' : Nat → va_W}
variable {aF aR aD aP aH : Nat → Nat} {aW : Nat → Nat → Nat} {aO : Nat} {aM : Nat → Nat} {tx ps v hs tx2 ps2 v2 hs2 : Nat → Nat → Int32} {nm vn nm2 vn2 : Nat → Int64} {ww ww2 : Nat → Nat → Nat → Int32} {out out2 : Nat → Int64} {z z2 : Nat → Nat → Int32}
theorem kg_last (F : CallFix p m c cc nL s args kAll own) (G : Rg D T A s ((List.range n).flatMap g) H locs) (k0 j : Nat) (hk0 : k0 < n) {N : Nat} {f : Nat → Int64} (ha : (g k0)[j]? = some (a, .inl (T 1, N, .inr (.inl f)))) {i : Int32} {x : Int64} (hin : vp_in i N) (hdg : decode cc pc = .ok (.lastore, 1)) (hset : g' k0 = (g k0).set j (a, .inl (T 1, N, .inr (.inl (vp_updL f i.toNatClampNeg x))))) (hsame : ∀ k, k < n → k ≠ k0 → g' k = g k)
    (kk : ∀ (H1 : Heap) (locs1 : List Loc), Rg D T A s ((List.range n).flatMap g') H1 locs1 → W p l e R s m args below meth c H1 locs1 cells slots Q (F0 m (pc + 1) ls rest)) : W p l e R s m args below meth c H locs cells slots Q (F0 m pc ls (.long x :: .int i :: .ref a :: rest)) := by
  obtain ⟨q0, hq0⟩ := fm_idx hk0 ha
  exact va_last F.1 F.2.1 G.1 G.2.1 G.2.2.1 G.2.2.2.1 q0 1 hq0 rfl hin hdg (fun H1 locs1 hP hD hS => kk H1 locs1 (fm_put G hk0 ha hq0 hset hsame hP hD hS))
theorem kg_lald (F : CallFix p m c cc nL s args kAll own) (G : Rg D T A s ((List.range n).flatMap g) H locs) (k0 j : Nat) (hk0 : k0 < n) {N : Nat} {f : Nat → Int64} (ha : (g k0)[j]? = some (a, .inl (T 1, N, .inr (.inl f)))) {i : Int32} (hin : vp_in i N) (hdg : decode cc pc = .ok (.laload, 1))
    (kk : W p l e R s m args below meth c H locs cells slots Q (F0 m (pc + 1) ls (.long (f i.toNatClampNeg) :: rest))) : W p l e R s m args below meth c H locs cells slots Q (F0 m pc ls (.int i :: .ref a :: rest)) := by
  obtain ⟨q0, hq0⟩ := fm_idx hk0 ha
  exact k_lald F G q0 hq0 hin hdg kk
theorem gO_addr : ∀ k, k < 20 → (gOc T aF aR aD aP aH aW aO tx2 ps2 nm2 v2 vn2 hs2 ww2 out2 k).map Prod.fst = (gOc T aF aR aD aP aH aW aO tx ps nm v vn hs ww out k).map Prod.fst
  | 0, _ => rfl
  | k + 1, h => gF_addr k (by omega)
theorem gL_addr : ∀ k, k < 21 → (gLc T aF aR aD aP aH aW aO aM tx2 ps2 nm2 v2 vn2 hs2 ww2 out2 z2 k).map Prod.fst = (gLc T aF aR aD aP aH aW aO aM tx ps nm v vn hs ww out z k).map Prod.fst
  | 0, _ => rfl
  | k + 1, h => gO_addr k (by omega)
theorem kCut_O (G : Rg D T A s (gO T aF aR aD aP aH aW aO tx ps nm v vn hs ww out) H locs) : kCut D A (gO T aF aR aD aP aH aW aO tx ps nm v vn hs ww out) (gU T aF aR aD aP aH aW tx ps nm v vn hs ww) (gU T aF aR aD aP aH aW tx2 ps2 nm2 v2 vn2 hs2 ww2) (gO T aF aR aD aP aH aW aO tx2 ps2 nm2 v2 vn2 hs2 ww2 out) H :=
  kCut_g (g' := gOc T aF aR aD aP aH aW aO tx2 ps2 nm2 v2 vn2 hs2 ww2 out) [1, 2, 3, 4, 5, 6, 7, 8, 9, 10, 11, 12, 13, 14, 15, 16, 17, 18, 19] G (by decide) (by decide) (fun k hk h => match k, hk, h with
    | 0, _, _ => rfl
    | k + 1, hk, h => absurd (by simp only [List.mem_cons, List.not_mem_nil, or_false]; omega) h) gO_addr
theorem kCut_LO (G : Rg D T A s (gL T aF aR aD aP aH aW aO aM tx ps nm v vn hs ww out z) H locs) : kCut D A (gL T aF aR aD aP aH aW aO aM tx ps nm v vn hs ww out z) (gO T aF aR aD aP aH aW aO tx ps nm v vn hs ww out) (gO T aF aR aD aP aH aW aO tx2 ps2 nm2 v2 vn2 hs2 ww2 out2) (gL T aF aR aD aP aH aW aO aM tx2 ps2 nm2 v2 vn2 hs2 ww2 out2 z) H :=
  kCut_g (g' := gLc T aF aR aD aP aH aW aO aM tx2 ps2 nm2 v2 vn2 hs2 ww2 out2 z) [1, 2, 3, 4, 5, 6, 7, 8, 9, 10, 11, 12, 13, 14, 15, 16, 17, 18, 19, 20] G (by decide) (by decide) (fun k hk h => match k, hk, h with
    | 0, _, _ => rfl
    | k + 1, hk, h => absurd (by simp only [List.mem_cons, List.not_mem_nil, or_false]; omega) h) gL_addr
theorem kCut_LU (G : Rg D T A s (gL T aF aR aD aP aH aW aO aM tx ps nm v vn hs ww out z) H locs) : kCut D A (gL T aF aR aD aP aH aW aO aM tx ps nm v vn hs ww out z) (gU T aF aR aD aP aH aW tx ps nm v vn hs ww) (gU T aF aR aD aP aH aW tx2 ps2 nm2 v2 vn2 hs2 ww2) (gL T aF aR aD aP aH aW aO aM tx2 ps2 nm2 v2 vn2 hs2 ww2 out z) H :=
  kCut_g (g' := gLc T aF aR aD aP aH aW aO aM tx2 ps2 nm2 v2 vn2 hs2 ww2 out z) [2, 3, 4, 5, 6, 7, 8, 9, 10, 11, 12, 13, 14, 15, 16, 17, 18, 19, 20] G (by decide) (by decide) (fun k hk h => match k, hk, h with
    | 0, _, _ => rfl
    | 1, _, _ => rfl
    | k + 2, hk, h => absurd (by simp only [List.mem_cons, List.not_mem_nil, or_false]; omega) h) gL_addr
theorem kCut_LM (G : Rg D T A s (gL T aF aR aD aP aH aW aO aM tx ps nm v vn hs ww out z) H locs) : kCut D A (gL T aF aR aD aP aH aW aO aM tx ps nm v vn hs ww out z) (gM T aM z) (gM T aM z2) (gL T aF aR aD aP aH aW aO aM tx ps nm v vn hs ww out z2) H :=
  kCut_g (g' := gLc T aF aR aD aP aH aW aO aM tx ps nm v vn hs ww out z2) [0] G (by decide) (by decide) (fun k hk h => match k, hk, h with
    | 0, _, h => absurd (by simp) h
    | k + 1, _, _ => rfl) gL_addr
theorem kl_callSW {index n maxL : Nat} {bytes : ByteArray} {ret : Option FieldType} {hh : List (Nat × Nat × Nat × Nat)} {As : List Value} (F : CallFix p m c cc nL s args kAll own) (G : Rg D T A s W1 H locs) (hM : Ct l y ws rm D T As Wc rv W2) (cw : vx_CSW R s args own index y bytes maxL ret hh ws rm rm.cells rm.slots n) (hcut : kCut D A W1 Wc W2 Wn H)
    (hn : As.length = n) (hl : ls.size = nL) (hst : st0 = As.reverse ++ rest) (hrm : (rest.map fun v => v.category).sum ≤ 8) (hdg : decode cc pc = .ok (.invokestatic index, 3)) (hf : cells + rm.cells ≤ R.cells ∧ slots + rm.slots ≤ R.slots) {cN sN : Nat} (hz0 : cells + rm.cells = cN ∧ slots + rm.slots = sN)
    (kk : ∀ (H1 : Heap) (locs1 : List Loc), Rg D T A s Wn H1 locs1 → W p l e R s m args below meth c H1 locs1 cN sN Q (F0 m (pc + 3) ls (rv.toList ++ rest))) : W p l e R s m args below meth c H locs cells slots Q (F0 m pc ls st0) :=
  k_back (vx_runSW (As := As) (rest := rest) (g := F0 m pc ls st0) F (hM H.size) cw ⟨k_fixb _ _ _, k_pre G hcut _⟩ rfl hn hl hst (lv_room hrm) hdg hf) G hcut hz0 kk
end KL
