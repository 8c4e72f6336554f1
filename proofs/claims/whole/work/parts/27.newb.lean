-- constructors: what they lay is new
def kPn (D : va_G) (T : Nat → ClassId) (av : List Value) (W1 : va_W) (sz : Nat) : Array Value → State → Prop := fun a U => kPc D T av W1 sz a U ∧ va_AO "BlackoutStart$World" U
def kQn (D : va_G) (mk : (Nat → Nat → Nat) → va_W) (A : Nat → Prop) : Array Value → State → Outcome → State → Prop := fun _ st oc t => (oc = .returned none ∧ ∃ nw : Nat → Nat → Nat, va_P D vwCl (mk nw) t.heap ∧ va_D A (mk nw)) ∧ va_F A st t
/-- a constructor's contract: from the cells W1, called with av; then the cells are mk of new addresses -/
def Cn (l : Launch) (y : MethodName) (ws : List Cond) (rm : Room) (D : va_G) (T : Nat → ClassId) (av : List Value) (W1 : va_W) (mk : (Nat → Nat → Nat) → va_W) : Prop :=
  ∀ sz : Nat, Met l y ws rm (kPn D T av W1 sz) (kQn D mk (va_A W1 sz)) rm.cells rm.slots (va_A W1 sz)
theorem Cn.of {l : Launch} {y : MethodName} {ws : List Cond} {rm : Room} {D : va_G} {T : Nat → ClassId} {av : List Value} {W1 : va_W} {mk : (Nat → Nat → Nat) → va_W} {cc : ByteArray} {maxL : Nat}
    (hy : plainName y.cls = true) (hw : ws = Cond.code y cc maxL none :: kAll) (hyi : y.name = "<init>") (hsl : (lg_sl av).length ≤ maxL)
    (body : ∀ (p : Program) (e : Env) (s : State) (m : MethodId) (args : Array Value) (below : List Frame) (meth : Method) (c : Code) (A : Nat → Prop) (ls : Array Slot), CallFix p m c cc maxL s args kAll y.cls → meth.sig.returnType = none → meth.locks = false → meth.name = "<init>" → va_AO "BlackoutStart$World" s → Rg D T A s W1 s.heap [] → lv_has ls maxL (lv_args 0 av) →
      W p l e rm s m args below meth c s.heap [] 0 0 (MQ below (kQn D mk A) args s rm.cells rm.slots A) (F0 m 0 ls [])) : Cn l y ws rm D T av W1 mk := by
  intro sz
  refine Met.ofW (cc := cc) (maxL := maxL) (ret := none) hy hw ?_
  intro p e s m args below meth c s₁ B hml hv
  obtain ⟨⟨rfl, hsz, hP, hK, hN, hD0⟩, hao⟩ := hv
  have hts := atoms_spec (ws := ws) B.pre
  have hown : s.vm.findClass y.cls = some m.cls := findClass_of_methodNamed B.named
  subst hsz
  rw [lg_entry_eq]
  exact body p e s m _ below meth c (va_A W1 s.heap.size) _ ⟨B.exec, B.bytes, hml, hown, fun w h => hts w (by rw [hw]; exact List.mem_cons_of_mem _ h)⟩ B.returns B.notSynchronized ((name_of_methodNamed B.named B.method).1.trans hyi) hao ⟨hK, hP, hD0.self, va_S.rf, hN, fun q h => Or.inr h⟩ (lv_entry av hsl)
section KNW
variable {p : Program} {l : Launch} {e : Env} {R : Room} {s : State} {m : MethodId} {args : Array Value} {below : List Frame} {meth : Method} {c : Code} {H : Heap} {locs : List Loc} {cells slots : Nat} {Q : State → Prop}
variable {D : va_G} {T : Nat → ClassId} {A : Nat → Prop} {W0 W1 W2 Wn : va_W} {cc : ByteArray} {nL : Nat} {own : String} {pc : Nat} {ls : Array Slot} {rest st0 : List Value} {rm : Room} {y : MethodName} {ws : List Cond} {mk : (Nat → Nat → Nat) → va_W} {mc ms : Nat} {a : Nat}
theorem kn_fixb (av : List Value) (W1 : va_W) (sz : Nat) : FrameBlind (kPn D T av W1 sz) := by
  intro a U g mk q
  exact ⟨k_fixb av W1 sz a U g mk q.1, va_AO.moved (u := U) (U := U.calling g mk a) (Vm.Alike.refl U.vm) q.2⟩
theorem Rg.eq (G : Rg D T A s W1 H locs) (h : W1 = W2) : Rg D T A s W2 H locs := h ▸ G
theorem Rg.perm (G : Rg D T A s W1 H locs) (h : W1.Perm W2) : Rg D T A s W2 H locs := by
  refine ⟨G.1, fun k q hq => ?_, ?_, G.2.2.2⟩
  · obtain ⟨i, hi⟩ := List.getElem?_of_mem (h.mem_iff.mpr (List.mem_of_getElem? hq))
    exact G.2.1 i q hi
  · have h1 := va_D_iff.mp G.2.2.1
    exact va_D_iff.mpr ⟨(h.map Prod.fst).nodup_iff.mp h1.1, fun q hq => h1.2 q (h.mem_iff.mpr hq)⟩
theorem kn_new (F : CallFix p m c cc nL s args kAll own) (G : Rg D T A s W1 H locs) {ci : Nat} {C : String} {Tt : u_T} {N : Nat} (hc : vwCl[ci]? = some (C, Tt, N)) (hin : ∀ w ∈ u_ws C Tt N, w ∈ kAll) {ty0 : Nat → FieldType} (hty : ∀ k, k < N → parseFieldDescriptor (Tt k).2.2.1 = some (ty0 k)) {index : Nat} (hcl : Cond.classLink own index C ∈ kAll) (hinst : Cond.instantiable C N ∈ kAll) (hini : Cond.initialized C ∈ kAll)
    {fs : List Value} (hfs : ∀ j, j < N → defaultValue (ty0 j) = vp_V fs j) (hcells : cells + 1 ≤ R.cells) (hslots : slots + N ≤ R.slots) (hdg : decode cc pc = .ok (.new index, 3)) {cN sN : Nat} (hz0 : cells + 1 = cN ∧ slots + N = sN)
    (kk : ∀ (q : Nat) (H1 : Heap), Rg D T A s (W1 ++ [(q, .inr (ci, fs))]) H1 locs → W p l e R s m args below meth c H1 locs cN sN Q (F0 m (pc + 3) ls (.ref q :: rest))) : W p l e R s m args below meth c H locs cells slots Q (F0 m pc ls rest) := by
  obtain ⟨rfl, rfl⟩ := hz0
  exact va_new F.1 F.2.1 F.2.2.2.2 hin ty0 hty F.2.2.2.1 (F.2.2.2.2 _ hcl) (F.2.2.2.2 _ hinst) (F.2.2.2.2 _ hini) G.1 G.2.1 G.2.2.1 G.2.2.2.1 G.2.2.2.2.2 hc hfs hcells hslots hdg (fun q H1 hP hD hS => kk q H1 ⟨G.1, hP, hD, hS, G.2.2.2.2⟩)
theorem kn_newa (F : CallFix p m c cc nL s args kAll own) (G : Rg D T A s W1 H locs) (i0 : Nat) {cA0 : ClassId} {ty : FieldType} (hi : (kT T)[i0]? = some (cA0, ty)) (hpr : ∀ (U : State) (cA : ClassId), va_RA U cA ty → U.vm.findClass ("[" ++ ty.toString) = some cA) {atype : ArrayType} (harr : Cond.arrayClass (newarray.typeOf atype) ∈ kAll) (hty : newarray.typeOf atype = ty)
    {n : Int32} {N' : Nat} {a0 : vp_A} (ha : ∀ cA : ClassId, vp_cell cA a0 = arrV cA N' (fun _ => defaultValue ty)) (hn : ¬ n < 0) (hN : n.toNatClampNeg = N') (hbytes : N' * componentBytes ty ≤ 536870912) (hcells : cells + 1 ≤ R.cells) (hslots : slots + N' ≤ R.slots) (hdg : decode cc pc = .ok (.newarray atype, 2)) {cN sN : Nat} (hz0 : cells + 1 = cN ∧ slots + N' = sN)
    (kk : ∀ (q : Nat) (H1 : Heap), Rg D T A s (W1 ++ [(q, .inl (cA0, a0))]) H1 locs → W p l e R s m args below meth c H1 locs cN sN Q (F0 m (pc + 2) ls (.ref q :: rest))) : W p l e R s m args below meth c H locs cells slots Q (F0 m pc ls (.int n :: rest)) := by
  obtain ⟨rfl, rfl⟩ := hz0
  refine va_newa F.1 F.2.1 (F.2.2.2.2 _ harr) hty G.1 G.2.1 G.2.2.1 G.2.2.2.1 G.2.2.2.2.2 ha hn hN hbytes hcells hslots hdg (fun q cA H1 hK hP hD hS => ?_)
  have e1 := hpr s cA0 (G.1.2 i0 _ hi).2
  have e2 := hpr s cA (hK.2 5 (cA, ty) rfl).2
  have e : cA0 = cA := Option.some.inj (e1.symm.trans e2)
  subst e
  exact kk q H1 ⟨G.1, hP, hD, hS, G.2.2.2.2⟩
theorem ra_int : ∀ (U : State) (cA : ClassId), va_RA U cA .int → U.vm.findClass ("[" ++ FieldType.int.toString) = some cA := fun _ _ h => h
theorem ra_long : ∀ (U : State) (cA : ClassId), va_RA U cA .long → U.vm.findClass ("[" ++ FieldType.long.toString) = some cA := fun _ _ h => h
theorem ra_byte : ∀ (U : State) (cA : ClassId), va_RA U cA .byte → U.vm.findClass ("[" ++ FieldType.byte.toString) = some cA := fun _ _ h => h
theorem ra_bool : ∀ (U : State) (cA : ClassId), va_RA U cA .boolean → U.vm.findClass ("[" ++ FieldType.boolean.toString) = some cA := fun _ _ h => h
theorem ra_obj {C : String} : ∀ (U : State) (cA : ClassId), va_RA U cA (.object C) → U.vm.findClass ("[" ++ (FieldType.object C).toString) = some cA := fun _ _ h => by obtain ⟨_, _, _, _, _, h⟩ := h; exact h
theorem kn_newq (F : CallFix p m c cc nL s args kAll own) (G : Rg D T A s W1 H locs) {C : String} (i0 : Nat) {cA0 : ClassId} (hi : (kT T)[i0]? = some (cA0, .object C)) {index : Nat} (hcl : Cond.classLink own index C ∈ kAll) (hao : va_AO C s)
    {n : Int32} {N' : Nat} (hn : ¬ n < 0) (hN : n.toNatClampNeg = N') (hbytes : N' * 4 ≤ 536870912) (hcells : cells + 1 ≤ R.cells) (hslots : slots + N' ≤ R.slots) (hdg : decode cc pc = .ok (.anewarray index, 3)) {cN sN : Nat} (hz0 : cells + 1 = cN ∧ slots + N' = sN)
    (kk : ∀ (q : Nat) (H1 : Heap), Rg D T A s (W1 ++ [(q, .inl (cA0, N', .inr (.inr (.inr (.inr (fun _ => none))))))]) H1 locs → W p l e R s m args below meth c H1 locs cN sN Q (F0 m (pc + 3) ls (.ref q :: rest))) : W p l e R s m args below meth c H locs cells slots Q (F0 m pc ls (.int n :: rest)) := by
  obtain ⟨rfl, rfl⟩ := hz0
  refine va_newq F.1 F.2.1 F.2.2.2.1 (F.2.2.2.2 _ hcl) hao G.1 G.2.1 G.2.2.1 G.2.2.2.1 G.2.2.2.2.2 hn hN hbytes hcells hslots hdg (fun q cA H1 hK hP hD hS => ?_)
  have e1 := ra_obj s cA0 (G.1.2 i0 _ hi).2
  have e2 := ra_obj s cA (hK.2 5 (cA, .object C) rfl).2
  have e : cA0 = cA := Option.some.inj (e1.symm.trans e2)
  subst e
  exact kk q H1 ⟨G.1, hP, hD, hS, G.2.2.2.2⟩
theorem kn_putF (F : CallFix p m c cc nL s args kAll own) (hin2 : meth.name = "<init>") (G : Rg D T A s W1 H locs) (q0 : Nat) {ci : Nat} {fs : List Value} (he : W1[q0]? = some (a, .inr (ci, fs))) {C : String} {Tt : u_T} {N : Nat} (hc : vwCl[ci]? = some (C, Tt, N)) (hin : ∀ w ∈ u_ws C Tt N, w ∈ kAll) {ty0 : Nat → FieldType} (hty : ∀ k, k < N → parseFieldDescriptor (Tt k).2.2.1 = some (ty0 k)) (hnm : ∀ a, a < N → ∀ b, b < N → a ≠ b → (Tt a).2.1 ≠ (Tt b).2.1)
    (k : Nat) (hk : k < N) {index : Nat} (hlink : Cond.fieldLink own index (Tt k).1 (Tt k).2.1 (Tt k).2.2.1 ∈ kAll) (hfin : (Tt k).2.2.2 = true) (hdecl : (Tt k).1 = own) {v : Value} (hn : narrow (ty0 k) v = v) (hfit : fits (ty0 k) v = true) (hl : k < fs.length) (hdg : decode cc pc = .ok (.putfield index, 3)) (hWn : W1.set q0 (a, .inr (ci, fs.set k v)) = Wn)
    (kk : ∀ (H1 : Heap) (locs1 : List Loc), Rg D T A s Wn H1 locs1 → W p l e R s m args below meth c H1 locs1 cells slots Q (F0 m (pc + 3) ls rest)) : W p l e R s m args below meth c H locs cells slots Q (F0 m pc ls (v :: .ref a :: rest)) := by
  subst hWn
  exact va_putF F.1 F.2.1 F.2.2.2.2 hin ty0 hty hnm F.2.2.2.1 G.1 G.2.1 G.2.2.1 G.2.2.2.1 q0 he hc k hk (F.2.2.2.2 _ hlink) (fun _ h => h) hfin hin2 hdecl (hty k hk) hn hfit hl hdg (fun H1 locs1 hP hD hS => kk H1 locs1 ⟨G.1, hP, hD, hS, G.2.2.2.2⟩)
theorem kn_astq (F : CallFix p m c cc nL s args kAll own) (G : Rg D T A s W1 H locs) (q0 t0 qk : Nat) {cA : ClassId} {ci : Nat} {r : vw_C} {n v : Nat} {vs : List Value} {f : Nat → Option Nat} (ha : W1[q0]? = some (a, .inl (cA, n, .inr (.inr (.inr (.inr f)))))) (ht : (kT T)[t0]? = some (cA, .object r.1)) (hv : W1[qk]? = some (v, .inr (ci, vs))) (hc : vwCl[ci]? = some r) {i : Int32} (hin : vp_in i n) (j : Nat) (hj : i.toNatClampNeg = j) (hdg : decode cc pc = .ok (.aastore, 1)) (hWn : W1.set q0 (a, .inl (cA, n, .inr (.inr (.inr (.inr (va_up f j (some v))))))) = Wn)
    (kk : ∀ (H1 : Heap) (locs1 : List Loc), Rg D T A s Wn H1 locs1 → W p l e R s m args below meth c H1 locs1 cells slots Q (F0 m (pc + 1) ls rest)) : W p l e R s m args below meth c H locs cells slots Q (F0 m pc ls (.ref v :: .int i :: .ref a :: rest)) := by
  subst hWn
  subst hj
  exact va_astq F.1 F.2.1 G.1 G.2.1 G.2.2.1 G.2.2.2.1 q0 t0 qk ci ha ht hv hc hin hdg (fun H1 locs1 hP hD hS => kk H1 locs1 ⟨G.1, hP, hD, hS, G.2.2.2.2⟩)
theorem kn_obj (F : CallFix p m c cc nL s args kAll own) (hls : ls.size = nL) {index : Nat} (h1 : Cond.methodLink own index objectInit ∈ kAll) (h2 : Cond.instanceMethod objectInit ∈ kAll) (h3 : Cond.code objectInit ⟨#[0xb1]⟩ 1 none ∈ kAll) (hdg : decode cc pc = .ok (.invokespecial index, 3)) (hframes : 1 ≤ R.frames) (hlocals : (rest.map fun v => v.category).sum + 12 ≤ R.locals)
    (kk : W p l e R s m args below meth c H locs cells slots Q (F0 m (pc + 3) ls rest)) : W p l e R s m args below meth c H locs cells slots Q (F0 m pc ls (.ref a :: rest)) :=
  W.objInit F.1 F.2.1 F.2.2.2.1 (F.2.2.2.2 _ h1) (F.2.2.2.2 _ h2) (F.2.2.2.2 _ h3) (g := F0 m pc ls (.ref a :: rest)) rfl (hls.trans F.2.2.1.symm) rfl hdg hframes (by show 2 * 0 + _ + 12 ≤ _; omega) kk
/-- behind a constructor: its new cells stand in place of the one that it was called with -/
theorem kn_back {x : Nat × va_E} {ar : Array Value} (hr : va_Run p l e R s m args below meth c H locs cells slots mc ms (F0 m pc ls st0) rest (kQn D mk (va_A [x] H.size) ar) (va_A [x] H.size)) (G : Rg D T A s (W0 ++ [x]) H locs) {cN sN : Nat} (hz0 : cells + mc = cN ∧ slots + ms = sN)
    (kk : ∀ (nw : Nat → Nat → Nat) (H1 : Heap) (locs1 : List Loc), Rg D T A s (W0 ++ mk nw) H1 locs1 → W p l e R s m args below meth c H1 locs1 cN sN Q (F0 m (pc + 3) ls rest)) : W p l e R s m args below meth c H locs cells slots Q (F0 m pc ls st0) := by
  obtain ⟨rfl, rfl⟩ := hz0
  have hx : (W0 ++ [x])[W0.length]? = some x := by simp
  have hF := kA_of G (Wc := [x]) (fun k q h => by
    cases k with
    | zero => exact ⟨W0.length, hx.trans h⟩
    | succ k => simp at h)
  obtain ⟨hK, hP, hD, hS, hN, hA⟩ := G
  intro T0 hT X
  obtain ⟨v, st₀, t, T', L, h0, X', hL, e1, e2, ⟨⟨hv, nw, hP1, hD1⟩, hz, hk⟩, st⟩ := hr T0 hT X
  cases hv
  rw [h0] at hz hk
  rw [← e1] at hP1 hz hk
  have hlt : ∀ q ∈ W0, q.1 < H.size ∧ ¬ va_A [x] H.size q.1 := by
    intro q hq
    obtain ⟨i, hi⟩ := List.getElem?_of_mem hq
    have hil := (List.getElem?_eq_some_iff.mp hi).1
    have hi' : (W0 ++ [x])[i]? = some q := by rw [List.getElem?_append_left hil]; exact hi
    refine ⟨(hP i q hi').lt, fun h => ?_⟩
    rcases h with ⟨k, e, h⟩ | h
    · cases k with
      | zero =>
        have hxe : x = (q.1, e) := Option.some.inj h
        have := hD.1 i W0.length q x hi' hx (by rw [hxe])
        omega
      | succ k => simp at h
    · exact absurd (hP i q hi').lt (Nat.not_lt.mpr h)
  have hPn : va_P D vwCl (W0 ++ mk nw) T'.heap := by
    intro k q hq
    rcases List.mem_append.mp (List.mem_of_getElem? hq) with h | h
    · obtain ⟨i, hi⟩ := List.getElem?_of_mem h
      have hil := (List.getElem?_eq_some_iff.mp hi).1
      exact (hP i q (by rw [List.getElem?_append_left hil]; exact hi)).kept (hk _ (hlt q h).1 (hlt q h).2)
    · obtain ⟨i, hi⟩ := List.getElem?_of_mem h
      exact hP1 i q hi
  have hDn : va_D A (W0 ++ mk nw) := by
    have d0 := va_D_iff.mp hD
    have d1 := va_D_iff.mp hD1
    refine va_D_iff.mpr ⟨?_, fun q hq => ?_⟩
    · rw [List.map_append, List.nodup_append]
      refine ⟨(List.nodup_append.mp (by rw [← List.map_append]; exact d0.1)).1, d1.1, fun b hb b' hb' h => ?_⟩
      obtain ⟨q, hq, rfl⟩ := List.mem_map.mp hb
      obtain ⟨q', hq', rfl⟩ := List.mem_map.mp hb'
      exact (hlt q hq).2 (h ▸ d1.2 q' hq')
    · rcases List.mem_append.mp hq with h | h
      · exact d0.2 q (List.mem_append_left _ h)
      · exact hF _ (d1.2 q h)
  obtain ⟨t2, a1, b1⟩ := kk nw T'.heap (locs ++ L) ⟨hK, hPn, hDn, ⟨Nat.le_trans hS.1 hz, fun q h1 h2 => by rw [hk q (Nat.lt_of_lt_of_le h1 hS.1) (fun z => h2 (hF q z))]; exact hS.2.1 q h1 h2, fun q hq => by
      rcases List.mem_append.mp hq with h | h
      · exact hS.2.2 q h
      · exact hF _ (hL q h)⟩, hN, hA⟩ T' rfl X'
  exact ⟨t2, st t2 a1, b1⟩
theorem kn_pre {x : Nat × va_E} (G : Rg D T A s (W0 ++ [x]) H locs) (hao : va_AO "BlackoutStart$World" s) (av : List Value) : ∀ U : State, U.heap = H → s.WarmedH U.vm → kPn D T av [x] H.size av.toArray U := by
  have hx : (W0 ++ [x])[W0.length]? = some x := by simp
  have hc : kCut D A (W0 ++ [x]) [x] [x] (W0 ++ [x]) H := kCut_R G [W0.length] rfl (by simp)
  intro U hU hW
  exact ⟨k_pre G hc av U hU hW, va_AO.moved hW.alike hao⟩
theorem kn_callI {x : Nat × va_E} {b index n maxL : Nat} {bytes : ByteArray} {As : List Value} (F : CallFix p m c cc nL s args kAll own) (G : Rg D T A s (W0 ++ [x]) H locs) (hao : va_AO "BlackoutStart$World" s) (hM : Cn l y ws rm D T (.ref b :: As) [x] mk) (cw : CallB R s args own index y bytes maxL none ws rm rm.cells rm.slots n ∧ y.name = "<init>" ∧ (Cond.instanceMethod y).before args s = true)
    (hn : As.length = n) (hl : ls.size = nL) (hst : st0 = As.reverse ++ .ref b :: rest) (hrm : (rest.map fun v => v.category).sum ≤ 8) (hdg : decode cc pc = .ok (.invokespecial index, 3)) (hf : cells + rm.cells ≤ R.cells ∧ slots + rm.slots ≤ R.slots) {cN sN : Nat} (hz0 : cells + rm.cells = cN ∧ slots + rm.slots = sN)
    (kk : ∀ (nw : Nat → Nat → Nat) (H1 : Heap) (locs1 : List Loc), Rg D T A s (W0 ++ mk nw) H1 locs1 → W p l e R s m args below meth c H1 locs1 cN sN Q (F0 m (pc + 3) ls rest)) : W p l e R s m args below meth c H locs cells slots Q (F0 m pc ls st0) :=
  kn_back (va_runI (As := As) (rest := rest) (g := F0 m pc ls st0) F (hM H.size) cw ⟨kn_fixb _ _ _, kn_pre G hao _⟩ rfl hn hl hst (lv_room hrm) hdg hf) G hz0 kk
theorem kn_callIN {host : String} {x : Nat × va_E} {b index n maxL : Nat} {bytes : ByteArray} {As : List Value} (F : CallFix p m c cc nL s args kAll own) (G : Rg D T A s (W0 ++ [x]) H locs) (hao : va_AO "BlackoutStart$World" s) (hM : Cn l y ws rm D T (.ref b :: As) [x] mk) (cw : va_CN R s args own index y host bytes maxL none ws rm rm.cells rm.slots n ∧ y.name = "<init>" ∧ (Cond.instanceMethod y).before args s = true)
    (hn : As.length = n) (hl : ls.size = nL) (hst : st0 = As.reverse ++ .ref b :: rest) (hrm : (rest.map fun v => v.category).sum ≤ 8) (hdg : decode cc pc = .ok (.invokespecial index, 3)) (hf : cells + rm.cells ≤ R.cells ∧ slots + rm.slots ≤ R.slots) {cN sN : Nat} (hz0 : cells + rm.cells = cN ∧ slots + rm.slots = sN)
    (kk : ∀ (nw : Nat → Nat → Nat) (H1 : Heap) (locs1 : List Loc), Rg D T A s (W0 ++ mk nw) H1 locs1 → W p l e R s m args below meth c H1 locs1 cN sN Q (F0 m (pc + 3) ls rest)) : W p l e R s m args below meth c H locs cells slots Q (F0 m pc ls st0) :=
  kn_back (va_runIN (As := As) (rest := rest) (g := F0 m pc ls st0) F (hM H.size) cw ⟨kn_fixb _ _ _, kn_pre G hao _⟩ rfl hn hl hst (lv_room hrm) hdg hf) G hz0 kk
theorem kn_vret (F : CallFix p m c cc nL s args kAll own) (hr : meth.sig.returnType = none) (hlk : meth.locks = false) (nw : Nat → Nat → Nat) (G : Rg D T A s (mk nw) H locs) (hdg : decode cc pc = .ok (.return_, 1)) : W p l e R s m args below meth c H locs cells slots (MQ below (kQn D mk A) args s cells slots A) (F0 m pc ls []) :=
  W.vret F.1 F.2.1 hr (fun t ht _ => ⟨⟨rfl, nw, by rw [ht]; exact G.2.1, G.2.2.1⟩, G.2.2.2.1.F ht⟩) G.2.2.2.1.2.2 hdg hlk
end KNW
def knw (L : List Nat) : Nat → Nat := fun k => L.getD k 0
def kcn (a : Nat) (nw : Nat → Nat) : Nat → Nat := fun k => match k with
  | 0 => a
  | k + 1 => nw k
/-- the world behind a constructor -/
def kzw : Nat → Nat → Int32 := fun _ _ => 0
theorem arrV_ext {cA : ClassId} {n : Nat} {f g : Nat → Value} (h : ∀ j, j < n → f j = g j) : arrV cA n f = arrV cA n g := by
  unfold arrV
  congr 2
  funext j
  exact h j.val j.isLt
theorem Rg.arrq {D : va_G} {T : Nat → ClassId} {A : Nat → Prop} {s : State} {H : Heap} {locs : List Loc} {L L' : va_W} {a n : Nat} {cA : ClassId} {f g : Nat → Option Nat} (h : ∀ j, j < n → f j = g j) (G : Rg D T A s (L ++ (a, .inl (cA, n, .inr (.inr (.inr (.inr f))))) :: L') H locs) : Rg D T A s (L ++ (a, .inl (cA, n, .inr (.inr (.inr (.inr g))))) :: L') H locs := by
  have key : ∀ q, va_at D vwCl (q, .inl (cA, n, .inr (.inr (.inr (.inr f))))) H → va_at D vwCl (q, .inl (cA, n, .inr (.inr (.inr (.inr g))))) H := by
    intro q hq
    have e : vp_cell cA (n, .inr (.inr (.inr (.inr f)))) = vp_cell cA (n, .inr (.inr (.inr (.inr g)))) := by
      rw [vp_cell_q, vp_cell_q]
      exact arrV_ext (fun j hj => by rw [h j hj])
    exact (show H[q]? = some _ from hq).trans (congrArg some e)
  refine ⟨G.1, fun k q hq => ?_, ?_, G.2.2.2⟩
  · rcases List.mem_append.mp (List.mem_of_getElem? hq) with h1 | h1
    · obtain ⟨i, hi⟩ := List.getElem?_of_mem (List.mem_append_left ((a, .inl (cA, n, .inr (.inr (.inr (.inr f))))) :: L') h1)
      exact G.2.1 i q hi
    · rcases List.mem_cons.mp h1 with rfl | h1
      · obtain ⟨i, hi⟩ := List.getElem?_of_mem (show (a, Sum.inl (cA, n, .inr (.inr (.inr (.inr f))))) ∈ L ++ (a, .inl (cA, n, .inr (.inr (.inr (.inr f))))) :: L' from List.mem_append_right _ List.mem_cons_self)
        exact key a (G.2.1 i _ hi)
      · obtain ⟨i, hi⟩ := List.getElem?_of_mem (List.mem_append_right L (List.mem_cons_of_mem (a, .inl (cA, n, .inr (.inr (.inr (.inr f))))) h1))
        exact G.2.1 i q hi
  · have h1 := va_D_iff.mp G.2.2.1
    refine va_D_iff.mpr ⟨by simpa using h1.1, fun q hq => ?_⟩
    rcases List.mem_append.mp hq with h2 | h2
    · exact h1.2 q (List.mem_append_left _ h2)
    · rcases List.mem_cons.mp h2 with rfl | h2
      · exact h1.2 (a, .inl (cA, n, .inr (.inr (.inr (.inr f))))) (List.mem_append_right _ List.mem_cons_self)
      · exact h1.2 q (List.mem_append_right _ (List.mem_cons_of_mem _ h2))
theorem kperm4 {α : Type} (X Y Z V : List α) : (X ++ Y ++ (Z ++ V)).Perm (X ++ Z ++ (Y ++ V)) := by
  rw [List.append_assoc, List.append_assoc]
  refine List.Perm.append_left X ?_
  rw [← List.append_assoc, ← List.append_assoc]
  exact List.perm_append_comm.append_right V
abbrev bl0 : List Value := [.null, .null, .int 0, .int 0, .int 0]
theorem bl0_ok : ∀ j, j < 5 → defaultValue (tyX0 j) = vp_V bl0 j := fun j hj => match j, hj with
  | 0, _ => rfl
  | 1, _ => rfl
  | 2, _ => rfl
  | 3, _ => rfl
  | 4, _ => rfl
  | k + 5, h => absurd h (by omega)
abbrev bl1 : List Value := [.null, .null, .int 0]
theorem bl1_ok : ∀ j, j < 3 → defaultValue (tyX1 j) = vp_V bl1 j := fun j hj => match j, hj with
  | 0, _ => rfl
  | 1, _ => rfl
  | 2, _ => rfl
  | k + 3, h => absurd h (by omega)
abbrev bl2 : List Value := [.null, .null, .null, .null, .null, .null, .null, .int 0, .int 0]
theorem bl2_ok : ∀ j, j < 9 → defaultValue (tyX2 j) = vp_V bl2 j := fun j hj => match j, hj with
  | 0, _ => rfl
  | 1, _ => rfl
  | 2, _ => rfl
  | 3, _ => rfl
  | 4, _ => rfl
  | 5, _ => rfl
  | 6, _ => rfl
  | 7, _ => rfl
  | 8, _ => rfl
  | k + 9, h => absurd h (by omega)
abbrev bl3 : List Value := [.null, .null, .null, .null, .int 0, .null, .null]
theorem bl3_ok : ∀ j, j < 7 → defaultValue (tyX3 j) = vp_V bl3 j := fun j hj => match j, hj with
  | 0, _ => rfl
  | 1, _ => rfl
  | 2, _ => rfl
  | 3, _ => rfl
  | 4, _ => rfl
  | 5, _ => rfl
  | 6, _ => rfl
  | k + 7, h => absurd h (by omega)
abbrev bl4 : List Value := [.null, .null, .null, .int 0, .int 0, .int 0]
theorem bl4_ok : ∀ j, j < 6 → defaultValue (tyX4 j) = vp_V bl4 j := fun j hj => match j, hj with
  | 0, _ => rfl
  | 1, _ => rfl
  | 2, _ => rfl
  | 3, _ => rfl
  | 4, _ => rfl
  | 5, _ => rfl
  | k + 6, h => absurd h (by omega)
abbrev bl5 : List Value := [.int 0, .null, .null, .null, .null, .null, .null, .null, .int 0, .int 0, .int 0, .int 0, .int 0, .int 0, .int 0, .int 0, .null, .null]
theorem bl5_ok : ∀ j, j < 18 → defaultValue (tyX5 j) = vp_V bl5 j := fun j hj => match j, hj with
  | 0, _ => rfl
  | 1, _ => rfl
  | 2, _ => rfl
  | 3, _ => rfl
  | 4, _ => rfl
  | 5, _ => rfl
  | 6, _ => rfl
  | 7, _ => rfl
  | 8, _ => rfl
  | 9, _ => rfl
  | 10, _ => rfl
  | 11, _ => rfl
  | 12, _ => rfl
  | 13, _ => rfl
  | 14, _ => rfl
  | 15, _ => rfl
  | 16, _ => rfl
  | 17, _ => rfl
  | k + 18, h => absurd h (by omega)
abbrev bl6 : List Value := [.null, .int 0]
theorem bl6_ok : ∀ j, j < 2 → defaultValue (tyX6 j) = vp_V bl6 j := fun j hj => match j, hj with
  | 0, _ => rfl
  | 1, _ => rfl
  | k + 2, h => absurd h (by omega)
abbrev bl7 : List Value := [.null, .int 0, .int 0, .int 0]
theorem bl7_ok : ∀ j, j < 4 → defaultValue (tyX7 j) = vp_V bl7 j := fun j hj => match j, hj with
  | 0, _ => rfl
  | 1, _ => rfl
  | 2, _ => rfl
  | 3, _ => rfl
  | k + 4, h => absurd h (by omega)
abbrev bl8 : List Value := [.null, .null, .null, .null, .int 0, .null, .null, .int 0, .int 0]
theorem bl8_ok : ∀ j, j < 9 → defaultValue (tyX8 j) = vp_V bl8 j := fun j hj => match j, hj with
  | 0, _ => rfl
  | 1, _ => rfl
  | 2, _ => rfl
  | 3, _ => rfl
  | 4, _ => rfl
  | 5, _ => rfl
  | 6, _ => rfl
  | 7, _ => rfl
  | 8, _ => rfl
  | k + 9, h => absurd h (by omega)
abbrev bl9 : List Value := [.null, .null, .null, .null, .int 0, .int 0, .int 0, .int 0, .int 0, .int 0, .int 0, .int 0, .null, .int 0]
theorem bl9_ok : ∀ j, j < 14 → defaultValue (tyX9 j) = vp_V bl9 j := fun j hj => match j, hj with
  | 0, _ => rfl
  | 1, _ => rfl
  | 2, _ => rfl
  | 3, _ => rfl
  | 4, _ => rfl
  | 5, _ => rfl
  | 6, _ => rfl
  | 7, _ => rfl
  | 8, _ => rfl
  | 9, _ => rfl
  | 10, _ => rfl
  | 11, _ => rfl
  | 12, _ => rfl
  | 13, _ => rfl
  | k + 14, h => absurd h (by omega)
abbrev bl10 : List Value := [.null, .null, .null, .null, .null, .null]
theorem bl10_ok : ∀ j, j < 6 → defaultValue (tyX10 j) = vp_V bl10 j := fun j hj => match j, hj with
  | 0, _ => rfl
  | 1, _ => rfl
  | 2, _ => rfl
  | 3, _ => rfl
  | 4, _ => rfl
  | 5, _ => rfl
  | k + 6, h => absurd h (by omega)
abbrev bl11 : List Value := [.int 0, .int 0, .int 0, .int 0, .int 0, .null, .null, .null, .null, .null, .null, .null, .null, .null, .null, .int 0, .null, .null, .null, .null, .null, .null, .null, .int 0, .int 0, .int 0, .int 0, .int 0, .int 0, .int 0, .int 0, .int 0, .int 0, .int 0, .int 0]
theorem bl11_ok : ∀ j, j < 35 → defaultValue (tyX11 j) = vp_V bl11 j := fun j hj => match j, hj with
  | 0, _ => rfl
  | 1, _ => rfl
  | 2, _ => rfl
  | 3, _ => rfl
  | 4, _ => rfl
  | 5, _ => rfl
  | 6, _ => rfl
  | 7, _ => rfl
  | 8, _ => rfl
  | 9, _ => rfl
  | 10, _ => rfl
  | 11, _ => rfl
  | 12, _ => rfl
  | 13, _ => rfl
  | 14, _ => rfl
  | 15, _ => rfl
  | 16, _ => rfl
  | 17, _ => rfl
  | 18, _ => rfl
  | 19, _ => rfl
  | 20, _ => rfl
  | 21, _ => rfl
  | 22, _ => rfl
  | 23, _ => rfl
  | 24, _ => rfl
  | 25, _ => rfl
  | 26, _ => rfl
  | 27, _ => rfl
  | 28, _ => rfl
  | 29, _ => rfl
  | 30, _ => rfl
  | 31, _ => rfl
  | 32, _ => rfl
  | 33, _ => rfl
  | 34, _ => rfl
  | k + 35, h => absurd h (by omega)
