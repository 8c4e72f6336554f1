-- methods that throw: a number says which (0: the method returns)
def kE (n : Nat) : String := match n with
  | 1 => "java/lang/IllegalStateException"
  | 2 => "java/lang/IndexOutOfBoundsException"
  | 3 => "java/lang/IllegalArgumentException"
  | _ => "java/util/NoSuchElementException"
def kQx (code : Nat) (rv : Option Value) (D : va_G) (W2 : va_W) (A : Nat → Prop) : Array Value → State → Outcome → State → Prop := fun a st o t => code = 0 ∧ kQ rv D W2 A a st o t
def kXx (code : Nat) (D : va_G) (W2 : va_W) (A : Nat → Prop) : String → State → State → Prop := fun E st t => (code ≠ 0 ∧ E = kE code) ∧ (va_P D vwCl W2 t.heap ∧ va_D A W2) ∧ va_F A st t
/-- a contract of a method that throws if its number isn't 0; the cells are W2 in each case -/
def Cx (l : Launch) (y : MethodName) (ws : List Cond) (rm : Room) (D : va_G) (T : Nat → ClassId) (av : List Value) (W1 : va_W) (code : Nat) (rv : Option Value) (W2 : va_W) : Prop :=
  ∀ sz : Nat, vx_Met l y ws rm (kPc D T av W1 sz) (kQx code rv D W2 (va_A W1 sz)) (kXx code D W2 (va_A W1 sz)) rm.cells rm.slots (va_A W1 sz)
theorem Cx.of {l : Launch} {y : MethodName} {ws : List Cond} {rm : Room} {D : va_G} {T : Nat → ClassId} {av : List Value} {W1 W2 : va_W} {code : Nat} {rv : Option Value} {cc : ByteArray} {maxL : Nat} {ret : Option FieldType}
    (hy : plainName y.cls = true) (hw : ws = Cond.code y cc maxL ret :: kAll) (hsl : (lg_sl av).length ≤ maxL)
    (body : ∀ (p : Program) (e : Env) (s : State) (m : MethodId) (args : Array Value) (below : List Frame) (meth : Method) (c : Code) (A : Nat → Prop) (ls : Array Slot), CallFix p m c cc maxL s args kAll y.cls → meth.sig.returnType = ret → meth.locks = false → (∀ x ∈ c.exceptionTable.toList, False) → Rg D T A s W1 s.heap [] → lv_has ls maxL (lv_args 0 av) →
      W p l e rm s m args below meth c s.heap [] 0 0 (vx_MQ below (kQx code rv D W2 A) (kXx code D W2 A) args s rm.cells rm.slots A) (F0 m 0 ls [])) : Cx l y ws rm D T av W1 code rv W2 := by
  intro sz
  refine vx_ofW (cc := cc) (maxL := maxL) (ret := ret) hy hw ?_
  intro p e s m args below meth c s₁ B hml hex hv
  obtain ⟨rfl, hsz, hP, hK, hN, hD0⟩ := hv
  have hts := atoms_spec (ws := ws) B.pre
  have hown : s.vm.findClass y.cls = some m.cls := findClass_of_methodNamed B.named
  subst hsz
  rw [lg_entry_eq]
  exact body p e s m _ below meth c (va_A W1 s.heap.size) _ ⟨B.exec, B.bytes, hml, hown, fun w h => hts w (by rw [hw]; exact List.mem_cons_of_mem _ h)⟩ B.returns B.notSynchronized hex ⟨hK, hP, hD0.self, va_S.rf, hN, fun q h => Or.inr h⟩ (lv_entry av hsl)
section KX
variable {p : Program} {l : Launch} {e : Env} {R : Room} {s : State} {m : MethodId} {args : Array Value} {below : List Frame} {meth : Method} {c : Code} {H : Heap} {locs : List Loc} {cells slots : Nat} {Q : State → Prop}
variable {D : va_G} {T : Nat → ClassId} {A : Nat → Prop} {W1 W2 Wc Wn : va_W} {cc : ByteArray} {nL : Nat} {own : String} {pc : Nat} {ls : Array Slot} {rest st0 : List Value} {rv : Option Value} {rm : Room} {y : MethodName} {ws : List Cond} {mc ms code : Nat}
theorem kx_back {ar : Array Value} (hr : vx_Run p l e R s m args below meth c H locs cells slots mc ms (F0 m pc ls st0) rest (kQx code rv D W2 (va_A Wc H.size) ar) (kXx code D W2 (va_A Wc H.size)) (va_A Wc H.size)) (G : Rg D T A s W1 H locs) (hc : kCut D A W1 Wc W2 Wn H) {cN sN : Nat} (hz0 : cells + mc = cN ∧ slots + ms = sN)
    (kx : code ≠ 0 → ∀ (ce : Cell) (q9 : Addr) (H1 : Heap) (locs1 : List Loc), Rg D T A s Wn H1 locs1 → H1[q9]? = some ce → ce.vm = .none → s.vm.findClass (kE code) = some ce.cls → vx_W p l e R s m args below meth c H1 locs1 cN sN Q (F0 m pc ls rest) q9)
    (kk : code = 0 → ∀ (H1 : Heap) (locs1 : List Loc), Rg D T A s Wn H1 locs1 → W p l e R s m args below meth c H1 locs1 cN sN Q (F0 m (pc + 3) ls (rv.toList ++ rest))) : W p l e R s m args below meth c H locs cells slots Q (F0 m pc ls st0) := by
  obtain ⟨rfl, rfl⟩ := hz0
  obtain ⟨hK, hP, hD, hS, hN, hA⟩ := G
  obtain ⟨hF, -, -, hcut⟩ := hc
  have keep : ∀ (st₀ t T' : State) (L : List Loc), st₀.heap = H → T'.heap = t.heap → va_P D vwCl W2 t.heap → va_D (va_A Wc H.size) W2 → va_F (va_A Wc H.size) st₀ t → (∀ q ∈ L, va_A Wc H.size q.base) → Rg D T A s Wn T'.heap (locs ++ L) := by
    intro st₀ t T' L h0 e1 hP1 hD1 hf hL
    obtain ⟨hz, hk⟩ := hf
    rw [h0] at hz hk
    rw [← e1] at hP1 hz hk
    obtain ⟨hPn, hDn⟩ := hcut T'.heap hP1 hD1 hz hk
    exact ⟨hK, hPn, hDn, ⟨Nat.le_trans hS.1 hz, fun q h1 h2 => by rw [hk q (Nat.lt_of_lt_of_le h1 hS.1) (fun z => h2 (hF q z))]; exact hS.2.1 q h1 h2, fun q hq => by
      rcases List.mem_append.mp hq with h | h
      · exact hS.2.2 q h
      · exact hF _ (hL q h)⟩, hN, hA⟩
  intro T0 hT X
  rcases hr T0 hT X with ⟨v, st₀, t, T', L, h0, X', hL, e1, e2, ⟨hcode, ⟨hv, hP1, hD1⟩, hf⟩, st⟩ | ⟨q, st₀, t, T', L, E, ce, h0, X', hL, e1, e2, ⟨⟨hcode, hE⟩, ⟨hP1, hD1⟩, hf⟩, hce, hcv, hcl, st⟩
  · cases hv
    obtain ⟨t2, a1, b1⟩ := kk hcode T'.heap (locs ++ L) (keep st₀ t T' L h0 e1 hP1 hD1 hf hL) T' rfl X'
    exact ⟨t2, st t2 a1, b1⟩
  · subst hE
    obtain ⟨t2, a1, b1⟩ := kx hcode ce q T'.heap (locs ++ L) (keep st₀ t T' L h0 e1 hP1 hD1 hf hL) (by rw [e1]; exact hce) hcv hcl T' rfl X'
    exact ⟨t2, st.trans a1, b1⟩
theorem kx_callV {C : String} {index n maxL : Nat} {bytes : ByteArray} {ret : Option FieldType} {As : List Value} {b : Nat} (F : CallFix p m c cc nL s args kAll own) (G : Rg D T A s W1 H locs) (hM : Cx l y ws rm D T (.ref b :: As) Wc code rv W2) (cw : CallW R s args own C index y bytes maxL ret ws rm rm.cells rm.slots n) (hrv : ∃ cell : Cell, H[b]? = some cell ∧ cell.vm.isStatics = false ∧ s.vm.findClass C = some cell.cls) (hcut : kCut D A W1 Wc W2 Wn H)
    (hn : As.length = n) (hl : ls.size = nL) (hst : st0 = As.reverse ++ .ref b :: rest) (hrm : (rest.map fun v => v.category).sum ≤ 8) (hdg : decode cc pc = .ok (.invokevirtual index, 3)) (hf : cells + rm.cells ≤ R.cells ∧ slots + rm.slots ≤ R.slots) {cN sN : Nat} (hz0 : cells + rm.cells = cN ∧ slots + rm.slots = sN)
    (kx : code ≠ 0 → ∀ (ce : Cell) (q9 : Addr) (H1 : Heap) (locs1 : List Loc), Rg D T A s Wn H1 locs1 → H1[q9]? = some ce → ce.vm = .none → s.vm.findClass (kE code) = some ce.cls → vx_W p l e R s m args below meth c H1 locs1 cN sN Q (F0 m pc ls rest) q9)
    (kk : code = 0 → ∀ (H1 : Heap) (locs1 : List Loc), Rg D T A s Wn H1 locs1 → W p l e R s m args below meth c H1 locs1 cN sN Q (F0 m (pc + 3) ls (rv.toList ++ rest))) : W p l e R s m args below meth c H locs cells slots Q (F0 m pc ls st0) :=
  kx_back (vx_runV (As := As) (rest := rest) (g := F0 m pc ls st0) F (hM H.size) cw ⟨k_fixb _ _ _, hrv, k_pre G hcut _⟩ rfl hn hl hst (lv_room hrm) hdg hf) G hcut hz0 kx kk
theorem kx_callS {index n maxL : Nat} {bytes : ByteArray} {ret : Option FieldType} {As : List Value} (F : CallFix p m c cc nL s args kAll own) (G : Rg D T A s W1 H locs) (hM : Cx l y ws rm D T As Wc code rv W2) (cw : CallB R s args own index y bytes maxL ret ws rm rm.cells rm.slots n ∧ (Cond.static y).before args s = true) (hcut : kCut D A W1 Wc W2 Wn H)
    (hn : As.length = n) (hl : ls.size = nL) (hst : st0 = As.reverse ++ rest) (hrm : (rest.map fun v => v.category).sum ≤ 8) (hdg : decode cc pc = .ok (.invokestatic index, 3)) (hf : cells + rm.cells ≤ R.cells ∧ slots + rm.slots ≤ R.slots) {cN sN : Nat} (hz0 : cells + rm.cells = cN ∧ slots + rm.slots = sN)
    (kx : code ≠ 0 → ∀ (ce : Cell) (q9 : Addr) (H1 : Heap) (locs1 : List Loc), Rg D T A s Wn H1 locs1 → H1[q9]? = some ce → ce.vm = .none → s.vm.findClass (kE code) = some ce.cls → vx_W p l e R s m args below meth c H1 locs1 cN sN Q (F0 m pc ls rest) q9)
    (kk : code = 0 → ∀ (H1 : Heap) (locs1 : List Loc), Rg D T A s Wn H1 locs1 → W p l e R s m args below meth c H1 locs1 cN sN Q (F0 m (pc + 3) ls (rv.toList ++ rest))) : W p l e R s m args below meth c H locs cells slots Q (F0 m pc ls st0) :=
  kx_back (vx_runS (As := As) (rest := rest) (g := F0 m pc ls st0) F (hM H.size) cw ⟨k_fixb _ _ _, k_pre G hcut _⟩ rfl hn hl hst (lv_room hrm) hdg hf) G hcut hz0 kx kk
/-- what is thrown there goes out -/
theorem kx_out {rest : List Value} {q9 : Addr} {ce : Cell} (hex : ∀ x ∈ c.exceptionTable.toList, False) (hlk : meth.locks = false) (G : Rg D T A s W2 H locs) (h0 : code ≠ 0) (hce : H[q9]? = some ce) (hcv : ce.vm = .none) (hcl : s.vm.findClass (kE code) = some ce.cls) (hc : cells ≤ mc) (hs : slots ≤ ms) :
    vx_W p l e R s m args below meth c H locs cells slots (vx_MQ below (kQx code rv D W2 A) (kXx code D W2 A) args s mc ms A) (F0 m pc ls rest) q9 :=
  vx_out (E := kE code) (fun x hx => (hex x hx).elim) hlk hce hcv hcl (fun t ht _ => ⟨⟨h0, rfl⟩, ⟨by rw [ht]; exact G.2.1, G.2.2.1⟩, G.2.2.2.1.F ht⟩) G.2.2.2.1.2.2 hc hs
theorem kx_after (G : Rg D T A s W2 H locs) (h0 : code ≠ 0) : ∀ t : State, s.vm.Alike t.vm → H.size ≤ t.heap.size → (∀ q : Nat, q < H.size → t.heap[q]? = H[q]?) → kXx code D W2 A (kE code) s t := by
  intro t _ hz hk
  refine ⟨⟨h0, rfl⟩, ⟨G.2.1.kept (fun k q hq => hk _ (G.2.1 k q hq).lt), G.2.2.1⟩, Nat.le_trans G.2.2.2.1.1 hz, fun q h1 h2 => ?_⟩
  rw [hk q (Nat.lt_of_lt_of_le h1 G.2.2.2.1.1)]
  exact G.2.2.2.1.2.1 q h1 h2
theorem kx_hat (F : CallFix p m c cc nL s args kAll own) (G : Rg D T A s W2 H locs) {L : List Cond} {E : String} (h1 : ∀ w ∈ L.filter goodWord, w ∈ kAll) (h2 : ∀ w ∈ L.filter (fun w => !goodWord w), w ∈ Cond.castable E E :: kDcl.map (fun q => Cond.declares (Bundle.initS q))) (hE : E ∈ kCa) : ∀ w ∈ L, w.before args s = true := by
  refine vx_hat (B := Cond.castable E E :: kDcl.map (fun q => Cond.declares (Bundle.initS q))) (fun w hw => F.2.2.2.2 w (h1 w hw)) h2 (fun w hw => ?_)
  rcases List.mem_cons.mp hw with rfl | hw
  · exact va_Nw.use rfl (G.2.2.2.2.1.2.2.2.2.2.2.2.2.2.1 E hE)
  · obtain ⟨q, hq, rfl⟩ := List.mem_map.mp hw
    exact va_Nw.use rfl (G.2.2.2.2.1.2.2.2.2.2.2.2.2.2.2 q hq)
theorem kx_msg (G : Rg D T A s W2 H locs) {q : Nat × String} (i : Nat) (hi : kMsg[i]? = some q) : ∃ sa : Nat, vk_R RX10 q.1 q.2 sa s := G.2.2.2.2.1.2.2.2.1 q (List.mem_of_getElem? hi)
theorem kx_ret (k : W p l e R s m args below meth c H locs cells slots (MQ below (kQ rv D W2 A) args s mc ms A) (F0 m pc ls st0)) : W p l e R s m args below meth c H locs cells slots (vx_MQ below (kQx 0 rv D W2 A) (kXx 0 D W2 A) args s mc ms A) (F0 m pc ls st0) := by
  refine vx_ret ?_
  intro T0 hT X
  obtain ⟨t, a1, o, h1, h2, h3, h4⟩ := k T0 hT X
  exact ⟨t, a1, o, h1, h2, ⟨rfl, h3⟩, h4⟩
end KX
-- the four kinds
theorem kx_f1 : Bundle.fit "java/lang/IllegalStateException" = true := by decide +kernel
theorem kx_f2 : Bundle.fit "java/lang/IndexOutOfBoundsException" = true := by decide +kernel
theorem kx_f3 : Bundle.fit "java/lang/IllegalArgumentException" = true := by decide +kernel
theorem kx_f4 : Bundle.fit "java/util/NoSuchElementException" = true := by decide +kernel
def kNms : List String := ["java/lang/RuntimeException", "java/lang/Exception"]
theorem kx_nms : ∀ n ∈ kNms, Bundle.fit n = true := by decide +kernel
theorem kx_b1 : ∀ w ∈ (vx_atS RX10 62 "java/lang/IllegalStateException" kNms).filter (fun w => !goodWord w), w ∈ Cond.castable "java/lang/IllegalStateException" "java/lang/IllegalStateException" :: kDcl.map (fun q => Cond.declares (Bundle.initS q)) := by decide +kernel
theorem kx_b2 : ∀ w ∈ (vx_atS RX10 73 "java/lang/IndexOutOfBoundsException" kNms).filter (fun w => !goodWord w), w ∈ Cond.castable "java/lang/IndexOutOfBoundsException" "java/lang/IndexOutOfBoundsException" :: kDcl.map (fun q => Cond.declares (Bundle.initS q)) := by decide +kernel
theorem kx_b3 : ∀ w ∈ (vx_atS RX10 82 "java/lang/IllegalArgumentException" kNms).filter (fun w => !goodWord w), w ∈ Cond.castable "java/lang/IllegalArgumentException" "java/lang/IllegalArgumentException" :: kDcl.map (fun q => Cond.declares (Bundle.initS q)) := by decide +kernel
theorem kx_b4 : ∀ w ∈ (vy_at RX10 116 "java/util/NoSuchElementException" "java/lang/RuntimeException" ["java/lang/Exception"]).filter (fun w => !goodWord w), w ∈ Cond.castable "java/util/NoSuchElementException" "java/util/NoSuchElementException" :: kDcl.map (fun q => Cond.declares (Bundle.initS q)) := by decide +kernel
