-- THE BASE: what every contract of this claim shares
/-- the array classes of the claim, by kind -/
def kT (T : Nat → ClassId) : List (ClassId × FieldType) := [(T 0, .int), (T 1, .long), (T 2, .byte), (T 3, .boolean), (T 4, .object "BlackoutStart$World")]
/-- the links to private members of a nest mate -/
def kN : List Cond := [.methodLinkNest RX10 11 yX6_init RX10, .methodLinkNest RX0 30 yX10_copyState RX10, .methodLinkNest RX0 37 yX10_isIn RX10, .methodLinkNest RX1 28 yX10_copyRow RX10, .methodLinkNest RX2 37 yX10_copyRow RX10, .methodLinkNest RX2 54 yX10_isIn RX10, .methodLinkNest RX3 23 yX1_init RX10, .methodLinkNest RX3 42 yX10_copyRow RX10, .methodLinkNest RX4 128 yX10_isIn RX10, .methodLinkNest RX5 78 yX10_copyRow RX10, .methodLinkNest RX5 88 yX10_isIn RX10, .methodLinkNest RX8 48 yX10_copyRow RX10, .methodLinkNest RX8 64 yX10_isIn RX10, .methodLinkNest RX9 180 yX10_isIn RX10]
def kNW (U : State) : Prop := ∀ w ∈ kN, va_Nw w U
theorem kNW.warm {s U : State} (hW : s.WarmedH U.vm) (h : kNW s) : kNW U := by
  intro w hw
  have h1 := h w hw
  simp only [kN, List.mem_cons, List.not_mem_nil, or_false] at hw
  rcases hw with rfl | rfl | rfl | rfl | rfl | rfl | rfl | rfl | rfl | rfl | rfl | rfl | rfl | rfl <;> exact va_Nw.warmM hW h1
theorem kNW.same {u U : State} (e : u.vm = U.vm) (h : kNW u) : kNW U := by
  intro w hw
  have h1 := h w hw
  simp only [kN, List.mem_cons, List.not_mem_nil, or_false] at hw
  rcases hw with rfl | rfl | rfl | rfl | rfl | rfl | rfl | rfl | rfl | rfl | rfl | rfl | rfl | rfl <;> exact va_Nw.same rfl e h1
/-- the String constants that are compared with: their lengths and letters -/
def kLen : List Nat := [4, 6, 4, 4, 5, 8, 6, 3, 4]
def kByt : List (List Int32) := [[102, 117, 115, 101], [111, 117, 116, 108, 101, 116], [110, 101, 101, 100], [108, 111, 115, 115], [114, 101, 116, 114, 121], [112, 97, 116, 105, 101, 110, 99, 101], [115, 116, 114, 105, 99, 116], [111, 102, 102], [100, 97, 114, 107]]
def kRef : List (String × Nat × String × Nat) := [(RX4, 76, "fuse", 0), (RX4, 53, "outlet", 1), (RX4, 62, "need", 2), (RX4, 132, "loss", 3), (RX4, 141, "retry", 4), (RX4, 145, "patience", 5), (RX4, 149, "strict", 6), (RX4, 155, "off", 7), (RX4, 160, "dark", 8), (RX11, 193, "fuse", 0), (RX11, 195, "outlet", 1), (RX11, 200, "need", 2), (RX11, 169, "loss", 3), (RX11, 181, "retry", 4), (RX11, 183, "patience", 5), (RX11, 185, "strict", 6), (RX11, 187, "off", 7), (RX11, 189, "dark", 8)]
def kMsg : List (Nat × String) := [(60, "the text is too long"), (71, "no such length"), (80, "the text has an error"), (114, "no outlet has this name"), (164, "no such count"), (206, "no such report"), (270, "no such amount"), (272, "no such message"), (292, "no such place"), (317, "time ends before"), (340, "no change can be undone"), (355, "nothing is saved there"), (360, "no such outlet"), (362, "no such slot"), (364, "out of range"), (369, "not in the ticks that are asked")]
def kNc : List (String × String) := [("java/lang/IllegalArgumentException", "java/lang/IndexOutOfBoundsException"), ("java/util/NoSuchElementException", "java/lang/IndexOutOfBoundsException"), ("java/util/NoSuchElementException", "java/lang/IllegalArgumentException"), ("java/lang/IllegalStateException", "java/lang/IllegalArgumentException")]
def kLenI (i : Nat) : Int32 := Int32.ofNat (kLen.getD i 0)
def kChr (i : Nat) (x : Int32) : Int32 := (kByt.getD i []).getD x.toNatClampNeg 0
def kCa : List String := ["java/lang/IllegalStateException", "java/lang/IndexOutOfBoundsException", "java/lang/IllegalArgumentException", "java/util/NoSuchElementException"]
def kDcl : List String := ["java/lang/RuntimeException", "java/lang/Exception", Bundle.tN]
/-- what holds from the law's start on, and what no method changes -/
def kInv (T : Nat → ClassId) (A : Nat → Prop) (U : State) (H : Heap) : Prop :=
  kNW U ∧ vk_S 9 kLen kByt (fun i => T (100 + i)) (fun i => T (200 + i)) A U H ∧ (∀ q ∈ kRef, vk_R q.1 q.2.1 q.2.2.1 (T (100 + q.2.2.2)) U) ∧ (∀ q ∈ kMsg, ∃ sa : Nat, vk_R RX10 q.1 q.2 sa U) ∧
  vx_Zq Bundle.tN "UNASSIGNED_STACK" Bundle.steD A U H ∧ vx_Zq Bundle.tN "SUPPRESSED_SENTINEL" Bundle.listD A U H ∧ (∀ q ∈ kNc, va_Nc q.1 q.2 U) ∧ va_Z "java/lang/String" "COMPACT_STRINGS" "Z" (.int 1) A U H ∧ va_Zq "jdk/internal/util/Preconditions" "SIOOBE_FORMATTER" "Ljava/util/function/BiFunction;" A U H ∧ (∀ q ∈ kCa, va_Nw (.castable q q) U) ∧ ∀ q ∈ kDcl, va_Nw (.declares (Bundle.initS q)) U
theorem kInv.same {T : Nat → ClassId} {A : Nat → Prop} {u U : State} {H : Heap} (e : u.vm = U.vm) (h : kInv T A u H) : kInv T A U H := by
  obtain ⟨h1, h2, h3, h4, h5, h6, h7, h8, h9, h10, h11⟩ := h
  have ha : u.vm.Alike U.vm := by rw [e]; exact Vm.Alike.refl _
  exact ⟨h1.same e, h2.moved ha, fun q hq => (h3 q hq).same e.symm, fun q hq => (h4 q hq).elim fun sa h => ⟨sa, h.same e.symm⟩, h5.moved ha, h6.moved ha, fun q hq => (h7 q hq).moved ha, h8.moved ha, h9.moved ha, fun q hq => va_Nw.same rfl e (h10 q hq), fun q hq => va_Nw.same rfl e (h11 q hq)⟩
theorem kInv.kept {T : Nat → ClassId} {A : Nat → Prop} {U : State} {H H1 : Heap} (h : kInv T A U H) (hq : ∀ a : Nat, a < H.size → ¬ A a → H1[a]? = H[a]?) : kInv T A U H1 := by
  obtain ⟨h1, h2, h3, h4, h5, h6, h7, h8, h9, h10, h11⟩ := h
  exact ⟨h1, h2.kept hq, h3, h4, h5.kept hq, h6.kept hq, h7, h8.kept hq, h9.kept hq, h10, h11⟩
theorem kInv.narrow {T : Nat → ClassId} {A B : Nat → Prop} {U : State} {H : Heap} (h : kInv T A U H) (hAB : ∀ q, B q → A q) : kInv T B U H := by
  obtain ⟨h1, h2, h3, h4, h5, h6, h7, h8, h9, h10, h11⟩ := h
  exact ⟨h1, h2.narrow hAB, h3, h4, h5.narrow hAB, h6.narrow hAB, h7, h8.narrow hAB, h9.narrow hAB, h10, h11⟩
theorem kInv.warm {T : Nat → ClassId} {A : Nat → Prop} {s U : State} {H : Heap} (hW : s.WarmedH U.vm) (h : kInv T A s H) : kInv T A U H := by
  obtain ⟨h1, h2, h3, h4, h5, h6, h7, h8, h9, h10, h11⟩ := h
  exact ⟨h1.warm hW, h2.moved hW.alike, fun q hq => (h3 q hq).warm hW, fun q hq => (h4 q hq).elim fun sa h => ⟨sa, h.warm hW⟩, h5.moved hW.alike, h6.moved hW.alike, fun q hq => (h7 q hq).moved hW.alike, h8.moved hW.alike, h9.moved hW.alike, fun q hq => va_Nw.warmC hW (h10 q hq), fun q hq => va_Nw.warmD hW (h11 q hq)⟩
/-- where a walk stands: the tables, the world's cells, what has changed -/
def Rg (D : va_G) (T : Nat → ClassId) (A : Nat → Prop) (s : State) (W1 : va_W) (H : Heap) (locs : List Loc) : Prop :=
  va_K D vwCl (kT T) s ∧ va_P D vwCl W1 H ∧ va_D A W1 ∧ va_S A s.heap H locs ∧ kInv T A s s.heap ∧ ∀ q : Nat, s.heap.size ≤ q → A q
def kPc (D : va_G) (T : Nat → ClassId) (av : List Value) (W1 : va_W) (sz : Nat) : Array Value → State → Prop := va_Pc av (fun U => U.heap.size = sz ∧ va_P D vwCl W1 U.heap ∧ va_K D vwCl (kT T) U ∧ kInv T (va_A W1 sz) U U.heap ∧ va_D (fun _ => True) W1)
def kQ (rv : Option Value) (D : va_G) (W2 : va_W) (A : Nat → Prop) : Array Value → State → Outcome → State → Prop := fun _ st oc t => (oc = .returned rv ∧ va_P D vwCl W2 t.heap ∧ va_D A W2) ∧ va_F A st t
/-- a contract: from the cells W1, called with av, the method returns rv, and the cells are W2 -/
def Ct (l : Launch) (y : MethodName) (ws : List Cond) (rm : Room) (D : va_G) (T : Nat → ClassId) (av : List Value) (W1 : va_W) (rv : Option Value) (W2 : va_W) : Prop :=
  ∀ sz : Nat, Met l y ws rm (kPc D T av W1 sz) (kQ rv D W2 (va_A W1 sz)) rm.cells rm.slots (va_A W1 sz)
theorem Ct.of {l : Launch} {y : MethodName} {ws : List Cond} {rm : Room} {D : va_G} {T : Nat → ClassId} {av : List Value} {W1 W2 : va_W} {rv : Option Value} {cc : ByteArray} {maxL : Nat} {ret : Option FieldType}
    (hy : plainName y.cls = true) (hw : ws = Cond.code y cc maxL ret :: kAll) (hsl : (lg_sl av).length ≤ maxL)
    (body : ∀ (p : Program) (e : Env) (s : State) (m : MethodId) (args : Array Value) (below : List Frame) (meth : Method) (c : Code) (A : Nat → Prop) (ls : Array Slot), CallFix p m c cc maxL s args kAll y.cls → meth.sig.returnType = ret → meth.locks = false → meth.name = y.name → Rg D T A s W1 s.heap [] → lv_has ls maxL (lv_args 0 av) →
      W p l e rm s m args below meth c s.heap [] 0 0 (MQ below (kQ rv D W2 A) args s rm.cells rm.slots A) (F0 m 0 ls [])) : Ct l y ws rm D T av W1 rv W2 := by
  intro sz
  refine Met.ofW (cc := cc) (maxL := maxL) (ret := ret) hy hw ?_
  intro p e s m args below meth c s₁ B hml hv
  obtain ⟨rfl, hsz, hP, hK, hN, hD0⟩ := hv
  have hts := atoms_spec (ws := ws) B.pre
  have hown : s.vm.findClass y.cls = some m.cls := findClass_of_methodNamed B.named
  subst hsz
  rw [lg_entry_eq]
  exact body p e s m _ below meth c (va_A W1 s.heap.size) _ ⟨B.exec, B.bytes, hml, hown, fun w h => hts w (by rw [hw]; exact List.mem_cons_of_mem _ h)⟩ B.returns B.notSynchronized (name_of_methodNamed B.named B.method).1 ⟨hK, hP, hD0.self, va_S.rf, hN, fun q h => Or.inr h⟩ (lv_entry av hsl)
/-- what a cell is said to be says it whole, for an array; for two heaps that say the same of it -/
theorem kAt_same {D : va_G} {q : Nat} {x : ClassId × vp_A} {H H1 : Heap} (h1 : va_at D vwCl (q, .inl x) H1) (h : va_at D vwCl (q, .inl x) H) : H1[q]? = H[q]? := Eq.trans h1 (Eq.symm h)
def kfill {α : Type} (n : Nat) (x : α) (f : Nat → α) : Nat → α := fun j => if j < n then x else f j
def kcpy {α : Type} (n : Nat) (f g : Nat → α) : Nat → α := fun j => if j < n then f j else g j
theorem kin {i : Int32} {n : Nat} (h : (!(decide (i < 0) || decide (n ≤ i.toNatClampNeg))) = true) : vp_in i n := by
  intro h2
  simp only [Bool.not_eq_true', Bool.or_eq_false_iff, decide_eq_false_iff_not] at h
  exact h2.elim h.1 h.2
section KB
variable {p : Program} {l : Launch} {e : Env} {R : Room} {s : State} {m : MethodId} {args : Array Value} {below : List Frame} {meth : Method} {c : Code} {H : Heap} {locs : List Loc} {cells slots : Nat} {Q : State → Prop}
variable {D : va_G} {T : Nat → ClassId} {A : Nat → Prop} {W1 W2 Wc Wr Wn : va_W} {cc : ByteArray} {nL : Nat} {own : String} {pc : Nat} {ls : Array Slot} {rest st0 : List Value} {rv : Option Value} {rm : Room} {y : MethodName} {ws : List Cond} {mc ms : Nat} {a : Nat}
theorem k_fixb (av : List Value) (W1 : va_W) (sz : Nat) : FrameBlind (kPc D T av W1 sz) := by
  intro a U g mk q
  obtain ⟨q0, q1, qP, qK, qN, qD⟩ := q
  exact ⟨q0, q1, qP, va_K.moved (u := U) (U := U.calling g mk a) (Vm.Alike.refl U.vm) qK, kInv.same (u := U) (U := U.calling g mk a) rfl qN, qD⟩
/-- how a callee's cells Wc lie among mine, W1, and what mine are (Wn) when its are W2 -/
def kCut (D : va_G) (A : Nat → Prop) (W1 Wc W2 Wn : va_W) (H : Heap) : Prop := (∀ q, va_A Wc H.size q → A q) ∧ va_P D vwCl Wc H ∧ va_D (fun _ => True) Wc ∧
  ∀ H1 : Heap, va_P D vwCl W2 H1 → va_D (va_A Wc H.size) W2 → H.size ≤ H1.size → (∀ q : Nat, q < H.size → ¬ va_A Wc H.size q → H1[q]? = H[q]?) → va_P D vwCl Wn H1 ∧ va_D A Wn
theorem kA_of (G : Rg D T A s W1 H locs) {Wc : va_W} (h : ∀ (k : Nat) (q : Nat × va_E), Wc[k]? = some q → ∃ i : Nat, W1[i]? = some q) : ∀ q, va_A Wc H.size q → A q := by
  obtain ⟨hK, hP, hD, hS, hN, hA⟩ := G
  intro q hq
  rcases hq with ⟨k, e, h1⟩ | h1
  · obtain ⟨i, hi⟩ := h k _ h1
    exact hD.2 i _ hi
  · exact hA q (Nat.le_trans hS.1 h1)
theorem kCut_F (G : Rg D T A s W1 H locs) : kCut D A W1 W1 W2 W2 H := by
  have hF := kA_of G (Wc := W1) (fun k q h => ⟨k, h⟩)
  exact ⟨hF, G.2.1, G.2.2.1.weaken (fun _ _ _ _ => trivial), fun H1 hP1 hD1 _ _ => ⟨hP1, hD1.weaken (fun _ q _ h => hF q.1 h)⟩⟩
theorem kCut_0 (G : Rg D T A s W1 H locs) : kCut D A W1 [] [] W1 H := by
  have hF := kA_of G (Wc := []) (fun k q h => by simp at h)
  refine ⟨hF, fun k q h => by simp at h, ⟨fun i j p q h => by simp at h, fun k q h => by simp at h⟩, fun H1 _ _ _ hk => ⟨G.2.1.kept (fun k q hq => hk _ (G.2.1 k q hq).lt (fun h => ?_)), G.2.2.1⟩⟩
  rcases h with ⟨k2, e, h1⟩ | h1
  · simp at h1
  · exact absurd (G.2.1 k q hq).lt (Nat.not_lt.mpr h1)
theorem kCut_1 (G : Rg D T A s W1 H locs) (i : Nat) {e e2 : va_E} (hi : W1[i]? = some (a, e)) (hWn : W1.set i (a, e2) = Wn) : kCut D A W1 [(a, e)] [(a, e2)] Wn H := by
  subst hWn
  have hF := kA_of G (Wc := [(a, e)]) (fun k q h => by
    cases k with
    | zero => exact ⟨i, by rw [hi]; exact h⟩
    | succ k => simp at h)
  have hn : ∀ (j : Nat) (q : Nat × va_E), j ≠ i → W1[j]? = some q → q.1 < H.size ∧ ¬ va_A [(a, e)] H.size q.1 := by
    intro j q hj hq
    refine ⟨(G.2.1 j q hq).lt, fun h => ?_⟩
    rcases h with ⟨k2, e', h1⟩ | h1
    · cases k2 with
      | zero => exact hj (G.2.2.1.1 j i q (a, e) hq hi (by have := Option.some.inj h1; exact (congrArg Prod.fst this).symm))
      | succ k2 => simp at h1
    · exact absurd (G.2.1 j q hq).lt (Nat.not_lt.mpr h1)
  have hil : i < W1.length := (List.getElem?_eq_some_iff.mp hi).1
  refine ⟨hF, fun k q h => ?_, ⟨fun i j p q h h2 _ => ?_, fun _ _ _ => trivial⟩, fun H1 hP1 hD1 hz hk => ⟨fun j q hq => ?_, ?_⟩⟩
  · cases k with
    | zero => exact G.2.1 i q (by rw [hi]; exact h)
    | succ k => simp at h
  · cases i <;> cases j <;> first | rfl | (simp at h; done) | (simp at h2; done)
  · rw [List.getElem?_set] at hq
    by_cases hj : i = j
    · rw [if_pos hj, if_pos hil] at hq
      exact hP1 0 q hq
    · rw [if_neg hj] at hq
      obtain ⟨h1, h2⟩ := hn j q (fun z => hj z.symm) hq
      exact (G.2.1 j q hq).kept (hk _ h1 h2)
  · refine ⟨fun j k p q hp hq hpq => ?_, fun k q hq => ?_⟩
    · have key : ∀ (j : Nat) (p : Nat × va_E), (W1.set i (a, e2))[j]? = some p → ∃ p0 : Nat × va_E, W1[j]? = some p0 ∧ p0.1 = p.1 := by
        intro j p hp
        rw [List.getElem?_set] at hp
        by_cases hj : i = j
        · rw [if_pos hj, if_pos hil] at hp
          cases hp
          exact ⟨(a, e), hj ▸ hi, rfl⟩
        · rw [if_neg hj] at hp
          exact ⟨p, hp, rfl⟩
      obtain ⟨p0, hp0, e0⟩ := key j p hp
      obtain ⟨q0, hq0, e1⟩ := key k q hq
      exact G.2.2.1.1 j k p0 q0 hp0 hq0 (by rw [e0, e1, hpq])
    · rw [List.getElem?_set] at hq
      by_cases hj : i = k
      · rw [if_pos hj, if_pos hil] at hq
        cases hq
        exact G.2.2.1.2 i (a, e) hi
      · rw [if_neg hj] at hq
        exact G.2.2.1.2 k q hq
/-- two cells, of which the second changes -/
theorem kCut_2 (G : Rg D T A s W1 H locs) (i j : Nat) {b : Nat} {e0 : ClassId × vp_A} {f f2 : va_E} (hi : W1[i]? = some (a, .inl e0)) (hj : W1[j]? = some (b, f)) (hij : i ≠ j) (hWn : W1.set j (b, f2) = Wn) : kCut D A W1 [(a, .inl e0), (b, f)] [(a, .inl e0), (b, f2)] Wn H := by
  have hF := kA_of G (Wc := [(a, .inl e0), (b, f)]) (fun k q h => by
    match k with
    | 0 => exact ⟨i, by rw [hi]; exact h⟩
    | 1 => exact ⟨j, by rw [hj]; exact h⟩
    | k + 2 => simp at h)
  have hab : a ≠ b := fun z => hij (G.2.2.1.1 i j _ _ hi hj z)
  refine ⟨hF, fun k q h => ?_, ⟨fun x y p q h h2 hpq => ?_, fun _ _ _ => trivial⟩, fun H1 hP1 hD1 hz hk => ?_⟩
  · match k with
    | 0 => exact G.2.1 i q (by rw [hi]; exact h)
    | 1 => exact G.2.1 j q (by rw [hj]; exact h)
    | k + 2 => simp at h
  · match x, y with
    | 0, 0 => rfl
    | 1, 1 => rfl
    | 0, 1 => simp at h h2; subst h; subst h2; exact absurd hpq hab
    | 1, 0 => simp at h h2; subst h; subst h2; exact absurd hpq.symm hab
    | x + 2, _ => simp at h
    | _, y + 2 => simp at h2
  · -- as for one cell: what the first one holds has stayed
    have c1 := (kCut_1 G j (e2 := f2) hj hWn).2.2.2 H1 (fun k q h => by
      cases k with
      | zero => exact hP1 1 q h
      | succ k => simp at h)
    refine c1 ⟨fun x y p q h h2 _ => ?_, fun k q h => ?_⟩ hz (fun q hq hn => ?_)
    · cases x <;> cases y <;> first | rfl | (simp at h; done) | (simp at h2; done)
    · cases k with
      | zero =>
        have : q = (b, f2) := (Option.some.inj h).symm
        subst this
        exact Or.inl ⟨0, f, rfl⟩
      | succ k => simp at h
    · by_cases hqa : q = a
      · subst hqa
        have h0 := hP1 0 (q, .inl e0) rfl
        have h1 := G.2.1 i (q, .inl e0) hi
        exact kAt_same h0 h1
      · refine hk q hq (fun h => ?_)
        rcases h with ⟨k2, e', h1⟩ | h1
        · match k2 with
          | 0 => exact hqa (congrArg Prod.fst (Option.some.inj h1)).symm
          | 1 =>
            have hb : b = q := congrArg Prod.fst (Option.some.inj h1)
            exact hn (Or.inl ⟨0, f, by rw [← hb]; rfl⟩)
          | k2 + 2 => simp at h1
        · exact absurd hq (Nat.not_lt.mpr h1)
/-- some of mine, of which nothing changes -/
theorem kCut_R (G : Rg D T A s W1 H locs) (isC : List Nat) (hnC : va_nd isC = true) (hC : isC.map (fun i => W1[i]?) = Wc.map some) : kCut D A W1 Wc Wc W1 H := by
  have hI : ∀ (k : Nat) (q : Nat × va_E), Wc[k]? = some q → ∃ i : Nat, W1[i]? = some q := by
    intro k q hq
    have h1 : (isC.map (fun i => W1[i]?))[k]? = some (some q) := by rw [hC, List.getElem?_map, hq]; rfl
    rw [List.getElem?_map] at h1
    cases hi : isC[k]? with
    | none => rw [hi] at h1; cases h1
    | some i => rw [hi] at h1; exact ⟨i, Option.some.inj h1⟩
  have hF := kA_of G (Wc := Wc) hI
  refine ⟨hF, fun k q hq => (hI k q hq).elim fun i hi => G.2.1 i q hi, (G.2.2.1.sub isC hnC hC).weaken (fun _ _ _ _ => trivial), fun H1 hP1 hD1 hz hk => ⟨fun j q hq => ?_, G.2.2.1⟩⟩
  by_cases h : ∃ (k : Nat) (e : va_E), Wc[k]? = some (q.1, e)
  · obtain ⟨k, e, hk2⟩ := h
    obtain ⟨i, hi⟩ := hI k _ hk2
    have hij := G.2.2.1.1 i j (q.1, e) q hi hq rfl
    subst hij
    have : (q.1, e) = q := Option.some.inj (hi.symm.trans hq)
    rw [← this]
    exact hP1 k _ hk2
  · have hl := (G.2.1 j q hq).lt
    refine (G.2.1 j q hq).kept (hk _ hl (fun h1 => ?_))
    rcases h1 with h1 | h1
    · exact h h1
    · exact absurd hl (Nat.not_lt.mpr h1)
theorem kCut_G (G : Rg D T A s W1 H locs) (isC isR : List Nat) (hnC : va_nd isC = true) (hC : isC.map (fun i => W1[i]?) = Wc.map some) (hR : isR.map (fun i => W1[i]?) = Wr.map some) (hn : va_nd isR = true) (hdis : ∀ i ∈ isR, i ∉ isC) (ps : List Nat) (hps : va_nd ps = true) (hWn : ps.map (fun i => (Wr ++ W2)[i]?) = Wn.map some) : kCut D A W1 Wc W2 Wn H := by
  obtain ⟨hK, hP, hD, hS, hN, hA⟩ := G
  have hF := va_free (wc := Wc) hD hS hA isC hC
  refine ⟨hF, ?_, (hD.sub isC hnC hC).weaken (fun _ _ _ _ => trivial), fun H1 hP1 hD1 hz hk => ?_⟩
  · intro k q hq
    have h1 : (isC.map (fun i => W1[i]?))[k]? = some (some q) := by rw [hC, List.getElem?_map, hq]; rfl
    rw [List.getElem?_map] at h1
    cases hi : isC[k]? with
    | none => rw [hi] at h1; cases h1
    | some i => rw [hi] at h1; exact hP i q (Option.some.inj h1)
  · obtain ⟨hP, hD⟩ := va_join (wr := Wr) (w1 := W2) hP hD isC isR hC hR hn hdis hk hF hP1 hD1
    refine ⟨?_, hD.sub ps hps hWn⟩
    intro k q hq
    have h1 : (ps.map (fun i => (Wr ++ W2)[i]?))[k]? = some (some q) := by rw [hWn, List.getElem?_map, hq]; rfl
    rw [List.getElem?_map] at h1
    cases hi : ps[k]? with
    | none => rw [hi] at h1; cases h1
    | some i => rw [hi] at h1; exact hP i q (Option.some.inj h1)
/-- behind a call -/
theorem k_back {ar : Array Value} (hr : va_Run p l e R s m args below meth c H locs cells slots mc ms (F0 m pc ls st0) rest (kQ rv D W2 (va_A Wc H.size) ar) (va_A Wc H.size)) (G : Rg D T A s W1 H locs) (hc : kCut D A W1 Wc W2 Wn H) {cN sN : Nat} (hz0 : cells + mc = cN ∧ slots + ms = sN)
    (kk : ∀ (H1 : Heap) (locs1 : List Loc), Rg D T A s Wn H1 locs1 → W p l e R s m args below meth c H1 locs1 cN sN Q (F0 m (pc + 3) ls (rv.toList ++ rest))) : W p l e R s m args below meth c H locs cells slots Q (F0 m pc ls st0) := by
  obtain ⟨rfl, rfl⟩ := hz0
  obtain ⟨hK, hP, hD, hS, hN, hA⟩ := G
  obtain ⟨hF, -, -, hcut⟩ := hc
  intro T0 hT X
  obtain ⟨v, st₀, t, T', L, h0, X', hL, e1, e2, ⟨⟨hv, hP1, hD1⟩, hz, hk⟩, st⟩ := hr T0 hT X
  cases hv
  rw [h0] at hz hk
  rw [← e1] at hP1 hz hk
  obtain ⟨hPn, hDn⟩ := hcut T'.heap hP1 hD1 hz hk
  obtain ⟨t2, a1, b1⟩ := kk T'.heap (locs ++ L) ⟨hK, hPn, hDn, ⟨Nat.le_trans hS.1 hz, fun q h1 h2 => by rw [hk q (Nat.lt_of_lt_of_le h1 hS.1) (fun z => h2 (hF q z))]; exact hS.2.1 q h1 h2, fun q hq => by
      rcases List.mem_append.mp hq with h | h
      · exact hS.2.2 q h
      · exact hF _ (hL q h)⟩, hN, hA⟩ T' rfl X'
  exact ⟨t2, st t2 a1, b1⟩
/-- what a callee asks, out of where the walk stands -/
theorem k_pre (G : Rg D T A s W1 H locs) (hc : kCut D A W1 Wc W2 Wn H) (av : List Value) : ∀ U : State, U.heap = H → s.WarmedH U.vm → kPc D T av Wc H.size av.toArray U := by
  obtain ⟨hK, hP, hD, hS, hN, hA⟩ := G
  obtain ⟨hF, hPc, hDc, -⟩ := hc
  intro U hU hW
  exact ⟨rfl, by rw [hU], by rw [hU]; exact hPc, va_K.moved hW.alike hK, by rw [hU]; exact ((hN.kept hS.2.1).narrow hF).warm hW, hDc⟩
theorem k_recv (G : Rg D T A s W1 H locs) {b q0 ci : Nat} {q : vw_C} {fs : List Value} (he : W1[q0]? = some (b, .inr (ci, fs))) (hc : vwCl[ci]? = some q) : ∃ cell : Cell, H[b]? = some cell ∧ cell.vm.isStatics = false ∧ s.vm.findClass q.1 = some cell.cls := va_recv G.1 G.2.1 hc he
theorem k_callV {C : String} {index n maxL : Nat} {bytes : ByteArray} {ret : Option FieldType} {As : List Value} {b : Nat} (F : CallFix p m c cc nL s args kAll own) (G : Rg D T A s W1 H locs) (hM : Ct l y ws rm D T (.ref b :: As) Wc rv W2) (cw : CallW R s args own C index y bytes maxL ret ws rm rm.cells rm.slots n) (q0 : Nat) {ci : Nat} {q : vw_C} {fs : List Value} (he : W1[q0]? = some (b, .inr (ci, fs))) (hc : vwCl[ci]? = some q) (hq : q.1 = C) (hcut : kCut D A W1 Wc W2 Wn H)
    (hn : As.length = n) (hl : ls.size = nL) (hst : st0 = As.reverse ++ .ref b :: rest) (hrm : (rest.map fun v => v.category).sum ≤ 8) (hdg : decode cc pc = .ok (.invokevirtual index, 3)) (hf : cells + rm.cells ≤ R.cells ∧ slots + rm.slots ≤ R.slots) {cN sN : Nat} (hz0 : cells + rm.cells = cN ∧ slots + rm.slots = sN)
    (kk : ∀ (H1 : Heap) (locs1 : List Loc), Rg D T A s Wn H1 locs1 → W p l e R s m args below meth c H1 locs1 cN sN Q (F0 m (pc + 3) ls (rv.toList ++ rest))) : W p l e R s m args below meth c H locs cells slots Q (F0 m pc ls st0) := by
  subst hq
  exact k_back (va_runV (As := As) (rest := rest) (g := F0 m pc ls st0) F (hM H.size) cw ⟨k_fixb _ _ _, k_recv G he hc, k_pre G hcut _⟩ rfl hn hl hst (lv_room hrm) hdg hf) G hcut hz0 kk
theorem k_callVR {C : String} {index n maxL : Nat} {bytes : ByteArray} {ret : Option FieldType} {As : List Value} {b : Nat} (F : CallFix p m c cc nL s args kAll own) (G : Rg D T A s W1 H locs) (hM : Ct l y ws rm D T (.ref b :: As) Wc rv W2) (cw : CallW R s args own C index y bytes maxL ret ws rm rm.cells rm.slots n) (hrv : ∃ cell : Cell, H[b]? = some cell ∧ cell.vm.isStatics = false ∧ s.vm.findClass C = some cell.cls) (hcut : kCut D A W1 Wc W2 Wn H)
    (hn : As.length = n) (hl : ls.size = nL) (hst : st0 = As.reverse ++ .ref b :: rest) (hrm : (rest.map fun v => v.category).sum ≤ 8) (hdg : decode cc pc = .ok (.invokevirtual index, 3)) (hf : cells + rm.cells ≤ R.cells ∧ slots + rm.slots ≤ R.slots) {cN sN : Nat} (hz0 : cells + rm.cells = cN ∧ slots + rm.slots = sN)
    (kk : ∀ (H1 : Heap) (locs1 : List Loc), Rg D T A s Wn H1 locs1 → W p l e R s m args below meth c H1 locs1 cN sN Q (F0 m (pc + 3) ls (rv.toList ++ rest))) : W p l e R s m args below meth c H locs cells slots Q (F0 m pc ls st0) := by
  exact k_back (va_runV (As := As) (rest := rest) (g := F0 m pc ls st0) F (hM H.size) cw ⟨k_fixb _ _ _, hrv, k_pre G hcut _⟩ rfl hn hl hst (lv_room hrm) hdg hf) G hcut hz0 kk
theorem k_strv (G : Rg D T A s W1 H locs) {i : Nat} (hi : i < 9) : ∃ cell : Cell, H[T (100 + i)]? = some cell ∧ cell.vm.isStatics = false ∧ s.vm.findClass RJ0 = some cell.cls := by
  exact vk_recv (adK := fun i => T (100 + i)) G.2.2.2.2.1.2.1 hi G.2.2.2.1
theorem k_callVN {C host : String} {index n maxL : Nat} {bytes : ByteArray} {ret : Option FieldType} {As : List Value} {b : Nat} (F : CallFix p m c cc nL s args kAll own) (G : Rg D T A s W1 H locs) (hM : Ct l y ws rm D T (.ref b :: As) Wc rv W2) (cw : va_CN R s args own index y host bytes maxL ret ws rm rm.cells rm.slots n ∧ (Cond.instanceMethod y).before args s = true ∧ (Cond.selects C y y).before args s = true) (q0 : Nat) {ci : Nat} {q : vw_C} {fs : List Value} (he : W1[q0]? = some (b, .inr (ci, fs))) (hc : vwCl[ci]? = some q) (hq : q.1 = C) (hcut : kCut D A W1 Wc W2 Wn H)
    (hn : As.length = n) (hl : ls.size = nL) (hst : st0 = As.reverse ++ .ref b :: rest) (hrm : (rest.map fun v => v.category).sum ≤ 8) (hdg : decode cc pc = .ok (.invokevirtual index, 3)) (hf : cells + rm.cells ≤ R.cells ∧ slots + rm.slots ≤ R.slots) {cN sN : Nat} (hz0 : cells + rm.cells = cN ∧ slots + rm.slots = sN)
    (kk : ∀ (H1 : Heap) (locs1 : List Loc), Rg D T A s Wn H1 locs1 → W p l e R s m args below meth c H1 locs1 cN sN Q (F0 m (pc + 3) ls (rv.toList ++ rest))) : W p l e R s m args below meth c H locs cells slots Q (F0 m pc ls st0) := by
  subst hq
  exact k_back (va_runVN (As := As) (rest := rest) (g := F0 m pc ls st0) F (hM H.size) cw ⟨k_fixb _ _ _, k_recv G he hc, k_pre G hcut _⟩ rfl hn hl hst (lv_room hrm) hdg hf) G hcut hz0 kk
theorem k_callS {index n maxL : Nat} {bytes : ByteArray} {ret : Option FieldType} {As : List Value} (F : CallFix p m c cc nL s args kAll own) (G : Rg D T A s W1 H locs) (hM : Ct l y ws rm D T As Wc rv W2) (cw : CallB R s args own index y bytes maxL ret ws rm rm.cells rm.slots n ∧ (Cond.static y).before args s = true) (hcut : kCut D A W1 Wc W2 Wn H)
    (hn : As.length = n) (hl : ls.size = nL) (hst : st0 = As.reverse ++ rest) (hrm : (rest.map fun v => v.category).sum ≤ 8) (hdg : decode cc pc = .ok (.invokestatic index, 3)) (hf : cells + rm.cells ≤ R.cells ∧ slots + rm.slots ≤ R.slots) {cN sN : Nat} (hz0 : cells + rm.cells = cN ∧ slots + rm.slots = sN)
    (kk : ∀ (H1 : Heap) (locs1 : List Loc), Rg D T A s Wn H1 locs1 → W p l e R s m args below meth c H1 locs1 cN sN Q (F0 m (pc + 3) ls (rv.toList ++ rest))) : W p l e R s m args below meth c H locs cells slots Q (F0 m pc ls st0) := by
  exact k_back (va_runS (As := As) (rest := rest) (g := F0 m pc ls st0) F (hM H.size) cw ⟨k_fixb _ _ _, k_pre G hcut _⟩ rfl hn hl hst (lv_room hrm) hdg hf) G hcut hz0 kk
theorem k_callSN {host : String} {index n maxL : Nat} {bytes : ByteArray} {ret : Option FieldType} {As : List Value} (F : CallFix p m c cc nL s args kAll own) (G : Rg D T A s W1 H locs) (hM : Ct l y ws rm D T As Wc rv W2) (cw : va_CN R s args own index y host bytes maxL ret ws rm rm.cells rm.slots n ∧ (Cond.static y).before args s = true) (hcut : kCut D A W1 Wc W2 Wn H)
    (hn : As.length = n) (hl : ls.size = nL) (hst : st0 = As.reverse ++ rest) (hrm : (rest.map fun v => v.category).sum ≤ 8) (hdg : decode cc pc = .ok (.invokestatic index, 3)) (hf : cells + rm.cells ≤ R.cells ∧ slots + rm.slots ≤ R.slots) {cN sN : Nat} (hz0 : cells + rm.cells = cN ∧ slots + rm.slots = sN)
    (kk : ∀ (H1 : Heap) (locs1 : List Loc), Rg D T A s Wn H1 locs1 → W p l e R s m args below meth c H1 locs1 cN sN Q (F0 m (pc + 3) ls (rv.toList ++ rest))) : W p l e R s m args below meth c H locs cells slots Q (F0 m pc ls st0) := by
  exact k_back (va_runSN (As := As) (rest := rest) (g := F0 m pc ls st0) F (hM H.size) ⟨cw.1, cw.2, trivial⟩ ⟨k_fixb _ _ _, k_pre G hcut _⟩ rfl hn hl hst (lv_room hrm) hdg hf) G hcut hz0 kk
/-- a private nest mate's link -/
theorem k_nest (G : Rg D T A s W1 H locs) {w : Cond} (i : Nat) (hi : kN[i]? = some w) : va_Nw w s := G.2.2.2.2.1.1 w (List.mem_of_getElem? hi)
theorem k_ref (G : Rg D T A s W1 H locs) {q : String × Nat × String × Nat} (i : Nat) (hi : kRef[i]? = some q) : vk_R q.1 q.2.1 q.2.2.1 (T (100 + q.2.2.2)) s := G.2.2.2.2.1.2.2.1 q (List.mem_of_getElem? hi)
theorem k_refE (G : Rg D T A s W1 H locs) {o : String} {k : Nat} {tx : String} {j : Nat} (i : Nat) (hi : kRef[i]? = some (o, k, tx, j)) : vk_R o k tx (T (100 + j)) s := G.2.2.2.2.1.2.2.1 _ (List.mem_of_getElem? hi)
theorem k_get (F : CallFix p m c cc nL s args kAll own) (G : Rg D T A s W1 H locs) (q0 : Nat) {ci : Nat} {fs : List Value} (he : W1[q0]? = some (a, .inr (ci, fs))) {C : String} {Tt : u_T} {N : Nat} (hc : vwCl[ci]? = some (C, Tt, N)) (hin : ∀ w ∈ u_ws C Tt N, w ∈ kAll) (k : Nat) (hk : k < N) {index : Nat} (hlink : Cond.fieldLink own index (Tt k).1 (Tt k).2.1 (Tt k).2.2.1 ∈ kAll) {v : Value} (hv : fs[k]? = some v) (hdg : decode cc pc = .ok (.getfield index, 3))
    (kk : W p l e R s m args below meth c H locs cells slots Q (F0 m (pc + 3) ls (v :: rest))) : W p l e R s m args below meth c H locs cells slots Q (F0 m pc ls (.ref a :: rest)) :=
  va_get F.1 F.2.1 F.2.2.2.2 hin F.2.2.2.1 G.1 G.2.1 q0 he hc k hk (F.2.2.2.2 _ hlink) (fun _ h => h) hv hdg kk
theorem k_put (F : CallFix p m c cc nL s args kAll own) (G : Rg D T A s W1 H locs) (q0 : Nat) {ci : Nat} {fs : List Value} (he : W1[q0]? = some (a, .inr (ci, fs))) {C : String} {Tt : u_T} {N : Nat} (hc : vwCl[ci]? = some (C, Tt, N)) (hin : ∀ w ∈ u_ws C Tt N, w ∈ kAll) {ty0 : Nat → FieldType} (hty : ∀ k, k < N → parseFieldDescriptor (Tt k).2.2.1 = some (ty0 k)) (hnm : ∀ a, a < N → ∀ b, b < N → a ≠ b → (Tt a).2.1 ≠ (Tt b).2.1)
    (k : Nat) (hk : k < N) {index : Nat} (hlink : Cond.fieldLink own index (Tt k).1 (Tt k).2.1 (Tt k).2.2.1 ∈ kAll) (hfin : (Tt k).2.2.2 = false) {v : Value} (hn : narrow (ty0 k) v = v) (hfit : fits (ty0 k) v = true) (hl : k < fs.length) (hdg : decode cc pc = .ok (.putfield index, 3)) (hWn : W1.set q0 (a, .inr (ci, fs.set k v)) = Wn)
    (kk : ∀ (H1 : Heap) (locs1 : List Loc), Rg D T A s Wn H1 locs1 → W p l e R s m args below meth c H1 locs1 cells slots Q (F0 m (pc + 3) ls rest)) : W p l e R s m args below meth c H locs cells slots Q (F0 m pc ls (v :: .ref a :: rest)) := by
  subst hWn
  exact va_put F.1 F.2.1 F.2.2.2.2 hin ty0 hty hnm F.2.2.2.1 G.1 G.2.1 G.2.2.1 G.2.2.2.1 q0 he hc k hk (F.2.2.2.2 _ hlink) (fun _ h => h) hfin (hty k hk) hn hfit hl hdg (fun H1 locs1 hP hD hS => kk H1 locs1 ⟨G.1, hP, hD, hS, G.2.2.2.2.1, G.2.2.2.2.2⟩)
theorem k_iald (F : CallFix p m c cc nL s args kAll own) (G : Rg D T A s W1 H locs) (q0 : Nat) {n : Nat} {f : Nat → Int32} (ha : W1[q0]? = some (a, .inl (T 0, n, .inl f))) {i : Int32} (hin : vp_in i n) (hdg : decode cc pc = .ok (.iaload, 1))
    (kk : W p l e R s m args below meth c H locs cells slots Q (F0 m (pc + 1) ls (.int (f i.toNatClampNeg) :: rest))) : W p l e R s m args below meth c H locs cells slots Q (F0 m pc ls (.int i :: .ref a :: rest)) := va_iald F.1 F.2.1 G.1 G.2.1 q0 0 ha rfl hin hdg kk
theorem k_iast (F : CallFix p m c cc nL s args kAll own) (G : Rg D T A s W1 H locs) (q0 : Nat) {n : Nat} {f : Nat → Int32} (ha : W1[q0]? = some (a, .inl (T 0, n, .inl f))) {i x : Int32} (hin : vp_in i n) (hdg : decode cc pc = .ok (.iastore, 1)) (hWn : W1.set q0 (a, .inl (T 0, n, .inl (upd f i.toNatClampNeg x))) = Wn)
    (kk : ∀ (H1 : Heap) (locs1 : List Loc), Rg D T A s Wn H1 locs1 → W p l e R s m args below meth c H1 locs1 cells slots Q (F0 m (pc + 1) ls rest)) : W p l e R s m args below meth c H locs cells slots Q (F0 m pc ls (.int x :: .int i :: .ref a :: rest)) := by
  subst hWn
  exact va_iast F.1 F.2.1 G.1 G.2.1 G.2.2.1 G.2.2.2.1 q0 0 ha rfl hin hdg (fun H1 locs1 hP hD hS => kk H1 locs1 ⟨G.1, hP, hD, hS, G.2.2.2.2.1, G.2.2.2.2.2⟩)
theorem k_bald (F : CallFix p m c cc nL s args kAll own) (G : Rg D T A s W1 H locs) (q0 : Nat) {n : Nat} {f : Nat → Int32} (ha : W1[q0]? = some (a, .inl (T 2, n, .inl f))) {i : Int32} (hin : vp_in i n) (hdg : decode cc pc = .ok (.baload, 1))
    (kk : W p l e R s m args below meth c H locs cells slots Q (F0 m (pc + 1) ls (.int (f i.toNatClampNeg) :: rest))) : W p l e R s m args below meth c H locs cells slots Q (F0 m pc ls (.int i :: .ref a :: rest)) := va_bald F.1 F.2.1 G.1 G.2.1 q0 2 ha rfl hin hdg kk
theorem k_bast (F : CallFix p m c cc nL s args kAll own) (G : Rg D T A s W1 H locs) (q0 : Nat) {n : Nat} {f : Nat → Int32} (ha : W1[q0]? = some (a, .inl (T 2, n, .inl f))) {i x : Int32} (hin : vp_in i n) (hdg : decode cc pc = .ok (.bastore, 1)) (hWn : W1.set q0 (a, .inl (T 2, n, .inl (upd f i.toNatClampNeg (vp_nar .byte x)))) = Wn)
    (kk : ∀ (H1 : Heap) (locs1 : List Loc), Rg D T A s Wn H1 locs1 → W p l e R s m args below meth c H1 locs1 cells slots Q (F0 m (pc + 1) ls rest)) : W p l e R s m args below meth c H locs cells slots Q (F0 m pc ls (.int x :: .int i :: .ref a :: rest)) := by
  subst hWn
  exact va_bast F.1 F.2.1 G.1 G.2.1 G.2.2.1 G.2.2.2.1 q0 2 ha rfl hin hdg (fun H1 locs1 hP hD hS => kk H1 locs1 ⟨G.1, hP, hD, hS, G.2.2.2.2.1, G.2.2.2.2.2⟩)
theorem k_zald (F : CallFix p m c cc nL s args kAll own) (G : Rg D T A s W1 H locs) (q0 : Nat) {n : Nat} {f : Nat → Int32} (ha : W1[q0]? = some (a, .inl (T 3, n, .inl f))) {i : Int32} (hin : vp_in i n) (hdg : decode cc pc = .ok (.baload, 1))
    (kk : W p l e R s m args below meth c H locs cells slots Q (F0 m (pc + 1) ls (.int (f i.toNatClampNeg) :: rest))) : W p l e R s m args below meth c H locs cells slots Q (F0 m pc ls (.int i :: .ref a :: rest)) := va_zald F.1 F.2.1 G.1 G.2.1 q0 3 ha rfl hin hdg kk
theorem k_zast (F : CallFix p m c cc nL s args kAll own) (G : Rg D T A s W1 H locs) (q0 : Nat) {n : Nat} {f : Nat → Int32} (ha : W1[q0]? = some (a, .inl (T 3, n, .inl f))) {i x : Int32} (hin : vp_in i n) (hdg : decode cc pc = .ok (.bastore, 1)) (hWn : W1.set q0 (a, .inl (T 3, n, .inl (upd f i.toNatClampNeg (vp_nar .boolean x)))) = Wn)
    (kk : ∀ (H1 : Heap) (locs1 : List Loc), Rg D T A s Wn H1 locs1 → W p l e R s m args below meth c H1 locs1 cells slots Q (F0 m (pc + 1) ls rest)) : W p l e R s m args below meth c H locs cells slots Q (F0 m pc ls (.int x :: .int i :: .ref a :: rest)) := by
  subst hWn
  exact va_zast F.1 F.2.1 G.1 G.2.1 G.2.2.1 G.2.2.2.1 q0 3 ha rfl hin hdg (fun H1 locs1 hP hD hS => kk H1 locs1 ⟨G.1, hP, hD, hS, G.2.2.2.2.1, G.2.2.2.2.2⟩)
theorem k_lald (F : CallFix p m c cc nL s args kAll own) (G : Rg D T A s W1 H locs) (q0 : Nat) {n : Nat} {f : Nat → Int64} (ha : W1[q0]? = some (a, .inl (T 1, n, .inr (.inl f)))) {i : Int32} (hin : vp_in i n) (hdg : decode cc pc = .ok (.laload, 1))
    (kk : W p l e R s m args below meth c H locs cells slots Q (F0 m (pc + 1) ls (.long (f i.toNatClampNeg) :: rest))) : W p l e R s m args below meth c H locs cells slots Q (F0 m pc ls (.int i :: .ref a :: rest)) := va_lald F.1 F.2.1 G.1 G.2.1 q0 1 ha rfl hin hdg kk
theorem k_last (F : CallFix p m c cc nL s args kAll own) (G : Rg D T A s W1 H locs) (q0 : Nat) {n : Nat} {f : Nat → Int64} (ha : W1[q0]? = some (a, .inl (T 1, n, .inr (.inl f)))) {i : Int32} {x : Int64} (hin : vp_in i n) (hdg : decode cc pc = .ok (.lastore, 1)) (hWn : W1.set q0 (a, .inl (T 1, n, .inr (.inl (vp_updL f i.toNatClampNeg x)))) = Wn)
    (kk : ∀ (H1 : Heap) (locs1 : List Loc), Rg D T A s Wn H1 locs1 → W p l e R s m args below meth c H1 locs1 cells slots Q (F0 m (pc + 1) ls rest)) : W p l e R s m args below meth c H locs cells slots Q (F0 m pc ls (.long x :: .int i :: .ref a :: rest)) := by
  subst hWn
  exact va_last F.1 F.2.1 G.1 G.2.1 G.2.2.1 G.2.2.2.1 q0 1 ha rfl hin hdg (fun H1 locs1 hP hD hS => kk H1 locs1 ⟨G.1, hP, hD, hS, G.2.2.2.2.1, G.2.2.2.2.2⟩)
theorem k_ialdN (F : CallFix p m c cc nL s args kAll own) (G : Rg D T A s W1 H locs) (q0 : Nat) {n : Nat} {f : Nat → Int32} (ha : W1[q0]? = some (a, .inl (T 0, n, .inl f))) {i : Int32} (hin : vp_in i n) (j : Nat) (hj : i.toNatClampNeg = j) (hdg : decode cc pc = .ok (.iaload, 1))
    (kk : W p l e R s m args below meth c H locs cells slots Q (F0 m (pc + 1) ls (.int (f j) :: rest))) : W p l e R s m args below meth c H locs cells slots Q (F0 m pc ls (.int i :: .ref a :: rest)) := by
  subst hj
  exact k_iald F G q0 ha hin hdg kk
theorem k_baldN (F : CallFix p m c cc nL s args kAll own) (G : Rg D T A s W1 H locs) (q0 : Nat) {n : Nat} {f : Nat → Int32} (ha : W1[q0]? = some (a, .inl (T 2, n, .inl f))) {i : Int32} (hin : vp_in i n) (j : Nat) (hj : i.toNatClampNeg = j) (hdg : decode cc pc = .ok (.baload, 1))
    (kk : W p l e R s m args below meth c H locs cells slots Q (F0 m (pc + 1) ls (.int (f j) :: rest))) : W p l e R s m args below meth c H locs cells slots Q (F0 m pc ls (.int i :: .ref a :: rest)) := by
  subst hj
  exact k_bald F G q0 ha hin hdg kk
theorem k_zaldN (F : CallFix p m c cc nL s args kAll own) (G : Rg D T A s W1 H locs) (q0 : Nat) {n : Nat} {f : Nat → Int32} (ha : W1[q0]? = some (a, .inl (T 3, n, .inl f))) {i : Int32} (hin : vp_in i n) (j : Nat) (hj : i.toNatClampNeg = j) (hdg : decode cc pc = .ok (.baload, 1))
    (kk : W p l e R s m args below meth c H locs cells slots Q (F0 m (pc + 1) ls (.int (f j) :: rest))) : W p l e R s m args below meth c H locs cells slots Q (F0 m pc ls (.int i :: .ref a :: rest)) := by
  subst hj
  exact k_zald F G q0 ha hin hdg kk
theorem k_laldN (F : CallFix p m c cc nL s args kAll own) (G : Rg D T A s W1 H locs) (q0 : Nat) {n : Nat} {f : Nat → Int64} (ha : W1[q0]? = some (a, .inl (T 1, n, .inr (.inl f)))) {i : Int32} (hin : vp_in i n) (j : Nat) (hj : i.toNatClampNeg = j) (hdg : decode cc pc = .ok (.laload, 1))
    (kk : W p l e R s m args below meth c H locs cells slots Q (F0 m (pc + 1) ls (.long (f j) :: rest))) : W p l e R s m args below meth c H locs cells slots Q (F0 m pc ls (.int i :: .ref a :: rest)) := by
  subst hj
  exact k_lald F G q0 ha hin hdg kk
theorem k_iastN (F : CallFix p m c cc nL s args kAll own) (G : Rg D T A s W1 H locs) (q0 : Nat) {n : Nat} {f : Nat → Int32} (ha : W1[q0]? = some (a, .inl (T 0, n, .inl f))) {i x : Int32} (hin : vp_in i n) (j : Nat) (hj : i.toNatClampNeg = j) (hdg : decode cc pc = .ok (.iastore, 1)) (hWn : W1.set q0 (a, .inl (T 0, n, .inl (upd f j x))) = Wn)
    (kk : ∀ (H1 : Heap) (locs1 : List Loc), Rg D T A s Wn H1 locs1 → W p l e R s m args below meth c H1 locs1 cells slots Q (F0 m (pc + 1) ls rest)) : W p l e R s m args below meth c H locs cells slots Q (F0 m pc ls (.int x :: .int i :: .ref a :: rest)) := by
  subst hj
  exact k_iast F G q0 ha hin hdg hWn kk
theorem k_bastN (F : CallFix p m c cc nL s args kAll own) (G : Rg D T A s W1 H locs) (q0 : Nat) {n : Nat} {f : Nat → Int32} (ha : W1[q0]? = some (a, .inl (T 2, n, .inl f))) {i x : Int32} (hin : vp_in i n) (j : Nat) (hj : i.toNatClampNeg = j) (hdg : decode cc pc = .ok (.bastore, 1)) (hWn : W1.set q0 (a, .inl (T 2, n, .inl (upd f j (vp_nar .byte x)))) = Wn)
    (kk : ∀ (H1 : Heap) (locs1 : List Loc), Rg D T A s Wn H1 locs1 → W p l e R s m args below meth c H1 locs1 cells slots Q (F0 m (pc + 1) ls rest)) : W p l e R s m args below meth c H locs cells slots Q (F0 m pc ls (.int x :: .int i :: .ref a :: rest)) := by
  subst hj
  exact k_bast F G q0 ha hin hdg hWn kk
theorem k_zastN (F : CallFix p m c cc nL s args kAll own) (G : Rg D T A s W1 H locs) (q0 : Nat) {n : Nat} {f : Nat → Int32} (ha : W1[q0]? = some (a, .inl (T 3, n, .inl f))) {i x : Int32} (hin : vp_in i n) (j : Nat) (hj : i.toNatClampNeg = j) (hdg : decode cc pc = .ok (.bastore, 1)) (hWn : W1.set q0 (a, .inl (T 3, n, .inl (upd f j (vp_nar .boolean x)))) = Wn)
    (kk : ∀ (H1 : Heap) (locs1 : List Loc), Rg D T A s Wn H1 locs1 → W p l e R s m args below meth c H1 locs1 cells slots Q (F0 m (pc + 1) ls rest)) : W p l e R s m args below meth c H locs cells slots Q (F0 m pc ls (.int x :: .int i :: .ref a :: rest)) := by
  subst hj
  exact k_zast F G q0 ha hin hdg hWn kk
theorem k_lastN (F : CallFix p m c cc nL s args kAll own) (G : Rg D T A s W1 H locs) (q0 : Nat) {n : Nat} {f : Nat → Int64} (ha : W1[q0]? = some (a, .inl (T 1, n, .inr (.inl f)))) {i : Int32} {x : Int64} (hin : vp_in i n) (j : Nat) (hj : i.toNatClampNeg = j) (hdg : decode cc pc = .ok (.lastore, 1)) (hWn : W1.set q0 (a, .inl (T 1, n, .inr (.inl (vp_updL f j x)))) = Wn)
    (kk : ∀ (H1 : Heap) (locs1 : List Loc), Rg D T A s Wn H1 locs1 → W p l e R s m args below meth c H1 locs1 cells slots Q (F0 m (pc + 1) ls rest)) : W p l e R s m args below meth c H locs cells slots Q (F0 m pc ls (.long x :: .int i :: .ref a :: rest)) := by
  subst hj
  exact k_last F G q0 ha hin hdg hWn kk
theorem k_copyl (F : CallFix p m c cc nL s args kAll own) (G : Rg D T A s W1 H locs) (hl : ls.size = nL) {index : Nat} (w1 : Cond.methodLink own index arraycopyName ∈ kAll) (w2 : Cond.native arraycopyName ∈ kAll) (w3 : Cond.static arraycopyName ∈ kAll) (w4 : Cond.initialized "java/lang/System" ∈ kAll) (q0 q1 : Nat) {a0 n : Nat} {f g : Nat → Int64} (ha0 : W1[q0]? = some (a0, .inl (T 1, n, .inr (.inl f)))) (ha1 : W1[q1]? = some (a, .inl (T 1, n, .inr (.inl g)))) {x : Int32} (hx : x = nI n) (hn : n < 4000)
    (hframes : 1 ≤ R.frames) (hlocals : (rest.map fun v => v.category).sum + (nativeFrameWords "java/lang/System" "arraycopy" 5 + 11) ≤ R.locals) (hdg : decode cc pc = .ok (.invokestatic index, 3)) (hWn : W1.set q1 (a, .inl (T 1, n, .inr (.inl (kcpy n f g)))) = Wn)
    (kk : ∀ (H1 : Heap) (locs1 : List Loc), Rg D T A s Wn H1 locs1 → W p l e R s m args below meth c H1 locs1 cells slots Q (F0 m (pc + 3) ls rest)) : W p l e R s m args below meth c H locs cells slots Q (F0 m pc ls (.int x :: .int 0 :: .ref a :: .int 0 :: .ref a0 :: rest)) := by
  subst hWn
  subst hx
  have hc : (nI n).toNatClampNeg = n := nI_clamp (by omega)
  have h0 : (0 : Int32).toNatClampNeg = 0 := rfl
  have e : va_cpy f g (0 : Int32).toNatClampNeg (0 : Int32).toNatClampNeg (nI n).toNatClampNeg = kcpy n f g := by
    rw [hc, h0]
    funext k
    unfold va_cpy kcpy
    by_cases h : k < n
    · rw [if_pos ⟨Nat.zero_le _, by omega⟩, if_pos h]
      congr 1
      omega
    · rw [if_neg (fun z => h (by omega)), if_neg h]
  refine va_copyl F.1 F.2.1 (F.2.2.1.trans hl.symm) F.2.2.2.1 (F.2.2.2.2 _ w1) (F.2.2.2.2 _ w2) (F.2.2.2.2 _ w3) (F.2.2.2.2 _ w4) G.1 G.2.1 G.2.2.1 G.2.2.2.1 q0 q1 1 1 (ty := .long) ha0 ha1 rfl rfl rfl (by decide) (by decide) (nI_pos (by omega)) (by rw [hc, h0]; omega) (by rw [hc, h0]; omega) (fun _ _ => rfl) hframes hlocals hdg (fun H locs hP hD hS => ?_)
  rw [e] at hP hD
  exact kk H locs ⟨G.1, hP, hD, hS, G.2.2.2.2.1, G.2.2.2.2.2⟩
theorem k_alen (F : CallFix p m c cc nL s args kAll own) (G : Rg D T A s W1 H locs) (q0 t0 : Nat) {cA : ClassId} {x : vp_A} (ha : W1[q0]? = some (a, .inl (cA, x))) {ty : FieldType} (ht : (kT T)[t0]? = some (cA, ty)) {v : Int32} (hv : Int32.ofNat x.1 = v) (hdg : decode cc pc = .ok (.arraylength, 1))
    (kk : W p l e R s m args below meth c H locs cells slots Q (F0 m (pc + 1) ls (.int v :: rest))) : W p l e R s m args below meth c H locs cells slots Q (F0 m pc ls (.ref a :: rest)) := va_alen F.1 F.2.1 G.1 G.2.1 q0 t0 ha ht hv hdg kk
theorem k_iret {v : Int32} (F : CallFix p m c cc nL s args kAll own) (hr : meth.sig.returnType = some .int) (hlk : meth.locks = false) (G : Rg D T A s W2 H locs) (hdg : decode cc pc = .ok (.ireturn, 1)) : W p l e R s m args below meth c H locs cells slots (MQ below (kQ (some (.int v)) D W2 A) args s cells slots A) (F0 m pc ls [.int v]) :=
  W.iret F.1 F.2.1 hr (fun t ht _ => ⟨⟨rfl, by rw [ht]; exact G.2.1, G.2.2.1⟩, G.2.2.2.1.F ht⟩) G.2.2.2.1.2.2 hdg hlk
theorem k_zret {v : Int32} {ty : FieldType} (F : CallFix p m c cc nL s args kAll own) (hr : meth.sig.returnType = some ty) (hn : narrow ty (.int v) = .int v) (hlk : meth.locks = false) (G : Rg D T A s W2 H locs) (hdg : decode cc pc = .ok (.ireturn, 1)) : W p l e R s m args below meth c H locs cells slots (MQ below (kQ (some (.int v)) D W2 A) args s cells slots A) (F0 m pc ls [.int v]) :=
  W.zret F.1 F.2.1 hr hn (fun t ht _ => ⟨⟨rfl, by rw [ht]; exact G.2.1, G.2.2.1⟩, G.2.2.2.1.F ht⟩) G.2.2.2.1.2.2 hdg hlk
theorem k_lret {v : Int64} (F : CallFix p m c cc nL s args kAll own) (hr : meth.sig.returnType = some .long) (hlk : meth.locks = false) (G : Rg D T A s W2 H locs) (hdg : decode cc pc = .ok (.lreturn, 1)) : W p l e R s m args below meth c H locs cells slots (MQ below (kQ (some (.long v)) D W2 A) args s cells slots A) (F0 m pc ls [.long v]) :=
  W.lret F.1 F.2.1 hr (fun t ht _ => ⟨⟨rfl, by rw [ht]; exact G.2.1, G.2.2.1⟩, G.2.2.2.1.F ht⟩) G.2.2.2.1.2.2 hdg hlk
theorem k_dret {v : UInt64} (F : CallFix p m c cc nL s args kAll own) (hr : meth.sig.returnType = some .double) (hlk : meth.locks = false) (G : Rg D T A s W2 H locs) (hdg : decode cc pc = .ok (.dreturn, 1)) : W p l e R s m args below meth c H locs cells slots (MQ below (kQ (some (.double v)) D W2 A) args s cells slots A) (F0 m pc ls [.double v]) :=
  W.dret F.1 F.2.1 hr (fun t ht _ => ⟨⟨rfl, by rw [ht]; exact G.2.1, G.2.2.1⟩, G.2.2.2.1.F ht⟩) G.2.2.2.1.2.2 hdg hlk
theorem k_vret (F : CallFix p m c cc nL s args kAll own) (hr : meth.sig.returnType = none) (hlk : meth.locks = false) (G : Rg D T A s W2 H locs) (hdg : decode cc pc = .ok (.return_, 1)) : W p l e R s m args below meth c H locs cells slots (MQ below (kQ none D W2 A) args s cells slots A) (F0 m pc ls []) :=
  W.vret F.1 F.2.1 hr (fun t ht _ => ⟨⟨rfl, by rw [ht]; exact G.2.1, G.2.2.1⟩, G.2.2.2.1.F ht⟩) G.2.2.2.1.2.2 hdg hlk
theorem k_tab {dflt lo hi : Int} {offs : Array Int} {len : Nat} {x : Int32} (F : CallFix p m c cc nL s args kAll own) (hdg : decode cc pc = .ok (.tableswitch dflt lo hi offs, len)) {tgt : Nat} {off : Int} (v : Int32) (hv : x = v) (h1 : ¬ v.toInt < lo) (h2 : ¬ hi < v.toInt) (ho : offs[(v.toInt - lo).toNat]? = some off) (ht : (pc : Int) + off = (tgt : Int))
    (k : W p l e R s m args below meth c H locs cells slots Q (F0 m tgt ls rest)) : W p l e R s m args below meth c H locs cells slots Q (F0 m pc ls (.int x :: rest)) := by
  subst hv
  exact lv_tableIn F.1 F.2.1 hdg h1 h2 ho ht k
end KB
-- the words of the pure programs: a program that is out of its bounds has no answer
noncomputable def gd {α : Type} (c : Prop) (x : Option α) : Option α := @ite _ c (Classical.propDecidable c) x none
theorem gd_t {α : Type} {c : Prop} {x : Option α} (h : c) : gd c x = x := by unfold gd; exact if_pos h
theorem op_g {α : Type} {c : Prop} {x : Option α} {y : α} (h : gd c x = some y) : c ∧ x = some y := by
  unfold gd at h
  by_cases hc : c
  · rw [if_pos hc] at h; exact ⟨hc, h⟩
  · rw [if_neg hc] at h; cases h
theorem op_t {α : Type} {c : Prop} {i : Decidable c} {x y z : α} (h : (@ite _ c i x y) = z) (hc : c) : x = z := by rw [if_pos hc] at h; exact h
theorem op_f {α : Type} {c : Prop} {i : Decidable c} {x y z : α} (h : (@ite _ c i x y) = z) (hc : ¬ c) : y = z := by rw [if_neg hc] at h; exact h
def bd {α γ : Type} (x : Option α) (f : α → Option γ) : Option γ := match x with
  | some a => f a
  | none => none
def bd2 {α β γ : Type} (x : Option (α × β)) (f : α → β → Option γ) : Option γ := match x with
  | some (a, b) => f a b
  | none => none
def bd3 {α β δ γ : Type} (x : Option (α × β × δ)) (f : α → β → δ → Option γ) : Option γ := match x with
  | some (a, b, d) => f a b d
  | none => none
theorem op_b {α γ : Type} {x : Option α} {f : α → Option γ} {y : γ} (h : bd x f = some y) : ∃ a, x = some a ∧ f a = some y := by
  unfold bd at h
  split at h
  · exact ⟨_, rfl, h⟩
  · cases h
theorem op_b2 {α β γ : Type} {x : Option (α × β)} {f : α → β → Option γ} {y : γ} (h : bd2 x f = some y) : ∃ a b, x = some (a, b) ∧ f a b = some y := by
  unfold bd2 at h
  split at h
  · exact ⟨_, _, rfl, h⟩
  · cases h
theorem op_b3 {α β δ γ : Type} {x : Option (α × β × δ)} {f : α → β → δ → Option γ} {y : γ} (h : bd3 x f = some y) : ∃ a b d, x = some (a, b, d) ∧ f a b d = some y := by
  unfold bd3 at h
  split at h
  · exact ⟨_, _, _, rfl, h⟩
  · cases h
theorem bd_s {α γ : Type} (a : α) (f : α → Option γ) : bd (some a) f = f a := rfl
theorem bd2_s {α β γ : Type} (a : α) (b : β) (f : α → β → Option γ) : bd2 (some (a, b)) f = f a b := rfl
theorem bd3_s {α β δ γ : Type} (a : α) (b : β) (d : δ) (f : α → β → δ → Option γ) : bd3 (some (a, b, d)) f = f a b d := rfl
/-- a place where ways meet -/
def jn {α β : Type} (f : α) (g : α → β) : β := g f
theorem op_j {α β : Type} {f : α} {g : α → Option β} {y : β} (h : jn f g = some y) : ∃ j, j = f ∧ g j = some y := ⟨f, rfl, h⟩
/-- a state gets a name -/
def bs {α β : Type} (x : α) (f : α → β) : β := f x
theorem op_st {α β : Type} {x : α} {f : α → Option β} {y : β} (h : bs x f = some y) : ∃ a, a = x ∧ f a = some y := ⟨x, rfl, h⟩
theorem op_1 {α : Type} {a b : α} (h : some a = some b) : a = b := Option.some.inj h
theorem op_2 {α β : Type} {a b : α} {c d : β} (h : some (a, c) = some (b, d)) : a = b ∧ c = d := by cases h; exact ⟨rfl, rfl⟩
theorem op_3 {α β γ : Type} {a b : α} {c d : β} {x y : γ} (h : some (a, c, x) = some (b, d, y)) : a = b ∧ c = d ∧ x = y := by cases h; exact ⟨rfl, rfl, rfl⟩
theorem op_n {α : Type} {a : α} {P : Prop} (h : none = some a) : P := by cases h
/-- how often a loop may turn -/
def fu : Nat := 4000
/-- a switch that no case takes -/
theorem tab_out {x : Int32} (n : Nat) (hn : n < 64) (h : ∀ j, j < n → ¬ x = Int32.ofNat j) : x.toInt < 0 ∨ (n : Int) - 1 < x.toInt := by
  rcases Int.lt_or_le x.toInt 0 with h0 | h0
  · exact Or.inl h0
  · rcases Int.lt_or_le ((n : Int) - 1) x.toInt with h1 | h1
    · exact Or.inr h1
    · exfalso
      refine h x.toInt.toNat (by omega) ?_
      apply Int32.toInt_inj.mp
      have hj : x.toInt.toNat < 2 ^ 31 := by omega
      rw [show (Int32.ofNat x.toInt.toNat) = nI x.toInt.toNat from rfl, nI_toInt hj]
      omega
theorem look_ne {x : Int32} {n : Nat} (hn : n < 2147483648) (h : ¬ x = Int32.ofNat n) : ¬ (n : Int) = x.toInt := by
  intro e
  exact h (Int32.toInt_inj.mp (by rw [← e]; exact (nI_toInt hn).symm))
