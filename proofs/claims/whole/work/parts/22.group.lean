-- cells in groups: the whole is (List.range n).flatMap g
theorem va_D_iff {A : Nat → Prop} {ws : va_W} : va_D A ws ↔ (ws.map Prod.fst).Nodup ∧ ∀ q ∈ ws, A q.1 := by
  constructor
  · intro h
    refine ⟨?_, fun q hq => ?_⟩
    · rw [List.Nodup, List.pairwise_map, List.pairwise_iff_getElem]
      intro i j hi hj hij he
      have := h.1 i j ws[i] ws[j] (List.getElem?_eq_getElem hi) (List.getElem?_eq_getElem hj) he
      omega
    · obtain ⟨i, hi⟩ := List.getElem?_of_mem hq
      exact h.2 i q hi
  · intro h
    refine ⟨fun i j p q hp hq hpq => ?_, fun k q hq => h.2 q (List.mem_of_getElem? hq)⟩
    obtain ⟨hi, rfl⟩ := List.getElem?_eq_some_iff.mp hp
    obtain ⟨hj, rfl⟩ := List.getElem?_eq_some_iff.mp hq
    have h1 := h.1
    rw [List.Nodup, List.pairwise_map, List.pairwise_iff_getElem] at h1
    rcases Nat.lt_trichotomy i j with z | z | z
    · exact absurd hpq (h1 i j hi hj z)
    · exact z
    · exact absurd hpq.symm (h1 j i hj hi z)
theorem fm_mem {n k : Nat} {g : Nat → va_W} (hk : k < n) {q : Nat × va_E} (h : q ∈ g k) : q ∈ (List.range n).flatMap g := List.mem_flatMap.mpr ⟨k, List.mem_range.mpr hk, h⟩
theorem fm_idx {n k j : Nat} {g : Nat → va_W} (hk : k < n) {q : Nat × va_E} (h : (g k)[j]? = some q) : ∃ i : Nat, ((List.range n).flatMap g)[i]? = some q := List.getElem?_of_mem (fm_mem hk (List.mem_of_getElem? h))
theorem fm_addr {L : List Nat} {g g' : Nat → va_W} (h : ∀ k, k ∈ L → (g' k).map Prod.fst = (g k).map Prod.fst) : (L.flatMap g').map Prod.fst = (L.flatMap g).map Prod.fst := by
  rw [List.map_flatMap, List.map_flatMap]
  induction L with
  | nil => rfl
  | cons a L ih =>
    rw [List.flatMap_cons, List.flatMap_cons, h a List.mem_cons_self, ih (fun k hk => h k (List.mem_cons_of_mem _ hk))]
/-- addresses of different groups are apart -/
theorem fm_apart {A : Nat → Prop} {n : Nat} {g : Nat → va_W} (hD : va_D A ((List.range n).flatMap g)) {i j : Nat} (hi : i < n) (hj : j < n) (hij : i ≠ j) {p q : Nat × va_E} (hp : p ∈ g i) (hq : q ∈ g j) : p.1 ≠ q.1 := by
  have h := (va_D_iff.mp hD).1
  rw [List.Nodup, List.pairwise_map, List.pairwise_flatMap] at h
  have h2 := h.2
  rw [List.pairwise_iff_getElem] at h2
  rcases Nat.lt_or_gt_of_ne hij with z | z
  · have := h2 i j (by simpa using hi) (by simpa using hj) z
    simp only [List.getElem_range] at this
    exact this p hp q hq
  · have := h2 j i (by simpa using hj) (by simpa using hi) z
    simp only [List.getElem_range] at this
    exact (this q hq p hp).symm
theorem fm_in {A : Nat → Prop} {n : Nat} {g : Nat → va_W} (hD : va_D A ((List.range n).flatMap g)) {i : Nat} (hi : i < n) : va_D A (g i) := by
  have h := va_D_iff.mp hD
  refine va_D_iff.mpr ⟨?_, fun q hq => h.2 q (fm_mem hi hq)⟩
  have h1 := h.1
  rw [List.Nodup, List.pairwise_map, List.pairwise_flatMap] at h1
  have := h1.1 i (List.mem_range.mpr hi)
  rw [List.Nodup, List.pairwise_map]
  exact this
theorem fm_D {A : Nat → Prop} {n : Nat} {g g' : Nat → va_W} (hD : va_D A ((List.range n).flatMap g)) (h : ∀ k, k < n → (g' k).map Prod.fst = (g k).map Prod.fst) : va_D A ((List.range n).flatMap g') := by
  have h1 := va_D_iff.mp hD
  have e := fm_addr (L := List.range n) (g := g) (g' := g') (fun k hk => h k (List.mem_range.mp hk))
  refine va_D_iff.mpr ⟨by rw [e]; exact h1.1, fun q hq => ?_⟩
  have hm : q.1 ∈ ((List.range n).flatMap g').map Prod.fst := List.mem_map.mpr ⟨q, hq, rfl⟩
  rw [e] at hm
  obtain ⟨q2, hq2, e2⟩ := List.mem_map.mp hm
  rw [← e2]
  exact h1.2 q2 hq2
section KG
variable {p : Program} {l : Launch} {e : Env} {R : Room} {s : State} {m : MethodId} {args : Array Value} {below : List Frame} {meth : Method} {c : Code} {H : Heap} {locs : List Loc} {cells slots : Nat} {Q : State → Prop}
variable {D : va_G} {T : Nat → ClassId} {A : Nat → Prop} {cc : ByteArray} {nL : Nat} {own : String} {pc : Nat} {ls : Array Slot} {rest st0 : List Value} {a n : Nat} {g g' : Nat → va_W}
/-- a cut by groups: the callee's are the groups in isC -/
theorem kCut_g (isC : List Nat) (G : Rg D T A s ((List.range n).flatMap g) H locs) (hn : isC.Nodup) (hlt : ∀ i ∈ isC, i < n) (hsame : ∀ k, k < n → k ∉ isC → g' k = g k) (haddr : ∀ k, k < n → (g' k).map Prod.fst = (g k).map Prod.fst) : kCut D A ((List.range n).flatMap g) (isC.flatMap g) (isC.flatMap g') ((List.range n).flatMap g') H := by
  have hmem : ∀ q, q ∈ isC.flatMap g → q ∈ (List.range n).flatMap g := by
    intro q hq
    obtain ⟨k, hk, hq⟩ := List.mem_flatMap.mp hq
    exact fm_mem (hlt k hk) hq
  have hF := kA_of G (Wc := isC.flatMap g) (fun k q h => List.getElem?_of_mem (hmem q (List.mem_of_getElem? h)))
  refine ⟨hF, fun k q h => ?_, ?_, fun H1 hP1 hD1 hz hk => ⟨fun k q h => ?_, fm_D G.2.2.1 haddr⟩⟩
  · obtain ⟨i, hi⟩ := List.getElem?_of_mem (hmem q (List.mem_of_getElem? h))
    exact G.2.1 i q hi
  · refine va_D_iff.mpr ⟨?_, fun _ _ => trivial⟩
    rw [List.Nodup, List.pairwise_map, List.pairwise_flatMap]
    refine ⟨fun i hi => ?_, ?_⟩
    · have := (va_D_iff.mp (fm_in G.2.2.1 (hlt i hi))).1
      rw [List.Nodup, List.pairwise_map] at this
      exact this
    · rw [List.pairwise_iff_getElem]
      intro i j hi hj hij x hx y hy
      refine fm_apart G.2.2.1 (hlt _ (List.getElem_mem hi)) (hlt _ (List.getElem_mem hj)) (fun z => ?_) hx hy
      have h2 := hn
      rw [List.Nodup, List.pairwise_iff_getElem] at h2
      exact h2 i j hi hj hij z
  · obtain ⟨j, hj, hq⟩ := List.mem_flatMap.mp (List.mem_of_getElem? h)
    have hjn := List.mem_range.mp hj
    by_cases hc : j ∈ isC
    · obtain ⟨i, hi⟩ := List.getElem?_of_mem (List.mem_flatMap.mpr ⟨j, hc, hq⟩)
      exact hP1 i q hi
    · rw [hsame j hjn hc] at hq
      obtain ⟨i, hi⟩ := List.getElem?_of_mem (fm_mem hjn hq)
      have hl := (G.2.1 i q hi).lt
      refine (G.2.1 i q hi).kept (hk _ hl (fun h1 => ?_))
      rcases h1 with ⟨k2, e, h1⟩ | h1
      · obtain ⟨j2, hj2, hq2⟩ := List.mem_flatMap.mp (List.mem_of_getElem? h1)
        exact fm_apart G.2.2.1 hjn (hlt j2 hj2) (fun z => hc (z ▸ hj2)) hq hq2 rfl
      · exact absurd hl (Nat.not_lt.mpr h1)
theorem kg_get (F : CallFix p m c cc nL s args kAll own) (G : Rg D T A s ((List.range n).flatMap g) H locs) (k0 j : Nat) (hk0 : k0 < n) {ci : Nat} {fs : List Value} (he : (g k0)[j]? = some (a, .inr (ci, fs))) {C : String} {Tt : u_T} {N : Nat} (hc : vwCl[ci]? = some (C, Tt, N)) (hin : ∀ w ∈ u_ws C Tt N, w ∈ kAll) (k : Nat) (hk : k < N) {index : Nat} (hlink : Cond.fieldLink own index (Tt k).1 (Tt k).2.1 (Tt k).2.2.1 ∈ kAll) {v : Value} (hv : fs[k]? = some v) (hdg : decode cc pc = .ok (.getfield index, 3))
    (kk : W p l e R s m args below meth c H locs cells slots Q (F0 m (pc + 3) ls (v :: rest))) : W p l e R s m args below meth c H locs cells slots Q (F0 m pc ls (.ref a :: rest)) := by
  obtain ⟨q0, hq0⟩ := fm_idx hk0 he
  exact k_get F G q0 hq0 hc hin k hk hlink hv hdg kk
theorem kg_iald (F : CallFix p m c cc nL s args kAll own) (G : Rg D T A s ((List.range n).flatMap g) H locs) (k0 j : Nat) (hk0 : k0 < n) {N : Nat} {f : Nat → Int32} (ha : (g k0)[j]? = some (a, .inl (T 0, N, .inl f))) {i : Int32} (hin : vp_in i N) (hdg : decode cc pc = .ok (.iaload, 1))
    (kk : W p l e R s m args below meth c H locs cells slots Q (F0 m (pc + 1) ls (.int (f i.toNatClampNeg) :: rest))) : W p l e R s m args below meth c H locs cells slots Q (F0 m pc ls (.int i :: .ref a :: rest)) := by
  obtain ⟨q0, hq0⟩ := fm_idx hk0 ha
  exact k_iald F G q0 hq0 hin hdg kk
theorem kg_aald (F : CallFix p m c cc nL s args kAll own) (G : Rg D T A s ((List.range n).flatMap g) H locs) (k0 j : Nat) (hk0 : k0 < n) {N : Nat} {f : Nat → Option Nat} (ha : (g k0)[j]? = some (a, .inl (T 4, N, .inr (.inr (.inr (.inr f)))))) {i : Int32} (hin : vp_in i N) {b : Nat} (hb : f i.toNatClampNeg = some b) (hdg : decode cc pc = .ok (.aaload, 1))
    (kk : W p l e R s m args below meth c H locs cells slots Q (F0 m (pc + 1) ls (.ref b :: rest))) : W p l e R s m args below meth c H locs cells slots Q (F0 m pc ls (.int i :: .ref a :: rest)) := by
  obtain ⟨q0, hq0⟩ := fm_idx hk0 ha
  refine va_aldq F.1 F.2.1 G.1 G.2.1 q0 4 hq0 rfl hin hdg ?_
  rw [hb]
  exact kk
/-- a cell of a group is written: what the groups are then -/
theorem fm_put (G : Rg D T A s ((List.range n).flatMap g) H locs) {k0 j i : Nat} (hk0 : k0 < n) {x : va_E} {x2 : va_E} (hj : (g k0)[j]? = some (a, x)) (hi : ((List.range n).flatMap g)[i]? = some (a, x)) (hset : g' k0 = (g k0).set j (a, x2)) (hsame : ∀ k, k < n → k ≠ k0 → g' k = g k) {H1 : Heap} {locs1 : List Loc} (hP : va_P D vwCl (((List.range n).flatMap g).set i (a, x2)) H1) (hD : va_D A (((List.range n).flatMap g).set i (a, x2))) (hS : va_S A s.heap H1 locs1) : Rg D T A s ((List.range n).flatMap g') H1 locs1 := by
  have hil := (List.getElem?_eq_some_iff.mp hi).1
  have hjl := (List.getElem?_eq_some_iff.mp hj).1
  have haddr : ∀ k, k < n → (g' k).map Prod.fst = (g k).map Prod.fst := by
    intro k hk
    by_cases h : k = k0
    · subst h
      rw [hset, List.map_set]
      apply List.ext_getElem?
      intro z
      rw [List.getElem?_set]
      by_cases hz : j = z
      · subst hz
        rw [if_pos rfl, if_pos (by rw [List.length_map]; exact hjl), List.getElem?_map, hj]
        rfl
      · rw [if_neg hz]
    · rw [hsame k hk h]
  refine ⟨G.1, fun k q hq => ?_, fm_D G.2.2.1 haddr, hS, G.2.2.2.2.1, G.2.2.2.2.2⟩
  obtain ⟨k1, hk1, hq1⟩ := List.mem_flatMap.mp (List.mem_of_getElem? hq)
  have hk1n := List.mem_range.mp hk1
  -- the cell is the written one, or one of before with another address
  have key : q = (a, x2) ∨ (q ∈ (List.range n).flatMap g ∧ q.1 ≠ a) := by
    by_cases h : k1 = k0
    · subst h
      rw [hset] at hq1
      obtain ⟨z, hz⟩ := List.getElem?_of_mem hq1
      rw [List.getElem?_set] at hz
      by_cases hjz : j = z
      · rw [if_pos hjz, if_pos hjl] at hz
        exact Or.inl (Option.some.inj hz).symm
      · rw [if_neg hjz] at hz
        refine Or.inr ⟨fm_mem hk1n (List.mem_of_getElem? hz), fun e => hjz ?_⟩
        exact ((fm_in G.2.2.1 hk1n).1 j z (a, x) q hj hz e.symm)
    · rw [hsame k1 hk1n h] at hq1
      exact Or.inr ⟨fm_mem hk1n hq1, fm_apart G.2.2.1 hk1n hk0 h hq1 (List.mem_of_getElem? hj)⟩
  rcases key with rfl | ⟨hm, hne⟩
  · exact hP i _ (by rw [List.getElem?_set, if_pos rfl, if_pos hil])
  · obtain ⟨z, hz⟩ := List.getElem?_of_mem hm
    refine hP z q ?_
    rw [List.getElem?_set]
    by_cases hiz : i = z
    · subst hiz
      rw [hi] at hz
      exact absurd (congrArg Prod.fst (Option.some.inj hz)).symm hne
    · rw [if_neg hiz]
      exact hz
theorem kg_put (F : CallFix p m c cc nL s args kAll own) (G : Rg D T A s ((List.range n).flatMap g) H locs) (k0 j : Nat) (hk0 : k0 < n) {ci : Nat} {fs : List Value} (he : (g k0)[j]? = some (a, .inr (ci, fs))) {C : String} {Tt : u_T} {N : Nat} (hc : vwCl[ci]? = some (C, Tt, N)) (hin : ∀ w ∈ u_ws C Tt N, w ∈ kAll) {ty0 : Nat → FieldType} (hty : ∀ k, k < N → parseFieldDescriptor (Tt k).2.2.1 = some (ty0 k)) (hnm : ∀ a, a < N → ∀ b, b < N → a ≠ b → (Tt a).2.1 ≠ (Tt b).2.1)
    (k : Nat) (hk : k < N) {index : Nat} (hlink : Cond.fieldLink own index (Tt k).1 (Tt k).2.1 (Tt k).2.2.1 ∈ kAll) (hfin : (Tt k).2.2.2 = false) {v : Value} (hn : narrow (ty0 k) v = v) (hfit : fits (ty0 k) v = true) (hl : k < fs.length) (hdg : decode cc pc = .ok (.putfield index, 3)) (hset : g' k0 = (g k0).set j (a, .inr (ci, fs.set k v))) (hsame : ∀ k, k < n → k ≠ k0 → g' k = g k)
    (kk : ∀ (H1 : Heap) (locs1 : List Loc), Rg D T A s ((List.range n).flatMap g') H1 locs1 → W p l e R s m args below meth c H1 locs1 cells slots Q (F0 m (pc + 3) ls rest)) : W p l e R s m args below meth c H locs cells slots Q (F0 m pc ls (v :: .ref a :: rest)) := by
  obtain ⟨q0, hq0⟩ := fm_idx hk0 he
  exact va_put F.1 F.2.1 F.2.2.2.2 hin ty0 hty hnm F.2.2.2.1 G.1 G.2.1 G.2.2.1 G.2.2.2.1 q0 hq0 hc k hk (F.2.2.2.2 _ hlink) (fun _ h => h) hfin (hty k hk) hn hfit hl hdg (fun H1 locs1 hP hD hS => kk H1 locs1 (fm_put G hk0 he hq0 hset hsame hP hD hS))
theorem kg_iast (F : CallFix p m c cc nL s args kAll own) (G : Rg D T A s ((List.range n).flatMap g) H locs) (k0 j : Nat) (hk0 : k0 < n) {N : Nat} {f : Nat → Int32} (ha : (g k0)[j]? = some (a, .inl (T 0, N, .inl f))) {i x : Int32} (hin : vp_in i N) (hdg : decode cc pc = .ok (.iastore, 1)) (hset : g' k0 = (g k0).set j (a, .inl (T 0, N, .inl (upd f i.toNatClampNeg x)))) (hsame : ∀ k, k < n → k ≠ k0 → g' k = g k)
    (kk : ∀ (H1 : Heap) (locs1 : List Loc), Rg D T A s ((List.range n).flatMap g') H1 locs1 → W p l e R s m args below meth c H1 locs1 cells slots Q (F0 m (pc + 1) ls rest)) : W p l e R s m args below meth c H locs cells slots Q (F0 m pc ls (.int x :: .int i :: .ref a :: rest)) := by
  obtain ⟨q0, hq0⟩ := fm_idx hk0 ha
  exact va_iast F.1 F.2.1 G.1 G.2.1 G.2.2.1 G.2.2.2.1 q0 0 hq0 rfl hin hdg (fun H1 locs1 hP hD hS => kk H1 locs1 (fm_put G hk0 ha hq0 hset hsame hP hD hS))
theorem kg_recv (G : Rg D T A s ((List.range n).flatMap g) H locs) (k0 j : Nat) (hk0 : k0 < n) {b ci : Nat} {q : vw_C} {fs : List Value} (he : (g k0)[j]? = some (b, .inr (ci, fs))) (hc : vwCl[ci]? = some q) : ∃ cell : Cell, H[b]? = some cell ∧ cell.vm.isStatics = false ∧ s.vm.findClass q.1 = some cell.cls := by
  obtain ⟨q0, hq0⟩ := fm_idx hk0 he
  exact k_recv G hq0 hc
end KG
