-- the whole object: pictures in groups
def cWd (T : Nat → ClassId) (pl : Nat) (q : Nat → Nat) (w : Nat → Nat → Int32) : va_W :=
  [(q 0, .inr (9, [.ref (pl), .ref (q 2), .ref (q 9), .ref (q 19), .int (w 0 0), .int (w 1 0), .int (w 2 0), .int (w 3 0), .int (w 4 0), .int (w 5 0), .int (w 6 0), .int (w 7 0), .ref (q 1), .int (w 8 0)])),
   (q 1, .inl (T 0, 12, .inl (w 9))),
   (q 2, .inr (2, [.ref (pl), .ref (q 3), .ref (q 4), .ref (q 5), .ref (q 6), .ref (q 7), .ref (q 8), .int (w 16 0), .int (w 17 0)])),
   (q 3, .inl (T 0, 12, .inl (w 10))),
   (q 4, .inl (T 0, 12, .inl (w 11))),
   (q 5, .inl (T 0, 12, .inl (w 12))),
   (q 6, .inl (T 0, 12, .inl (w 13))),
   (q 7, .inl (T 0, 12, .inl (w 14))),
   (q 8, .inl (T 0, 12, .inl (w 15))),
   (q 9, .inr (3, [.ref (pl), .ref (q 10), .ref (q 11), .ref (q 12), .int (w 21 0), .ref (q 13), .ref (q 16)])),
   (q 10, .inl (T 0, 12, .inl (w 18))),
   (q 11, .inl (T 0, 12, .inl (w 19))),
   (q 12, .inl (T 0, 12, .inl (w 20))),
   (q 13, .inr (1, [.ref (q 14), .ref (q 15), .int (w 24 0)])),
   (q 14, .inl (T 0, 12, .inl (w 22))),
   (q 15, .inl (T 0, 12, .inl (w 23))),
   (q 16, .inr (1, [.ref (q 17), .ref (q 18), .int (w 27 0)])),
   (q 17, .inl (T 0, 12, .inl (w 25))),
   (q 18, .inl (T 0, 12, .inl (w 26))),
   (q 19, .inr (8, [.ref (pl), .ref (q 20), .ref (q 21), .ref (q 22), .int (w 31 0), .ref (q 23), .ref (q 24), .int (w 34 0), .int (w 35 0)])),
   (q 20, .inl (T 0, 72, .inl (w 28))),
   (q 21, .inl (T 0, 72, .inl (w 29))),
   (q 22, .inl (T 0, 72, .inl (w 30))),
   (q 23, .inl (T 0, 6, .inl (w 32))),
   (q 24, .inl (T 0, 6, .inl (w 33)))]
def gHc (T : Nat → ClassId) (aP aH : Nat → Nat) (aW : Nat → Nat → Nat) (hs : Nat → Nat → Int32) (ww : Nat → Nat → Nat → Int32) : Nat → va_W := fun k => match k with
  | 0 => [(aH 0, .inr (0, [.ref (aH 1), .ref (aH 2), .int (hs 0 0), .int (hs 1 0), .int (hs 2 0)])), (aH 1, .inl (T 4, 8, .inr (.inr (.inr (.inr (fun j => some (aW (j + 2) 0))))))), (aH 2, .inl (T 4, 2, .inr (.inr (.inr (.inr (fun j => some (aW (j + 10) 0)))))))]
  | k + 1 => cWd T (aP 0) (aW k) (ww k)
abbrev gHU (T : Nat → ClassId) (aP aH : Nat → Nat) (aW : Nat → Nat → Nat) (hs : Nat → Nat → Int32) (ww : Nat → Nat → Nat → Int32) : va_W := (List.range 13).flatMap (gHc T aP aH aW hs ww)
def gFc (T : Nat → ClassId) (aF aR aD aP aH : Nat → Nat) (aW : Nat → Nat → Nat) (tx ps : Nat → Nat → Int32) (nm : Nat → Int64) (v : Nat → Nat → Int32) (vn : Nat → Int64) (hs : Nat → Nat → Int32) (ww : Nat → Nat → Nat → Int32) : Nat → va_W := fun k => match k with
  | 0 => [(aF 0, .inr (10, [.ref (aR 0), .ref (aR 3), .ref (aP 0), .ref (aW 0 0), .ref (aW 1 0), .ref (aH 0)]))]
  | 1 => [(aR 0, .inr (6, [.ref (aR 1), .int (tx 0 0)])), (aR 1, .inl (T 2, 900, .inl (tx 1)))]
  | 2 => [(aR 2, .inr (7, [.ref (aR 0), .int (ps 0 0), .int (ps 1 0), .int (ps 2 0)])), (aR 3, .inr (4, [.ref (aR 0), .ref (aR 2), .ref (aD 0), .int (ps 3 0), .int (ps 4 0), .int (ps 5 0)]))]
  | 3 => [(aD 0, .inr (5, [.int (ps 6 0), .ref (aD 9), .ref (aD 1), .ref (aD 2), .ref (aD 3), .ref (aD 4), .ref (aD 5), .ref (aD 6), .int (ps 7 0), .int (ps 8 0), .int (ps 9 0), .int (ps 10 0), .int (ps 11 0), .int (ps 12 0), .int (ps 13 0), .int (ps 14 0), .ref (aD 7), .ref (aD 8)])), (aD 1, .inl (T 0, 12, .inl (ps 15))), (aD 2, .inl (T 0, 12, .inl (ps 16))), (aD 3, .inl (T 0, 12, .inl (ps 17))), (aD 4, .inl (T 0, 12, .inl (ps 18))), (aD 5, .inl (T 0, 12, .inl (ps 19))), (aD 6, .inl (T 0, 12, .inl (ps 20))), (aD 7, .inl (T 0, 4, .inl (ps 21))), (aD 8, .inl (T 0, 4, .inl (ps 22))), (aD 9, .inl (T 1, 12, .inr (.inl nm)))]
  | 4 => [(aP 0, .inr (5, [.int (v 0 0), .ref (aP 9), .ref (aP 1), .ref (aP 2), .ref (aP 3), .ref (aP 4), .ref (aP 5), .ref (aP 6), .int (v 1 0), .int (v 2 0), .int (v 3 0), .int (v 4 0), .int (v 5 0), .int (v 6 0), .int (v 7 0), .int (v 8 0), .ref (aP 7), .ref (aP 8)])), (aP 1, .inl (T 0, 12, .inl (v 9))), (aP 2, .inl (T 0, 12, .inl (v 10))), (aP 3, .inl (T 0, 12, .inl (v 11))), (aP 4, .inl (T 0, 12, .inl (v 12))), (aP 5, .inl (T 0, 12, .inl (v 13))), (aP 6, .inl (T 0, 12, .inl (v 14))), (aP 7, .inl (T 0, 4, .inl (v 15))), (aP 8, .inl (T 0, 4, .inl (v 16)))]
  | 5 => [(aP 9, .inl (T 1, 12, .inr (.inl vn)))]
  | 6 => [(aH 0, .inr (0, [.ref (aH 1), .ref (aH 2), .int (hs 0 0), .int (hs 1 0), .int (hs 2 0)])), (aH 1, .inl (T 4, 8, .inr (.inr (.inr (.inr (fun j => some (aW (j + 2) 0))))))), (aH 2, .inl (T 4, 2, .inr (.inr (.inr (.inr (fun j => some (aW (j + 10) 0)))))))]
  | k + 7 => cWd T (aP 0) (aW k) (ww k)
abbrev gU (T : Nat → ClassId) (aF aR aD aP aH : Nat → Nat) (aW : Nat → Nat → Nat) (tx ps : Nat → Nat → Int32) (nm : Nat → Int64) (v : Nat → Nat → Int32) (vn : Nat → Int64) (hs : Nat → Nat → Int32) (ww : Nat → Nat → Nat → Int32) : va_W := (List.range 19).flatMap (gFc T aF aR aD aP aH aW tx ps nm v vn hs ww)
theorem gH_addr {T : Nat → ClassId} {aP aH : Nat → Nat} {aW : Nat → Nat → Nat} {hs hs2 : Nat → Nat → Int32} {ww ww2 : Nat → Nat → Nat → Int32} : ∀ k, k < 13 → (gHc T aP aH aW hs2 ww2 k).map Prod.fst = (gHc T aP aH aW hs ww k).map Prod.fst
  | 0, _ => rfl
  | _ + 1, _ => rfl
theorem gH_same {T : Nat → ClassId} {aP aH : Nat → Nat} {aW : Nat → Nat → Nat} {hs hs2 : Nat → Nat → Int32} {ww ww2 : Nat → Nat → Nat → Int32} (isC : List Nat) (h0 : 0 ∈ isC ∨ hs2 = hs) (hw : ∀ i, i + 1 ∈ isC ∨ ww2 i = ww i) : ∀ k, k < 13 → k ∉ isC → gHc T aP aH aW hs2 ww2 k = gHc T aP aH aW hs ww k
  | 0, _, hk => by rcases h0 with h | h; exact absurd h hk; rw [h]; rfl
  | k + 1, _, hk => by
    show cWd T (aP 0) (aW k) (ww2 k) = cWd T (aP 0) (aW k) (ww k)
    rcases hw k with h | h
    · exact absurd h hk
    · rw [h]
theorem gW_up {ww : Nat → Nat → Nat → Int32} (j : Nat) (w2 : Nat → Nat → Int32) (d : Nat) {isC : List Nat} (h : j + d ∈ isC) : ∀ i, i + d ∈ isC ∨ va_up ww j w2 i = ww i := by
  intro i
  by_cases z : i = j
  · exact Or.inl (z ▸ h)
  · exact Or.inr (va_up_ne _ _ z)
theorem gH_two {T : Nat → ClassId} {aP aH : Nat → Nat} {aW : Nat → Nat → Nat} {hs : Nat → Nat → Int32} {ww : Nat → Nat → Nat → Int32} {X Y : Nat} (h : X ≠ Y) (w2 : Nat → Nat → Int32) : [X + 1, Y + 1].flatMap (gHc T aP aH aW hs (va_up ww Y w2)) = gWW T aP (aW X) (aW Y) (ww X) w2 := by
  show cWd T (aP 0) (aW X) (va_up ww Y w2 X) ++ (cWd T (aP 0) (aW Y) (va_up ww Y w2 Y) ++ []) = _
  rw [va_up_ne _ _ h, va_up_self]
  rfl
theorem gF_addr {T : Nat → ClassId} {aF aR aD aP aH : Nat → Nat} {aW : Nat → Nat → Nat} {tx ps v hs tx2 ps2 v2 hs2 : Nat → Nat → Int32} {nm vn nm2 vn2 : Nat → Int64} {ww ww2 : Nat → Nat → Nat → Int32} : ∀ k, k < 19 → (gFc T aF aR aD aP aH aW tx2 ps2 nm2 v2 vn2 hs2 ww2 k).map Prod.fst = (gFc T aF aR aD aP aH aW tx ps nm v vn hs ww k).map Prod.fst
  | 0, _ => rfl
  | 1, _ => rfl
  | 2, _ => rfl
  | 3, _ => rfl
  | 4, _ => rfl
  | 5, _ => rfl
  | 6, _ => rfl
  | _ + 7, _ => rfl
theorem gF_same {T : Nat → ClassId} {aF aR aD aP aH : Nat → Nat} {aW : Nat → Nat → Nat} {tx ps v hs tx2 ps2 v2 hs2 : Nat → Nat → Int32} {nm vn nm2 vn2 : Nat → Int64} {ww ww2 : Nat → Nat → Nat → Int32} (isC : List Nat) (h1 : 1 ∈ isC ∨ tx2 = tx) (h3 : (2 ∈ isC ∧ 3 ∈ isC) ∨ (ps2 = ps ∧ nm2 = nm)) (h5 : (4 ∈ isC ∧ 5 ∈ isC) ∨ (v2 = v ∧ vn2 = vn)) (h6 : 6 ∈ isC ∨ hs2 = hs) (hw : ∀ i, i + 7 ∈ isC ∨ ww2 i = ww i) :
    ∀ k, k < 19 → k ∉ isC → gFc T aF aR aD aP aH aW tx2 ps2 nm2 v2 vn2 hs2 ww2 k = gFc T aF aR aD aP aH aW tx ps nm v vn hs ww k
  | 0, _, _ => rfl
  | 1, _, hk => by rcases h1 with h | h; exact absurd h hk; rw [h]; rfl
  | 2, _, hk => by rcases h3 with h | ⟨h, h'⟩; exact absurd h.1 hk; rw [h]; rfl
  | 3, _, hk => by rcases h3 with h | ⟨h, h'⟩; exact absurd h.2 hk; rw [h, h']; rfl
  | 4, _, hk => by rcases h5 with h | ⟨h, h'⟩; exact absurd h.1 hk; rw [h]; rfl
  | 5, _, hk => by rcases h5 with h | ⟨h, h'⟩; exact absurd h.2 hk; rw [h']; rfl
  | 6, _, hk => by rcases h6 with h | h; exact absurd h hk; rw [h]; rfl
  | k + 7, _, hk => by
    show cWd T (aP 0) (aW k) (ww2 k) = cWd T (aP 0) (aW k) (ww k)
    rcases hw k with h | h
    · exact absurd h hk
    · rw [h]
theorem kn2 {a b : Nat} (h : a ≠ b) : [a, b].Nodup := by simp [h]
theorem knl2 {a b n : Nat} (h : a < n) (h2 : b < n) : ∀ i ∈ [a, b], i < n := by
  intro i hi
  simp only [List.mem_cons, List.not_mem_nil, or_false] at hi
  rcases hi with rfl | rfl <;> assumption
theorem vp_lt {x : Int32} {n : Nat} (h : vp_in x n) : x.toNatClampNeg < n := by
  rcases Nat.lt_or_ge x.toNatClampNeg n with z | z
  · exact z
  · exact absurd (Or.inr z) h
theorem not_cons {k a : Nat} (h : k ≠ a) : k ∉ [a] := fun z => h (List.mem_singleton.mp z)
def bd4 {α0 α1 α2 α3 γ : Type} (x : Option (α0 × α1 × α2 × α3)) (f : α0 → α1 → α2 → α3 → Option γ) : Option γ := match x with
  | some (a0, a1, a2, a3) => f a0 a1 a2 a3
  | none => none
theorem op_b4 {α0 α1 α2 α3 γ : Type} {x : Option (α0 × α1 × α2 × α3)} {f : α0 → α1 → α2 → α3 → Option γ} {y : γ} (h : bd4 x f = some y) : ∃ a0 a1 a2 a3, x = some (a0, a1, a2, a3) ∧ f a0 a1 a2 a3 = some y := by
  unfold bd4 at h
  split at h
  · exact ⟨_, _, _, _, rfl, h⟩
  · cases h
theorem bd4_s {α0 α1 α2 α3 γ : Type} (a0 : α0) (a1 : α1) (a2 : α2) (a3 : α3) (f : α0 → α1 → α2 → α3 → Option γ) : bd4 (some (a0, a1, a2, a3)) f = f a0 a1 a2 a3 := rfl
theorem op_4 {α0 α1 α2 α3 : Type} {a0 a0' : α0} {a1 a1' : α1} {a2 a2' : α2} {a3 a3' : α3} (h : some (a0, a1, a2, a3) = some (a0', a1', a2', a3')) : a0 = a0' ∧ a1 = a1' ∧ a2 = a2' ∧ a3 = a3' := by cases h; exact ⟨rfl, rfl, rfl, rfl⟩
def bd5 {α0 α1 α2 α3 α4 γ : Type} (x : Option (α0 × α1 × α2 × α3 × α4)) (f : α0 → α1 → α2 → α3 → α4 → Option γ) : Option γ := match x with
  | some (a0, a1, a2, a3, a4) => f a0 a1 a2 a3 a4
  | none => none
theorem op_b5 {α0 α1 α2 α3 α4 γ : Type} {x : Option (α0 × α1 × α2 × α3 × α4)} {f : α0 → α1 → α2 → α3 → α4 → Option γ} {y : γ} (h : bd5 x f = some y) : ∃ a0 a1 a2 a3 a4, x = some (a0, a1, a2, a3, a4) ∧ f a0 a1 a2 a3 a4 = some y := by
  unfold bd5 at h
  split at h
  · exact ⟨_, _, _, _, _, rfl, h⟩
  · cases h
theorem bd5_s {α0 α1 α2 α3 α4 γ : Type} (a0 : α0) (a1 : α1) (a2 : α2) (a3 : α3) (a4 : α4) (f : α0 → α1 → α2 → α3 → α4 → Option γ) : bd5 (some (a0, a1, a2, a3, a4)) f = f a0 a1 a2 a3 a4 := rfl
theorem op_5 {α0 α1 α2 α3 α4 : Type} {a0 a0' : α0} {a1 a1' : α1} {a2 a2' : α2} {a3 a3' : α3} {a4 a4' : α4} (h : some (a0, a1, a2, a3, a4) = some (a0', a1', a2', a3', a4')) : a0 = a0' ∧ a1 = a1' ∧ a2 = a2' ∧ a3 = a3' ∧ a4 = a4' := by cases h; exact ⟨rfl, rfl, rfl, rfl, rfl⟩
def bd6 {α0 α1 α2 α3 α4 α5 γ : Type} (x : Option (α0 × α1 × α2 × α3 × α4 × α5)) (f : α0 → α1 → α2 → α3 → α4 → α5 → Option γ) : Option γ := match x with
  | some (a0, a1, a2, a3, a4, a5) => f a0 a1 a2 a3 a4 a5
  | none => none
theorem op_b6 {α0 α1 α2 α3 α4 α5 γ : Type} {x : Option (α0 × α1 × α2 × α3 × α4 × α5)} {f : α0 → α1 → α2 → α3 → α4 → α5 → Option γ} {y : γ} (h : bd6 x f = some y) : ∃ a0 a1 a2 a3 a4 a5, x = some (a0, a1, a2, a3, a4, a5) ∧ f a0 a1 a2 a3 a4 a5 = some y := by
  unfold bd6 at h
  split at h
  · exact ⟨_, _, _, _, _, _, rfl, h⟩
  · cases h
theorem bd6_s {α0 α1 α2 α3 α4 α5 γ : Type} (a0 : α0) (a1 : α1) (a2 : α2) (a3 : α3) (a4 : α4) (a5 : α5) (f : α0 → α1 → α2 → α3 → α4 → α5 → Option γ) : bd6 (some (a0, a1, a2, a3, a4, a5)) f = f a0 a1 a2 a3 a4 a5 := rfl
theorem op_6 {α0 α1 α2 α3 α4 α5 : Type} {a0 a0' : α0} {a1 a1' : α1} {a2 a2' : α2} {a3 a3' : α3} {a4 a4' : α4} {a5 a5' : α5} (h : some (a0, a1, a2, a3, a4, a5) = some (a0', a1', a2', a3', a4', a5')) : a0 = a0' ∧ a1 = a1' ∧ a2 = a2' ∧ a3 = a3' ∧ a4 = a4' ∧ a5 = a5' := by cases h; exact ⟨rfl, rfl, rfl, rfl, rfl, rfl⟩
def bd7 {α0 α1 α2 α3 α4 α5 α6 γ : Type} (x : Option (α0 × α1 × α2 × α3 × α4 × α5 × α6)) (f : α0 → α1 → α2 → α3 → α4 → α5 → α6 → Option γ) : Option γ := match x with
  | some (a0, a1, a2, a3, a4, a5, a6) => f a0 a1 a2 a3 a4 a5 a6
  | none => none
theorem op_b7 {α0 α1 α2 α3 α4 α5 α6 γ : Type} {x : Option (α0 × α1 × α2 × α3 × α4 × α5 × α6)} {f : α0 → α1 → α2 → α3 → α4 → α5 → α6 → Option γ} {y : γ} (h : bd7 x f = some y) : ∃ a0 a1 a2 a3 a4 a5 a6, x = some (a0, a1, a2, a3, a4, a5, a6) ∧ f a0 a1 a2 a3 a4 a5 a6 = some y := by
  unfold bd7 at h
  split at h
  · exact ⟨_, _, _, _, _, _, _, rfl, h⟩
  · cases h
theorem bd7_s {α0 α1 α2 α3 α4 α5 α6 γ : Type} (a0 : α0) (a1 : α1) (a2 : α2) (a3 : α3) (a4 : α4) (a5 : α5) (a6 : α6) (f : α0 → α1 → α2 → α3 → α4 → α5 → α6 → Option γ) : bd7 (some (a0, a1, a2, a3, a4, a5, a6)) f = f a0 a1 a2 a3 a4 a5 a6 := rfl
theorem op_7 {α0 α1 α2 α3 α4 α5 α6 : Type} {a0 a0' : α0} {a1 a1' : α1} {a2 a2' : α2} {a3 a3' : α3} {a4 a4' : α4} {a5 a5' : α5} {a6 a6' : α6} (h : some (a0, a1, a2, a3, a4, a5, a6) = some (a0', a1', a2', a3', a4', a5', a6')) : a0 = a0' ∧ a1 = a1' ∧ a2 = a2' ∧ a3 = a3' ∧ a4 = a4' ∧ a5 = a5' ∧ a6 = a6' := by cases h; exact ⟨rfl, rfl, rfl, rfl, rfl, rfl, rfl⟩
def bd8 {α0 α1 α2 α3 α4 α5 α6 α7 γ : Type} (x : Option (α0 × α1 × α2 × α3 × α4 × α5 × α6 × α7)) (f : α0 → α1 → α2 → α3 → α4 → α5 → α6 → α7 → Option γ) : Option γ := match x with
  | some (a0, a1, a2, a3, a4, a5, a6, a7) => f a0 a1 a2 a3 a4 a5 a6 a7
  | none => none
theorem op_b8 {α0 α1 α2 α3 α4 α5 α6 α7 γ : Type} {x : Option (α0 × α1 × α2 × α3 × α4 × α5 × α6 × α7)} {f : α0 → α1 → α2 → α3 → α4 → α5 → α6 → α7 → Option γ} {y : γ} (h : bd8 x f = some y) : ∃ a0 a1 a2 a3 a4 a5 a6 a7, x = some (a0, a1, a2, a3, a4, a5, a6, a7) ∧ f a0 a1 a2 a3 a4 a5 a6 a7 = some y := by
  unfold bd8 at h
  split at h
  · exact ⟨_, _, _, _, _, _, _, _, rfl, h⟩
  · cases h
theorem bd8_s {α0 α1 α2 α3 α4 α5 α6 α7 γ : Type} (a0 : α0) (a1 : α1) (a2 : α2) (a3 : α3) (a4 : α4) (a5 : α5) (a6 : α6) (a7 : α7) (f : α0 → α1 → α2 → α3 → α4 → α5 → α6 → α7 → Option γ) : bd8 (some (a0, a1, a2, a3, a4, a5, a6, a7)) f = f a0 a1 a2 a3 a4 a5 a6 a7 := rfl
theorem op_8 {α0 α1 α2 α3 α4 α5 α6 α7 : Type} {a0 a0' : α0} {a1 a1' : α1} {a2 a2' : α2} {a3 a3' : α3} {a4 a4' : α4} {a5 a5' : α5} {a6 a6' : α6} {a7 a7' : α7} (h : some (a0, a1, a2, a3, a4, a5, a6, a7) = some (a0', a1', a2', a3', a4', a5', a6', a7')) : a0 = a0' ∧ a1 = a1' ∧ a2 = a2' ∧ a3 = a3' ∧ a4 = a4' ∧ a5 = a5' ∧ a6 = a6' ∧ a7 = a7' := by cases h; exact ⟨rfl, rfl, rfl, rfl, rfl, rfl, rfl, rfl⟩
def bd9 {α0 α1 α2 α3 α4 α5 α6 α7 α8 γ : Type} (x : Option (α0 × α1 × α2 × α3 × α4 × α5 × α6 × α7 × α8)) (f : α0 → α1 → α2 → α3 → α4 → α5 → α6 → α7 → α8 → Option γ) : Option γ := match x with
  | some (a0, a1, a2, a3, a4, a5, a6, a7, a8) => f a0 a1 a2 a3 a4 a5 a6 a7 a8
  | none => none
theorem op_b9 {α0 α1 α2 α3 α4 α5 α6 α7 α8 γ : Type} {x : Option (α0 × α1 × α2 × α3 × α4 × α5 × α6 × α7 × α8)} {f : α0 → α1 → α2 → α3 → α4 → α5 → α6 → α7 → α8 → Option γ} {y : γ} (h : bd9 x f = some y) : ∃ a0 a1 a2 a3 a4 a5 a6 a7 a8, x = some (a0, a1, a2, a3, a4, a5, a6, a7, a8) ∧ f a0 a1 a2 a3 a4 a5 a6 a7 a8 = some y := by
  unfold bd9 at h
  split at h
  · exact ⟨_, _, _, _, _, _, _, _, _, rfl, h⟩
  · cases h
theorem bd9_s {α0 α1 α2 α3 α4 α5 α6 α7 α8 γ : Type} (a0 : α0) (a1 : α1) (a2 : α2) (a3 : α3) (a4 : α4) (a5 : α5) (a6 : α6) (a7 : α7) (a8 : α8) (f : α0 → α1 → α2 → α3 → α4 → α5 → α6 → α7 → α8 → Option γ) : bd9 (some (a0, a1, a2, a3, a4, a5, a6, a7, a8)) f = f a0 a1 a2 a3 a4 a5 a6 a7 a8 := rfl
theorem op_9 {α0 α1 α2 α3 α4 α5 α6 α7 α8 : Type} {a0 a0' : α0} {a1 a1' : α1} {a2 a2' : α2} {a3 a3' : α3} {a4 a4' : α4} {a5 a5' : α5} {a6 a6' : α6} {a7 a7' : α7} {a8 a8' : α8} (h : some (a0, a1, a2, a3, a4, a5, a6, a7, a8) = some (a0', a1', a2', a3', a4', a5', a6', a7', a8')) : a0 = a0' ∧ a1 = a1' ∧ a2 = a2' ∧ a3 = a3' ∧ a4 = a4' ∧ a5 = a5' ∧ a6 = a6' ∧ a7 = a7' ∧ a8 = a8' := by cases h; exact ⟨rfl, rfl, rfl, rfl, rfl, rfl, rfl, rfl, rfl⟩
def bd10 {α0 α1 α2 α3 α4 α5 α6 α7 α8 α9 γ : Type} (x : Option (α0 × α1 × α2 × α3 × α4 × α5 × α6 × α7 × α8 × α9)) (f : α0 → α1 → α2 → α3 → α4 → α5 → α6 → α7 → α8 → α9 → Option γ) : Option γ := match x with
  | some (a0, a1, a2, a3, a4, a5, a6, a7, a8, a9) => f a0 a1 a2 a3 a4 a5 a6 a7 a8 a9
  | none => none
theorem op_b10 {α0 α1 α2 α3 α4 α5 α6 α7 α8 α9 γ : Type} {x : Option (α0 × α1 × α2 × α3 × α4 × α5 × α6 × α7 × α8 × α9)} {f : α0 → α1 → α2 → α3 → α4 → α5 → α6 → α7 → α8 → α9 → Option γ} {y : γ} (h : bd10 x f = some y) : ∃ a0 a1 a2 a3 a4 a5 a6 a7 a8 a9, x = some (a0, a1, a2, a3, a4, a5, a6, a7, a8, a9) ∧ f a0 a1 a2 a3 a4 a5 a6 a7 a8 a9 = some y := by
  unfold bd10 at h
  split at h
  · exact ⟨_, _, _, _, _, _, _, _, _, _, rfl, h⟩
  · cases h
theorem bd10_s {α0 α1 α2 α3 α4 α5 α6 α7 α8 α9 γ : Type} (a0 : α0) (a1 : α1) (a2 : α2) (a3 : α3) (a4 : α4) (a5 : α5) (a6 : α6) (a7 : α7) (a8 : α8) (a9 : α9) (f : α0 → α1 → α2 → α3 → α4 → α5 → α6 → α7 → α8 → α9 → Option γ) : bd10 (some (a0, a1, a2, a3, a4, a5, a6, a7, a8, a9)) f = f a0 a1 a2 a3 a4 a5 a6 a7 a8 a9 := rfl
theorem op_10 {α0 α1 α2 α3 α4 α5 α6 α7 α8 α9 : Type} {a0 a0' : α0} {a1 a1' : α1} {a2 a2' : α2} {a3 a3' : α3} {a4 a4' : α4} {a5 a5' : α5} {a6 a6' : α6} {a7 a7' : α7} {a8 a8' : α8} {a9 a9' : α9} (h : some (a0, a1, a2, a3, a4, a5, a6, a7, a8, a9) = some (a0', a1', a2', a3', a4', a5', a6', a7', a8', a9')) : a0 = a0' ∧ a1 = a1' ∧ a2 = a2' ∧ a3 = a3' ∧ a4 = a4' ∧ a5 = a5' ∧ a6 = a6' ∧ a7 = a7' ∧ a8 = a8' ∧ a9 = a9' := by cases h; exact ⟨rfl, rfl, rfl, rfl, rfl, rfl, rfl, rfl, rfl, rfl⟩
