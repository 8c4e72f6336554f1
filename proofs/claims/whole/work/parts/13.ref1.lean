-- the pictures of the reference
def gM (T : Nat → ClassId) (aM : Nat → Nat) (z : Nat → Nat → Int32) : va_W :=
  [(aM 0, .inr (11, [.int (z 0 0), .int (z 1 0), .int (z 2 0), .int (z 3 0), .int (z 4 0), .ref (aM 1), .ref (aM 2), .ref (aM 3), .ref (aM 4), .ref (aM 5), .ref (aM 6), .ref (aM 7), .ref (aM 8), .ref (aM 9), .ref (aM 10), .int (z 15 0), .ref (aM 11), .ref (aM 12), .ref (aM 13), .ref (aM 14), .ref (aM 15), .ref (aM 16), .ref (aM 17), .int (z 23 0), .int (z 24 0), .int (z 25 0), .int (z 26 0), .int (z 27 0), .int (z 28 0), .int (z 29 0), .int (z 30 0), .int (z 31 0), .int (z 32 0), .int (z 33 0), .int (z 34 0)])),
   (aM 1, .inl (T 0, 48, .inl (z 5))),
   (aM 2, .inl (T 0, 12, .inl (z 6))),
   (aM 3, .inl (T 0, 24, .inl (z 7))),
   (aM 4, .inl (T 0, 8, .inl (z 8))),
   (aM 5, .inl (T 0, 96, .inl (z 9))),
   (aM 6, .inl (T 0, 411, .inl (z 10))),
   (aM 7, .inl (T 0, 411, .inl (z 11))),
   (aM 8, .inl (T 0, 3288, .inl (z 12))),
   (aM 9, .inl (T 0, 822, .inl (z 13))),
   (aM 10, .inl (T 3, 2, .inl (z 14))),
   (aM 11, .inl (T 0, 900, .inl (z 16))),
   (aM 12, .inl (T 0, 411, .inl (z 17))),
   (aM 13, .inl (T 0, 48, .inl (z 18))),
   (aM 14, .inl (T 0, 12, .inl (z 19))),
   (aM 15, .inl (T 0, 24, .inl (z 20))),
   (aM 16, .inl (T 0, 8, .inl (z 21))),
   (aM 17, .inl (T 0, 96, .inl (z 22)))]
def gMR (T : Nat → ClassId) (aM : Nat → Nat) (aA : Nat) (z : Nat → Nat → Int32) (rw : Nat → Int32) : va_W :=
  [(aM 0, .inr (11, [.int (z 0 0), .int (z 1 0), .int (z 2 0), .int (z 3 0), .int (z 4 0), .ref (aM 1), .ref (aM 2), .ref (aM 3), .ref (aM 4), .ref (aM 5), .ref (aM 6), .ref (aM 7), .ref (aM 8), .ref (aM 9), .ref (aM 10), .int (z 15 0), .ref (aM 11), .ref (aM 12), .ref (aM 13), .ref (aM 14), .ref (aM 15), .ref (aM 16), .ref (aM 17), .int (z 23 0), .int (z 24 0), .int (z 25 0), .int (z 26 0), .int (z 27 0), .int (z 28 0), .int (z 29 0), .int (z 30 0), .int (z 31 0), .int (z 32 0), .int (z 33 0), .int (z 34 0)])),
   (aM 1, .inl (T 0, 48, .inl (z 5))),
   (aM 2, .inl (T 0, 12, .inl (z 6))),
   (aM 3, .inl (T 0, 24, .inl (z 7))),
   (aM 4, .inl (T 0, 8, .inl (z 8))),
   (aA, .inl (T 0, 411, .inl rw))]
def gFW (T : Nat → ClassId) (aA : Nat) (aB : Nat) (nn : Nat) (n2 : Nat) (f : Nat → Int32) (f2 : Nat → Int32) : va_W :=
  [(aA, .inl (T 0, nn, .inl f)),
   (aB, .inl (T 0, n2, .inl f2))]
def gFR (T : Nat → ClassId) (aA : Nat) (rw : Nat → Int32) : va_W :=
  [(aA, .inl (T 0, 411, .inl rw))]
abbrev rmX11_isIn : Room := ({ frames := 0, cells := 0, slots := 0, locals := 0 } : Room)
noncomputable def qX11_isIn (x0 : Int64) (x2 : Int64) (x4 : Int64) : Option (Int32) :=
  if (lg_cmp x0 x2) < 0 then some 0 else if 0 < (lg_cmp x0 x4) then some 0 else some 1

set_option maxHeartbeats 4000000 in
set_option maxRecDepth 100000 in
theorem mX11_isIn (l : Launch) (D : va_G) (T : Nat → ClassId) (x0 : Int64) (x2 : Int64) (x4 : Int64) {rR : Int32} (hres : qX11_isIn x0 x2 x4 = some (rR)) : Ct l yX11_isIn (Cond.code yX11_isIn cX11_isIn 6 (some .boolean) :: kAll) rmX11_isIn D T [.long x0, .long x2, .long x4] ([] : va_W) (some (.int rR)) ([] : va_W) := by
  refine Ct.of (cc := cX11_isIn) (maxL := 6) (ret := (some .boolean)) (by decide +kernel) rfl (Nat.le_of_ble_eq_true rfl) ?_
  intro pr en st mi ag bl me co A ls F hr hlk hnm G hl
  have hl : lv_has ls 6 [(0, .long x0), (2, .long x2), (4, .long x4)] := hl
  have h := hres
  unfold qX11_isIn at h
  refine lv_lload_n F.1 F.2.1 dX11_isIn_0 rfl (lv_at hl 0 rfl) ?_
  refine lv_lload_n F.1 F.2.1 dX11_isIn_1 rfl (lv_at hl 1 rfl) ?_
  refine W.lcmp F.1 F.2.1 dX11_isIn_2 ?_
  refine lv_if_lt (tgt := 17) F.1 F.2.1 dX11_isIn_3 (by decide) (fun c => ?_) (fun c => ?_)
  · have h := op_t h c
    refine lv_iconst (v := 0) F.1 F.2.1 dX11_isIn_17 (by decide) ?_
    obtain rfl := op_1 h
    exact k_zret F hr rfl hlk G dX11_isIn_18
  · have h := op_f h c
    refine lv_lload_n F.1 F.2.1 dX11_isIn_6 rfl (lv_at hl 0 rfl) ?_
    refine lv_lload F.1 F.2.1 dX11_isIn_7 (lv_at hl 2 rfl) ?_
    refine W.lcmp F.1 F.2.1 dX11_isIn_9 ?_
    refine lv_if_gt (tgt := 17) F.1 F.2.1 dX11_isIn_10 (by decide) (fun c => ?_) (fun c => ?_)
    · have h := op_t h c
      refine lv_iconst (v := 0) F.1 F.2.1 dX11_isIn_17 (by decide) ?_
      obtain rfl := op_1 h
      exact k_zret F hr rfl hlk G dX11_isIn_18
    · have h := op_f h c
      refine lv_iconst (v := 1) F.1 F.2.1 dX11_isIn_13 (by decide) ?_
      refine lv_goto (tgt := 18) F.1 F.2.1 dX11_isIn_14 (by decide) ?_
      obtain rfl := op_1 h
      exact k_zret F hr rfl hlk G dX11_isIn_18
abbrev rmX11_isLetter : Room := ({ frames := 0, cells := 0, slots := 0, locals := 0 } : Room)
noncomputable def qX11_isLetter (x0 : Int32) : Option (Int32) :=
  if x0 < 97 then some 0 else if 122 < x0 then some 0 else some 1

set_option maxHeartbeats 4000000 in
set_option maxRecDepth 100000 in
theorem mX11_isLetter (l : Launch) (D : va_G) (T : Nat → ClassId) (x0 : Int32) {rR : Int32} (hres : qX11_isLetter x0 = some (rR)) : Ct l yX11_isLetter (Cond.code yX11_isLetter cX11_isLetter 1 (some .boolean) :: kAll) rmX11_isLetter D T [.int x0] ([] : va_W) (some (.int rR)) ([] : va_W) := by
  refine Ct.of (cc := cX11_isLetter) (maxL := 1) (ret := (some .boolean)) (by decide +kernel) rfl (Nat.le_of_ble_eq_true rfl) ?_
  intro pr en st mi ag bl me co A ls F hr hlk hnm G hl
  have hl : lv_has ls 1 [(0, .int x0)] := hl
  have h := hres
  unfold qX11_isLetter at h
  refine lv_iload_n F.1 F.2.1 dX11_isLetter_0 rfl (lv_at hl 0 rfl) ?_
  refine lv_bipush (v := 97) F.1 F.2.1 dX11_isLetter_1 (by decide) ?_
  refine lv_icmp_lt (tgt := 16) F.1 F.2.1 dX11_isLetter_3 (by decide) (fun c => ?_) (fun c => ?_)
  · have h := op_t h c
    refine lv_iconst (v := 0) F.1 F.2.1 dX11_isLetter_16 (by decide) ?_
    obtain rfl := op_1 h
    exact k_zret F hr rfl hlk G dX11_isLetter_17
  · have h := op_f h c
    refine lv_iload_n F.1 F.2.1 dX11_isLetter_6 rfl (lv_at hl 0 rfl) ?_
    refine lv_bipush (v := 122) F.1 F.2.1 dX11_isLetter_7 (by decide) ?_
    refine lv_icmp_gt (tgt := 16) F.1 F.2.1 dX11_isLetter_9 (by decide) (fun c => ?_) (fun c => ?_)
    · have h := op_t h c
      refine lv_iconst (v := 0) F.1 F.2.1 dX11_isLetter_16 (by decide) ?_
      obtain rfl := op_1 h
      exact k_zret F hr rfl hlk G dX11_isLetter_17
    · have h := op_f h c
      refine lv_iconst (v := 1) F.1 F.2.1 dX11_isLetter_12 (by decide) ?_
      refine lv_goto (tgt := 17) F.1 F.2.1 dX11_isLetter_13 (by decide) ?_
      obtain rfl := op_1 h
      exact k_zret F hr rfl hlk G dX11_isLetter_17
abbrev rmX11_isDigit : Room := ({ frames := 0, cells := 0, slots := 0, locals := 0 } : Room)
noncomputable def qX11_isDigit (x0 : Int32) : Option (Int32) :=
  if x0 < 48 then some 0 else if 57 < x0 then some 0 else some 1

set_option maxHeartbeats 4000000 in
set_option maxRecDepth 100000 in
theorem mX11_isDigit (l : Launch) (D : va_G) (T : Nat → ClassId) (x0 : Int32) {rR : Int32} (hres : qX11_isDigit x0 = some (rR)) : Ct l yX11_isDigit (Cond.code yX11_isDigit cX11_isDigit 1 (some .boolean) :: kAll) rmX11_isDigit D T [.int x0] ([] : va_W) (some (.int rR)) ([] : va_W) := by
  refine Ct.of (cc := cX11_isDigit) (maxL := 1) (ret := (some .boolean)) (by decide +kernel) rfl (Nat.le_of_ble_eq_true rfl) ?_
  intro pr en st mi ag bl me co A ls F hr hlk hnm G hl
  have hl : lv_has ls 1 [(0, .int x0)] := hl
  have h := hres
  unfold qX11_isDigit at h
  refine lv_iload_n F.1 F.2.1 dX11_isDigit_0 rfl (lv_at hl 0 rfl) ?_
  refine lv_bipush (v := 48) F.1 F.2.1 dX11_isDigit_1 (by decide) ?_
  refine lv_icmp_lt (tgt := 16) F.1 F.2.1 dX11_isDigit_3 (by decide) (fun c => ?_) (fun c => ?_)
  · have h := op_t h c
    refine lv_iconst (v := 0) F.1 F.2.1 dX11_isDigit_16 (by decide) ?_
    obtain rfl := op_1 h
    exact k_zret F hr rfl hlk G dX11_isDigit_17
  · have h := op_f h c
    refine lv_iload_n F.1 F.2.1 dX11_isDigit_6 rfl (lv_at hl 0 rfl) ?_
    refine lv_bipush (v := 57) F.1 F.2.1 dX11_isDigit_7 (by decide) ?_
    refine lv_icmp_gt (tgt := 16) F.1 F.2.1 dX11_isDigit_9 (by decide) (fun c => ?_) (fun c => ?_)
    · have h := op_t h c
      refine lv_iconst (v := 0) F.1 F.2.1 dX11_isDigit_16 (by decide) ?_
      obtain rfl := op_1 h
      exact k_zret F hr rfl hlk G dX11_isDigit_17
    · have h := op_f h c
      refine lv_iconst (v := 1) F.1 F.2.1 dX11_isDigit_12 (by decide) ?_
      refine lv_goto (tgt := 17) F.1 F.2.1 dX11_isDigit_13 (by decide) ?_
      obtain rfl := op_1 h
      exact k_zret F hr rfl hlk G dX11_isDigit_17
abbrev rmX11_at : Room := ({ frames := 0, cells := 0, slots := 0, locals := 0 } : Room)
noncomputable def qX11_at (x0 : Int32) (x1 : Int32) : Option (Int32) :=
  some ((51 + (12 * x0)) + x1)

set_option maxHeartbeats 4000000 in
set_option maxRecDepth 100000 in
theorem mX11_at (l : Launch) (D : va_G) (T : Nat → ClassId) (x0 : Int32) (x1 : Int32) {rR : Int32} (hres : qX11_at x0 x1 = some (rR)) : Ct l yX11_at (Cond.code yX11_at cX11_at 2 (some .int) :: kAll) rmX11_at D T [.int x0, .int x1] ([] : va_W) (some (.int rR)) ([] : va_W) := by
  refine Ct.of (cc := cX11_at) (maxL := 2) (ret := (some .int)) (by decide +kernel) rfl (Nat.le_of_ble_eq_true rfl) ?_
  intro pr en st mi ag bl me co A ls F hr hlk hnm G hl
  have hl : lv_has ls 2 [(0, .int x0), (1, .int x1)] := hl
  have h := hres
  unfold qX11_at at h
  refine lv_bipush (v := 51) F.1 F.2.1 dX11_at_0 (by decide) ?_
  refine lv_bipush (v := 12) F.1 F.2.1 dX11_at_2 (by decide) ?_
  refine lv_iload_n F.1 F.2.1 dX11_at_4 rfl (lv_at hl 0 rfl) ?_
  refine lv_imul F.1 F.2.1 dX11_at_5 ?_
  refine lv_iadd F.1 F.2.1 dX11_at_6 ?_
  refine lv_iload_n F.1 F.2.1 dX11_at_7 rfl (lv_at hl 1 rfl) ?_
  refine lv_iadd F.1 F.2.1 dX11_at_8 ?_
  obtain rfl := op_1 h
  exact k_iret F hr hlk G dX11_at_9
abbrev rmX11_areTicks : Room := ({ frames := 1, cells := 0, slots := 0, locals := 25 } : Room)
noncomputable def qX11_areTicks (x0 : Int32) : Option (Int32) :=
  bd (qX11_isIn x0.toInt64 1 500) fun r_1 => gd (narrow .boolean (.int r_1) = .int r_1) (some r_1)

set_option maxHeartbeats 4000000 in
set_option maxRecDepth 100000 in
theorem mX11_areTicks (l : Launch) (D : va_G) (T : Nat → ClassId) (x0 : Int32) {rR : Int32} (hres : qX11_areTicks x0 = some (rR)) : Ct l yX11_areTicks (Cond.code yX11_areTicks cX11_areTicks 1 (some .boolean) :: kAll) rmX11_areTicks D T [.int x0] ([] : va_W) (some (.int rR)) ([] : va_W) := by
  refine Ct.of (cc := cX11_areTicks) (maxL := 1) (ret := (some .boolean)) (by decide +kernel) rfl (Nat.le_of_ble_eq_true rfl) ?_
  intro pr en st mi ag bl me co A ls F hr hlk hnm G hl
  have hl : lv_has ls 1 [(0, .int x0)] := hl
  have h := hres
  unfold qX11_areTicks at h
  refine lv_iload_n F.1 F.2.1 dX11_areTicks_0 rfl (lv_at hl 0 rfl) ?_
  refine lv_i2l (v := x0.toInt64) F.1 F.2.1 dX11_areTicks_1 rfl ?_
  refine lv_lconst (v := 1) F.1 F.2.1 dX11_areTicks_2 (by decide) ?_
  refine lv_ldc2 (v := 500) F.1 F.2.1 F.2.2.2.1 (F.2.2.2.2 _ kl1023) dX11_areTicks_3 ?_
  obtain ⟨r_1, hc, h⟩ := op_b h
  refine k_callS (rv := (some (.int r_1))) (Wc := ([] : va_W)) (W2 := ([] : va_W)) (Wn := ([] : va_W)) (As := [.long x0.toInt64, .long 1, .long 500]) (rest := []) F G (mX11_isIn l D T x0.toInt64 1 500 hc) (va_cwS 3 F.2.2.2.2 (kg_c kl813 (kg_c kl814 (kg_c kl788 (kg_c kl805 kg_a)))) rfl rfl rfl (by decide +kernel) ⟨Nat.le_of_ble_eq_true rfl, Nat.le_of_ble_eq_true rfl⟩) (kCut_0 G) rfl hl.1 rfl (Nat.le_of_ble_eq_true rfl) dX11_areTicks_6 ⟨Nat.le_of_ble_eq_true rfl, Nat.le_of_ble_eq_true rfl⟩ (cN := 0) (sN := 0) ⟨rfl, rfl⟩ (fun H locs G => ?_)
  obtain ⟨c, h⟩ := op_g h
  obtain rfl := op_1 h
  exact k_zret F hr c hlk G dX11_areTicks_9
abbrev rmX11_isSlot : Room := ({ frames := 1, cells := 0, slots := 0, locals := 25 } : Room)
noncomputable def qX11_isSlot (x0 : Int32) : Option (Int32) :=
  bd (qX11_isIn x0.toInt64 0 1) fun r_1 => gd (narrow .boolean (.int r_1) = .int r_1) (some r_1)

set_option maxHeartbeats 4000000 in
set_option maxRecDepth 100000 in
theorem mX11_isSlot (l : Launch) (D : va_G) (T : Nat → ClassId) (x0 : Int32) {rR : Int32} (hres : qX11_isSlot x0 = some (rR)) : Ct l yX11_isSlot (Cond.code yX11_isSlot cX11_isSlot 1 (some .boolean) :: kAll) rmX11_isSlot D T [.int x0] ([] : va_W) (some (.int rR)) ([] : va_W) := by
  refine Ct.of (cc := cX11_isSlot) (maxL := 1) (ret := (some .boolean)) (by decide +kernel) rfl (Nat.le_of_ble_eq_true rfl) ?_
  intro pr en st mi ag bl me co A ls F hr hlk hnm G hl
  have hl : lv_has ls 1 [(0, .int x0)] := hl
  have h := hres
  unfold qX11_isSlot at h
  refine lv_iload_n F.1 F.2.1 dX11_isSlot_0 rfl (lv_at hl 0 rfl) ?_
  refine lv_i2l (v := x0.toInt64) F.1 F.2.1 dX11_isSlot_1 rfl ?_
  refine lv_lconst (v := 0) F.1 F.2.1 dX11_isSlot_2 (by decide) ?_
  refine lv_lconst (v := 1) F.1 F.2.1 dX11_isSlot_3 (by decide) ?_
  obtain ⟨r_1, hc, h⟩ := op_b h
  refine k_callS (rv := (some (.int r_1))) (Wc := ([] : va_W)) (W2 := ([] : va_W)) (Wn := ([] : va_W)) (As := [.long x0.toInt64, .long 0, .long 1]) (rest := []) F G (mX11_isIn l D T x0.toInt64 0 1 hc) (va_cwS 3 F.2.2.2.2 (kg_c kl813 (kg_c kl814 (kg_c kl788 (kg_c kl805 kg_a)))) rfl rfl rfl (by decide +kernel) ⟨Nat.le_of_ble_eq_true rfl, Nat.le_of_ble_eq_true rfl⟩) (kCut_0 G) rfl hl.1 rfl (Nat.le_of_ble_eq_true rfl) dX11_isSlot_4 ⟨Nat.le_of_ble_eq_true rfl, Nat.le_of_ble_eq_true rfl⟩ (cN := 0) (sN := 0) ⟨rfl, rfl⟩ (fun H locs G => ?_)
  obtain ⟨c, h⟩ := op_g h
  obtain rfl := op_1 h
  exact k_zret F hr c hlk G dX11_isSlot_7
abbrev rmX11_whichOf : Room := ({ frames := 0, cells := 0, slots := 0, locals := 0 } : Room)
noncomputable def qX11_whichOf_L15 (nn : Nat) (n2 : Nat) (f : Nat → Int32) (f2 : Nat → Int32) (x1_5 : Int32) (x3_6 : Int32) (x4_7 : Int32) (x5_8 : Int32) (K : Int32 → Option (Int32)) : Nat → Int32 → Int32 → Option (Int32)
  | 0, _, _ => none
  | n + 1, x6_9, x7_10 =>
    if 8 ≤ x7_10 then (K x6_9) else (jn (fun (y_12 : Int32) => (qX11_whichOf_L15 nn n2 f f2 x1_5 x3_6 x4_7 x5_8 K n y_12 (x7_10 + 1))) fun j64 => jn (fun (_ : Unit) => (j64 0)) fun j63 => if x6_9 = 0 then (j63 ()) else gd (vp_in ((8 * x5_8) + x7_10) nn) ((jn (fun (y_13 : Int32) => if (f ((8 * x5_8) + x7_10).toNatClampNeg) = y_13 then (j64 1) else (j63 ())) fun j56 => if x4_7 ≤ (x3_6 + x7_10) then (j56 0) else gd (vp_in (x3_6 + x7_10) n2) ((j56 (f2 (x3_6 + x7_10).toNatClampNeg))))))

noncomputable def qX11_whichOf_L3 (nn : Nat) (n2 : Nat) (f : Nat → Int32) (f2 : Nat → Int32) (x1_1 : Int32) (x3_2 : Int32) (x4_3 : Int32) (K : Unit → Option (Int32)) : Nat → Int32 → Option (Int32)
  | 0, _ => none
  | n + 1, x5_4 =>
    if x1_1 ≤ x5_4 then (K ()) else (qX11_whichOf_L15 nn n2 f f2 x1_1 x3_2 x4_3 x5_4 (fun (x6_11 : Int32) => if x6_11 = 0 then (qX11_whichOf_L3 nn n2 f f2 x1_1 x3_2 x4_3 K n (x5_4 + 1)) else some x5_4) fu 1 0 )

noncomputable def qX11_whichOf (nn : Nat) (n2 : Nat) (f : Nat → Int32) (f2 : Nat → Int32) (x1 : Int32) (x3 : Int32) (x4 : Int32) : Option (Int32) :=
  (qX11_whichOf_L3 nn n2 f f2 x1 x3 x4 (fun (_u : Unit) => some (-1)) fu 0 )

set_option maxHeartbeats 4000000 in
set_option maxRecDepth 100000 in
theorem mX11_whichOf (l : Launch) (D : va_G) (T : Nat → ClassId) (aA : Nat) (aB : Nat) (nn : Nat) (n2 : Nat) (f : Nat → Int32) (f2 : Nat → Int32) (x1 : Int32) (x3 : Int32) (x4 : Int32) {rR : Int32} (hres : qX11_whichOf nn n2 f f2 x1 x3 x4 = some (rR)) : Ct l yX11_whichOf (Cond.code yX11_whichOf cX11_whichOf 8 (some .int) :: kAll) rmX11_whichOf D T [.ref aA, .int x1, .ref aB, .int x3, .int x4] (gFW T aA aB nn n2 f f2) (some (.int rR)) (gFW T aA aB nn n2 f f2) := by
  refine Ct.of (cc := cX11_whichOf) (maxL := 8) (ret := (some .int)) (by decide +kernel) rfl (Nat.le_of_ble_eq_true rfl) ?_
  intro pr en st mi ag bl me co A ls F hr hlk hnm G hl
  have hl : lv_has ls 8 [(0, .ref aA), (1, .int x1), (2, .ref aB), (3, .int x3), (4, .int x4)] := hl
  have h := hres
  unfold qX11_whichOf at h
  refine lv_iconst (v := 0) F.1 F.2.1 dX11_whichOf_0 (by decide) ?_
  refine lv_istore (lv' := [(5, .int 0), (0, .ref aA), (1, .int x1), (2, .ref aB), (3, .int x3), (4, .int x4)]) F.1 F.2.1 dX11_whichOf_1 hl (by decide) rfl (fun ls hl => ?_)
  have L3 : ∀ (nn : Nat) (n2 : Nat) (f : Nat → Int32) (f2 : Nat → Int32) (x1_1 : Int32) (x3_2 : Int32) (x4_3 : Int32) (K : Unit → Option (Int32)) (hK : ∀ (_u : Unit) (H : Heap) (locs : List Loc) (ls : Array Slot), K _u = some (rR) → Rg D T A st (gFW T aA aB nn n2 f f2) H locs → lv_has ls 8 [] → W pr l en rmX11_whichOf st mi ag bl me co H locs 0 0 (MQ bl (kQ (some (.int rR)) D (gFW T aA aB nn n2 f f2) A) ag st rmX11_whichOf.cells rmX11_whichOf.slots A) (F0 mi 86 ls [])) (n : Nat) (x5_4 : Int32) (H : Heap) (locs : List Loc) (ls : Array Slot), qX11_whichOf_L3 nn n2 f f2 x1_1 x3_2 x4_3 K n x5_4 = some (rR) → Rg D T A st (gFW T aA aB nn n2 f f2) H locs → lv_has ls 8 [(0, .ref aA), (1, .int x1_1), (2, .ref aB), (3, .int x3_2), (4, .int x4_3), (5, .int x5_4)] → W pr l en rmX11_whichOf st mi ag bl me co H locs 0 0 (MQ bl (kQ (some (.int rR)) D (gFW T aA aB nn n2 f f2) A) ag st rmX11_whichOf.cells rmX11_whichOf.slots A) (F0 mi 3 ls []) := by
    intro nn n2 f f2 x1_1 x3_2 x4_3 K hK n
    induction n with
    | zero => intro x5_4 H locs ls h; exact op_n h
    | succ n ih =>
      intro x5_4 H locs ls h G hl
      rw [qX11_whichOf_L3] at h
      refine lv_iload F.1 F.2.1 dX11_whichOf_3 (lv_at hl 5 rfl) ?_
      refine lv_iload_n F.1 F.2.1 dX11_whichOf_5 rfl (lv_at hl 1 rfl) ?_
      refine lv_icmp_ge (tgt := 86) F.1 F.2.1 dX11_whichOf_6 (by decide) (fun c => ?_) (fun c => ?_)
      · have h := op_t h c
        exact hK () _ _ _ h G (lv_sub hl [] rfl)
      · have h := op_f h c
        refine lv_iconst (v := 1) F.1 F.2.1 dX11_whichOf_9 (by decide) ?_
        refine lv_istore (lv' := [(6, .int 1), (0, .ref aA), (1, .int x1_1), (2, .ref aB), (3, .int x3_2), (4, .int x4_3), (5, .int x5_4)]) F.1 F.2.1 dX11_whichOf_10 hl (by decide) rfl (fun ls hl => ?_)
        refine lv_iconst (v := 0) F.1 F.2.1 dX11_whichOf_12 (by decide) ?_
        refine lv_istore (lv' := [(7, .int 0), (6, .int 1), (0, .ref aA), (1, .int x1_1), (2, .ref aB), (3, .int x3_2), (4, .int x4_3), (5, .int x5_4)]) F.1 F.2.1 dX11_whichOf_13 hl (by decide) rfl (fun ls hl => ?_)
        have L15 : ∀ (nn : Nat) (n2 : Nat) (f : Nat → Int32) (f2 : Nat → Int32) (x1_5 : Int32) (x3_6 : Int32) (x4_7 : Int32) (x5_8 : Int32) (K : Int32 → Option (Int32)) (hK : ∀ (x6_11 : Int32) (H : Heap) (locs : List Loc) (ls : Array Slot), K x6_11 = some (rR) → Rg D T A st (gFW T aA aB nn n2 f f2) H locs → lv_has ls 8 [(0, .ref aA), (1, .int x1_5), (2, .ref aB), (3, .int x3_6), (4, .int x4_7), (5, .int x5_8), (6, .int x6_11)] → W pr l en rmX11_whichOf st mi ag bl me co H locs 0 0 (MQ bl (kQ (some (.int rR)) D (gFW T aA aB nn n2 f f2) A) ag st rmX11_whichOf.cells rmX11_whichOf.slots A) (F0 mi 72 ls [])) (n : Nat) (x6_9 : Int32) (x7_10 : Int32) (H : Heap) (locs : List Loc) (ls : Array Slot), qX11_whichOf_L15 nn n2 f f2 x1_5 x3_6 x4_7 x5_8 K n x6_9 x7_10 = some (rR) → Rg D T A st (gFW T aA aB nn n2 f f2) H locs → lv_has ls 8 [(0, .ref aA), (1, .int x1_5), (2, .ref aB), (3, .int x3_6), (4, .int x4_7), (5, .int x5_8), (6, .int x6_9), (7, .int x7_10)] → W pr l en rmX11_whichOf st mi ag bl me co H locs 0 0 (MQ bl (kQ (some (.int rR)) D (gFW T aA aB nn n2 f f2) A) ag st rmX11_whichOf.cells rmX11_whichOf.slots A) (F0 mi 15 ls []) := by
          intro nn n2 f f2 x1_5 x3_6 x4_7 x5_8 K hK n
          induction n with
          | zero => intro x6_9 x7_10 H locs ls h; exact op_n h
          | succ n ih =>
            intro x6_9 x7_10 H locs ls h G hl
            rw [qX11_whichOf_L15] at h
            refine lv_iload F.1 F.2.1 dX11_whichOf_15 (lv_at hl 7 rfl) ?_
            refine lv_bipush (v := 8) F.1 F.2.1 dX11_whichOf_17 (by decide) ?_
            refine lv_icmp_ge (tgt := 72) F.1 F.2.1 dX11_whichOf_19 (by decide) (fun c => ?_) (fun c => ?_)
            · have h := op_t h c
              exact hK x6_9 _ _ _ h G (lv_sub hl [0, 1, 2, 3, 4, 5, 6] rfl)
            · have h := op_f h c
              refine lv_iload F.1 F.2.1 dX11_whichOf_22 (lv_at hl 6 rfl) ?_
              obtain ⟨j64, hj64, h⟩ := op_j h
              have J64 : ∀ (y_12 : Int32) (H : Heap) (locs : List Loc) (ls : Array Slot), j64 y_12 = some (rR) → Rg D T A st (gFW T aA aB nn n2 f f2) H locs → lv_has ls 8 [(0, .ref aA), (1, .int x1_5), (2, .ref aB), (3, .int x3_6), (4, .int x4_7), (5, .int x5_8), (7, .int x7_10)] → W pr l en rmX11_whichOf st mi ag bl me co H locs 0 0 (MQ bl (kQ (some (.int rR)) D (gFW T aA aB nn n2 f f2) A) ag st rmX11_whichOf.cells rmX11_whichOf.slots A) (F0 mi 64 ls [.int y_12]) := by
                intro y_12 H locs ls h G hl
                rw [hj64] at h
                refine lv_istore (lv' := [(6, .int y_12), (0, .ref aA), (1, .int x1_5), (2, .ref aB), (3, .int x3_6), (4, .int x4_7), (5, .int x5_8), (7, .int x7_10)]) F.1 F.2.1 dX11_whichOf_64 hl (by decide) rfl (fun ls hl => ?_)
                refine lv_iinc (v := (x7_10 + 1)) (lv' := [(7, .int (x7_10 + 1)), (6, .int y_12), (0, .ref aA), (1, .int x1_5), (2, .ref aB), (3, .int x3_6), (4, .int x4_7), (5, .int x5_8)]) F.1 F.2.1 dX11_whichOf_66 hl (k := 7) rfl rfl (by decide) rfl (fun ls hl => ?_)
                refine lv_goto (tgt := 15) F.1 F.2.1 dX11_whichOf_69 (by decide) ?_
                exact ih y_12 (x7_10 + 1) _ _ _ h G (lv_sub hl [2, 3, 4, 5, 6, 7, 1, 0] rfl)
              clear hj64
              obtain ⟨j63, hj63, h⟩ := op_j h
              have J63 : ∀ (H : Heap) (locs : List Loc) (ls : Array Slot), j63 () = some (rR) → Rg D T A st (gFW T aA aB nn n2 f f2) H locs → lv_has ls 8 [(0, .ref aA), (1, .int x1_5), (2, .ref aB), (3, .int x3_6), (4, .int x4_7), (5, .int x5_8), (7, .int x7_10)] → W pr l en rmX11_whichOf st mi ag bl me co H locs 0 0 (MQ bl (kQ (some (.int rR)) D (gFW T aA aB nn n2 f f2) A) ag st rmX11_whichOf.cells rmX11_whichOf.slots A) (F0 mi 63 ls []) := by
                intro H locs ls h G hl
                rw [hj63] at h
                refine lv_iconst (v := 0) F.1 F.2.1 dX11_whichOf_63 (by decide) ?_
                exact J64 0 _ _ _ h G hl
              clear hj63
              refine lv_if_eq (tgt := 63) F.1 F.2.1 dX11_whichOf_24 (by decide) (fun c => ?_) (fun c => ?_)
              · have h := op_t h c
                exact J63 _ _ _ h G (lv_sub hl [0, 1, 2, 3, 4, 5, 7] rfl)
              · have h := op_f h c
                refine lv_aload_n F.1 F.2.1 dX11_whichOf_27 rfl (lv_at hl 0 rfl) ?_
                refine lv_bipush (v := 8) F.1 F.2.1 dX11_whichOf_28 (by decide) ?_
                refine lv_iload F.1 F.2.1 dX11_whichOf_30 (lv_at hl 5 rfl) ?_
                refine lv_imul F.1 F.2.1 dX11_whichOf_32 ?_
                refine lv_iload F.1 F.2.1 dX11_whichOf_33 (lv_at hl 7 rfl) ?_
                refine lv_iadd F.1 F.2.1 dX11_whichOf_35 ?_
                obtain ⟨c, h⟩ := op_g h
                refine k_iald F G 0 rfl c dX11_whichOf_36 ?_
                refine lv_iload_n F.1 F.2.1 dX11_whichOf_37 rfl (lv_at hl 3 rfl) ?_
                refine lv_iload F.1 F.2.1 dX11_whichOf_38 (lv_at hl 7 rfl) ?_
                refine lv_iadd F.1 F.2.1 dX11_whichOf_40 ?_
                refine lv_iload F.1 F.2.1 dX11_whichOf_41 (lv_at hl 4 rfl) ?_
                obtain ⟨j56, hj56, h⟩ := op_j h
                have J56 : ∀ (y_13 : Int32) (H : Heap) (locs : List Loc) (ls : Array Slot), j56 y_13 = some (rR) → Rg D T A st (gFW T aA aB nn n2 f f2) H locs → lv_has ls 8 [(0, .ref aA), (1, .int x1_5), (2, .ref aB), (3, .int x3_6), (4, .int x4_7), (5, .int x5_8), (7, .int x7_10)] → W pr l en rmX11_whichOf st mi ag bl me co H locs 0 0 (MQ bl (kQ (some (.int rR)) D (gFW T aA aB nn n2 f f2) A) ag st rmX11_whichOf.cells rmX11_whichOf.slots A) (F0 mi 56 ls [.int y_13, .int (f ((8 * x5_8) + x7_10).toNatClampNeg)]) := by
                  intro y_13 H locs ls h G hl
                  rw [hj56] at h
                  refine lv_icmp_ne (tgt := 63) F.1 F.2.1 dX11_whichOf_56 (by decide) (fun c => ?_) (fun c => ?_)
                  · have h := op_f h c
                    exact J63 _ _ _ h G hl
                  · have h := op_t h c
                    refine lv_iconst (v := 1) F.1 F.2.1 dX11_whichOf_59 (by decide) ?_
                    refine lv_goto (tgt := 64) F.1 F.2.1 dX11_whichOf_60 (by decide) ?_
                    exact J64 1 _ _ _ h G hl
                clear hj56
                refine lv_icmp_ge (tgt := 55) F.1 F.2.1 dX11_whichOf_43 (by decide) (fun c => ?_) (fun c => ?_)
                · have h := op_t h c
                  refine lv_iconst (v := 0) F.1 F.2.1 dX11_whichOf_55 (by decide) ?_
                  exact J56 0 _ _ _ h G (lv_sub hl [0, 1, 2, 3, 4, 5, 7] rfl)
                · have h := op_f h c
                  refine lv_aload_n F.1 F.2.1 dX11_whichOf_46 rfl (lv_at hl 2 rfl) ?_
                  refine lv_iload_n F.1 F.2.1 dX11_whichOf_47 rfl (lv_at hl 3 rfl) ?_
                  refine lv_iload F.1 F.2.1 dX11_whichOf_48 (lv_at hl 7 rfl) ?_
                  refine lv_iadd F.1 F.2.1 dX11_whichOf_50 ?_
                  obtain ⟨c, h⟩ := op_g h
                  refine k_iald F G 1 rfl c dX11_whichOf_51 ?_
                  refine lv_goto (tgt := 56) F.1 F.2.1 dX11_whichOf_52 (by decide) ?_
                  exact J56 (f2 (x3_6 + x7_10).toNatClampNeg) _ _ _ h G (lv_sub hl [0, 1, 2, 3, 4, 5, 7] rfl)
        refine L15 nn n2 f f2 x1_1 x3_2 x4_3 x5_4 _ (fun x6_11 H locs ls h G hl => ?_) fu 1 0  _ _ _ h G (lv_sub hl [2, 3, 4, 5, 6, 7, 1, 0] rfl)
        clear L15
        refine lv_iload F.1 F.2.1 dX11_whichOf_72 (lv_at hl 6 rfl) ?_
        refine lv_if_eq (tgt := 80) F.1 F.2.1 dX11_whichOf_74 (by decide) (fun c => ?_) (fun c => ?_)
        · have h := op_t h c
          refine lv_iinc (v := (x5_4 + 1)) (lv' := [(5, .int (x5_4 + 1)), (0, .ref aA), (1, .int x1_1), (2, .ref aB), (3, .int x3_2), (4, .int x4_3), (6, .int x6_11)]) F.1 F.2.1 dX11_whichOf_80 hl (k := 5) rfl rfl (by decide) rfl (fun ls hl => ?_)
          refine lv_goto (tgt := 3) F.1 F.2.1 dX11_whichOf_83 (by decide) ?_
          exact ih (x5_4 + 1) _ _ _ h G (lv_sub hl [1, 2, 3, 4, 5, 0] rfl)
        · have h := op_f h c
          refine lv_iload F.1 F.2.1 dX11_whichOf_77 (lv_at hl 5 rfl) ?_
          obtain rfl := op_1 h
          exact k_iret F hr hlk G dX11_whichOf_79
  refine L3 nn n2 f f2 x1 x3 x4 _ (fun _u H locs ls h G hl => ?_) fu 0  _ _ _ h G (lv_sub hl [1, 2, 3, 4, 5, 0] rfl)
  clear L3
  refine lv_iconst (v := (-1)) F.1 F.2.1 dX11_whichOf_86 (by decide) ?_
  obtain rfl := op_1 h
  exact k_iret F hr hlk G dX11_whichOf_87
abbrev rmX11_steady : Room := ({ frames := 0, cells := 0, slots := 0, locals := 0 } : Room)
noncomputable def qX11_steady (z : Nat → Nat → Int32) (rw : Nat → Int32) (x1 : Int32) : Option (Int32) :=
  gd (vp_in (4 * x1) 48) (some ((z 5) (4 * x1).toNatClampNeg))

set_option maxHeartbeats 4000000 in
set_option maxRecDepth 100000 in
theorem mX11_steady (l : Launch) (D : va_G) (T : Nat → ClassId) (aM : Nat → Nat) (aA : Nat) (z : Nat → Nat → Int32) (rw : Nat → Int32) (x1 : Int32) {rR : Int32} (hres : qX11_steady z rw x1 = some (rR)) : Ct l yX11_steady (Cond.code yX11_steady cX11_steady 2 (some .int) :: kAll) rmX11_steady D T [.ref (aM 0), .int x1] (gMR T aM aA z rw) (some (.int rR)) (gMR T aM aA z rw) := by
  refine Ct.of (cc := cX11_steady) (maxL := 2) (ret := (some .int)) (by decide +kernel) rfl (Nat.le_of_ble_eq_true rfl) ?_
  intro pr en st mi ag bl me co A ls F hr hlk hnm G hl
  have hl : lv_has ls 2 [(0, .ref (aM 0)), (1, .int x1)] := hl
  have h := hres
  unfold qX11_steady at h
  refine lv_aload_n F.1 F.2.1 dX11_steady_0 rfl (lv_at hl 0 rfl) ?_
  refine k_get F G 0 rfl (N := 35) (Tt := TX11) rfl kf11 5 (by decide) kl773 (v := .ref (aM 1)) rfl dX11_steady_1 ?_
  refine lv_iconst (v := 4) F.1 F.2.1 dX11_steady_4 (by decide) ?_
  refine lv_iload_n F.1 F.2.1 dX11_steady_5 rfl (lv_at hl 1 rfl) ?_
  refine lv_imul F.1 F.2.1 dX11_steady_6 ?_
  obtain ⟨c, h⟩ := op_g h
  refine k_iald F G 1 rfl c dX11_steady_7 ?_
  obtain rfl := op_1 h
  exact k_iret F hr hlk G dX11_steady_8
abbrev rmX11_inrush : Room := ({ frames := 0, cells := 0, slots := 0, locals := 0 } : Room)
noncomputable def qX11_inrush (z : Nat → Nat → Int32) (rw : Nat → Int32) (x1 : Int32) : Option (Int32) :=
  gd (vp_in ((4 * x1) + 1) 48) (some ((z 5) ((4 * x1) + 1).toNatClampNeg))

set_option maxHeartbeats 4000000 in
set_option maxRecDepth 100000 in
theorem mX11_inrush (l : Launch) (D : va_G) (T : Nat → ClassId) (aM : Nat → Nat) (aA : Nat) (z : Nat → Nat → Int32) (rw : Nat → Int32) (x1 : Int32) {rR : Int32} (hres : qX11_inrush z rw x1 = some (rR)) : Ct l yX11_inrush (Cond.code yX11_inrush cX11_inrush 2 (some .int) :: kAll) rmX11_inrush D T [.ref (aM 0), .int x1] (gMR T aM aA z rw) (some (.int rR)) (gMR T aM aA z rw) := by
  refine Ct.of (cc := cX11_inrush) (maxL := 2) (ret := (some .int)) (by decide +kernel) rfl (Nat.le_of_ble_eq_true rfl) ?_
  intro pr en st mi ag bl me co A ls F hr hlk hnm G hl
  have hl : lv_has ls 2 [(0, .ref (aM 0)), (1, .int x1)] := hl
  have h := hres
  unfold qX11_inrush at h
  refine lv_aload_n F.1 F.2.1 dX11_inrush_0 rfl (lv_at hl 0 rfl) ?_
  refine k_get F G 0 rfl (N := 35) (Tt := TX11) rfl kf11 5 (by decide) kl773 (v := .ref (aM 1)) rfl dX11_inrush_1 ?_
  refine lv_iconst (v := 4) F.1 F.2.1 dX11_inrush_4 (by decide) ?_
  refine lv_iload_n F.1 F.2.1 dX11_inrush_5 rfl (lv_at hl 1 rfl) ?_
  refine lv_imul F.1 F.2.1 dX11_inrush_6 ?_
  refine lv_iconst (v := 1) F.1 F.2.1 dX11_inrush_7 (by decide) ?_
  refine lv_iadd F.1 F.2.1 dX11_inrush_8 ?_
  obtain ⟨c, h⟩ := op_g h
  refine k_iald F G 1 rfl c dX11_inrush_9 ?_
  obtain rfl := op_1 h
  exact k_iret F hr hlk G dX11_inrush_10
abbrev rmX11_peak : Room := ({ frames := 0, cells := 0, slots := 0, locals := 0 } : Room)
noncomputable def qX11_peak (z : Nat → Nat → Int32) (rw : Nat → Int32) (x1 : Int32) : Option (Int32) :=
  gd (vp_in ((4 * x1) + 2) 48) (some ((z 5) ((4 * x1) + 2).toNatClampNeg))

set_option maxHeartbeats 4000000 in
set_option maxRecDepth 100000 in
theorem mX11_peak (l : Launch) (D : va_G) (T : Nat → ClassId) (aM : Nat → Nat) (aA : Nat) (z : Nat → Nat → Int32) (rw : Nat → Int32) (x1 : Int32) {rR : Int32} (hres : qX11_peak z rw x1 = some (rR)) : Ct l yX11_peak (Cond.code yX11_peak cX11_peak 2 (some .int) :: kAll) rmX11_peak D T [.ref (aM 0), .int x1] (gMR T aM aA z rw) (some (.int rR)) (gMR T aM aA z rw) := by
  refine Ct.of (cc := cX11_peak) (maxL := 2) (ret := (some .int)) (by decide +kernel) rfl (Nat.le_of_ble_eq_true rfl) ?_
  intro pr en st mi ag bl me co A ls F hr hlk hnm G hl
  have hl : lv_has ls 2 [(0, .ref (aM 0)), (1, .int x1)] := hl
  have h := hres
  unfold qX11_peak at h
  refine lv_aload_n F.1 F.2.1 dX11_peak_0 rfl (lv_at hl 0 rfl) ?_
  refine k_get F G 0 rfl (N := 35) (Tt := TX11) rfl kf11 5 (by decide) kl773 (v := .ref (aM 1)) rfl dX11_peak_1 ?_
  refine lv_iconst (v := 4) F.1 F.2.1 dX11_peak_4 (by decide) ?_
  refine lv_iload_n F.1 F.2.1 dX11_peak_5 rfl (lv_at hl 1 rfl) ?_
  refine lv_imul F.1 F.2.1 dX11_peak_6 ?_
  refine lv_iconst (v := 2) F.1 F.2.1 dX11_peak_7 (by decide) ?_
  refine lv_iadd F.1 F.2.1 dX11_peak_8 ?_
  obtain ⟨c, h⟩ := op_g h
  refine k_iald F G 1 rfl c dX11_peak_9 ?_
  obtain rfl := op_1 h
  exact k_iret F hr hlk G dX11_peak_10
abbrev rmX11_draw : Room := ({ frames := 1, cells := 0, slots := 0, locals := 21 } : Room)
noncomputable def qX11_draw (z : Nat → Nat → Int32) (rw : Nat → Int32) (x2 : Int32) : Option (Int32) :=
  bd (qX11_at x2 2) fun r_1 => gd (vp_in r_1 411) (if (rw r_1.toNatClampNeg) = 2 then bd (qX11_peak z rw x2) fun r_3 => some r_3 else if (rw r_1.toNatClampNeg) = 3 then bd (qX11_steady z rw x2) fun r_2 => some r_2 else some 0)

set_option maxHeartbeats 4000000 in
set_option maxRecDepth 100000 in
theorem mX11_draw (l : Launch) (D : va_G) (T : Nat → ClassId) (aM : Nat → Nat) (aA : Nat) (z : Nat → Nat → Int32) (rw : Nat → Int32) (x2 : Int32) {rR : Int32} (hres : qX11_draw z rw x2 = some (rR)) : Ct l yX11_draw (Cond.code yX11_draw cX11_draw 4 (some .int) :: kAll) rmX11_draw D T [.ref (aM 0), .ref aA, .int x2] (gMR T aM aA z rw) (some (.int rR)) (gMR T aM aA z rw) := by
  refine Ct.of (cc := cX11_draw) (maxL := 4) (ret := (some .int)) (by decide +kernel) rfl (Nat.le_of_ble_eq_true rfl) ?_
  intro pr en st mi ag bl me co A ls F hr hlk hnm G hl
  have hl : lv_has ls 4 [(0, .ref (aM 0)), (1, .ref aA), (2, .int x2)] := hl
  have h := hres
  unfold qX11_draw at h
  refine lv_aload_n F.1 F.2.1 dX11_draw_0 rfl (lv_at hl 1 rfl) ?_
  refine lv_iload_n F.1 F.2.1 dX11_draw_1 rfl (lv_at hl 2 rfl) ?_
  refine lv_iconst (v := 2) F.1 F.2.1 dX11_draw_2 (by decide) ?_
  obtain ⟨r_1, hc, h⟩ := op_b h
  refine k_callS (rv := (some (.int r_1))) (Wc := ([] : va_W)) (W2 := ([] : va_W)) (Wn := (gMR T aM aA z rw)) (As := [.int x2, .int 2]) (rest := [.ref aA]) F G (mX11_at l D T x2 2 hc) (va_cwS 2 F.2.2.2.2 (kg_c kl786 (kg_c kl787 (kg_c kl788 (kg_c kl767 kg_a)))) rfl rfl rfl (by decide +kernel) ⟨Nat.le_of_ble_eq_true rfl, Nat.le_of_ble_eq_true rfl⟩) (kCut_0 G) rfl hl.1 rfl (Nat.le_of_ble_eq_true rfl) dX11_draw_3 ⟨Nat.le_of_ble_eq_true rfl, Nat.le_of_ble_eq_true rfl⟩ (cN := 0) (sN := 0) ⟨rfl, rfl⟩ (fun H locs G => ?_)
  obtain ⟨c, h⟩ := op_g h
  refine k_iald F G 5 rfl c dX11_draw_6 ?_
  refine lv_istore_n (lv' := [(3, .int (rw r_1.toNatClampNeg)), (0, .ref (aM 0)), (1, .ref aA), (2, .int x2)]) F.1 F.2.1 dX11_draw_7 rfl hl (by decide) rfl (fun ls hl => ?_)
  refine lv_iload_n F.1 F.2.1 dX11_draw_8 rfl (lv_at hl 0 rfl) ?_
  refine lv_iconst (v := 2) F.1 F.2.1 dX11_draw_9 (by decide) ?_
  refine lv_icmp_ne (tgt := 21) F.1 F.2.1 dX11_draw_10 (by decide) (fun c => ?_) (fun c => ?_)
  · have h := op_f h c
    refine lv_iload_n F.1 F.2.1 dX11_draw_21 rfl (lv_at hl 0 rfl) ?_
    refine lv_iconst (v := 3) F.1 F.2.1 dX11_draw_22 (by decide) ?_
    refine lv_icmp_ne (tgt := 34) F.1 F.2.1 dX11_draw_23 (by decide) (fun c => ?_) (fun c => ?_)
    · have h := op_f h c
      refine lv_iconst (v := 0) F.1 F.2.1 dX11_draw_34 (by decide) ?_
      obtain rfl := op_1 h
      exact k_iret F hr hlk G dX11_draw_35
    · have h := op_t h c
      refine lv_aload_n F.1 F.2.1 dX11_draw_26 rfl (lv_at hl 1 rfl) ?_
      refine lv_iload_n F.1 F.2.1 dX11_draw_27 rfl (lv_at hl 3 rfl) ?_
      obtain ⟨r_2, hc, h⟩ := op_b h
      refine k_callV (rv := (some (.int r_2))) (Wc := (gMR T aM aA z rw)) (W2 := (gMR T aM aA z rw)) (Wn := (gMR T aM aA z rw)) (As := [.int x2]) (rest := []) F G (mX11_steady l D T aM aA z rw x2 hc) (cwV 1 F.2.2.2.2 (kg_c kl902 (kg_c kl903 (kg_c kl904 (kg_c kl788 (kg_c kl895 kg_a))))) rfl rfl rfl (by decide +kernel) ⟨Nat.le_of_ble_eq_true rfl, Nat.le_of_ble_eq_true rfl⟩) 0 rfl (q := (RX11, TX11, 35)) rfl rfl (kCut_F G) rfl hl.1 rfl (Nat.le_of_ble_eq_true rfl) dX11_draw_28 ⟨Nat.le_of_ble_eq_true rfl, Nat.le_of_ble_eq_true rfl⟩ (cN := 0) (sN := 0) ⟨rfl, rfl⟩ (fun H locs G => ?_)
      refine lv_goto (tgt := 35) F.1 F.2.1 dX11_draw_31 (by decide) ?_
      obtain rfl := op_1 h
      exact k_iret F hr hlk G dX11_draw_35
  · have h := op_t h c
    refine lv_aload_n F.1 F.2.1 dX11_draw_13 rfl (lv_at hl 1 rfl) ?_
    refine lv_iload_n F.1 F.2.1 dX11_draw_14 rfl (lv_at hl 3 rfl) ?_
    obtain ⟨r_3, hc, h⟩ := op_b h
    refine k_callV (rv := (some (.int r_3))) (Wc := (gMR T aM aA z rw)) (W2 := (gMR T aM aA z rw)) (Wn := (gMR T aM aA z rw)) (As := [.int x2]) (rest := []) F G (mX11_peak l D T aM aA z rw x2 hc) (cwV 1 F.2.2.2.2 (kg_c kl899 (kg_c kl900 (kg_c kl901 (kg_c kl788 (kg_c kl897 kg_a))))) rfl rfl rfl (by decide +kernel) ⟨Nat.le_of_ble_eq_true rfl, Nat.le_of_ble_eq_true rfl⟩) 0 rfl (q := (RX11, TX11, 35)) rfl rfl (kCut_F G) rfl hl.1 rfl (Nat.le_of_ble_eq_true rfl) dX11_draw_15 ⟨Nat.le_of_ble_eq_true rfl, Nat.le_of_ble_eq_true rfl⟩ (cN := 0) (sN := 0) ⟨rfl, rfl⟩ (fun H locs G => ?_)
    refine lv_goto (tgt := 35) F.1 F.2.1 dX11_draw_18 (by decide) ?_
    obtain rfl := op_1 h
    exact k_iret F hr hlk G dX11_draw_35
abbrev rmX11_drawn : Room := ({ frames := 2, cells := 0, slots := 0, locals := 44 } : Room)
noncomputable def qX11_drawn_L4 (z : Nat → Nat → Int32) (rw : Nat → Int32) (K : Int32 → Option (Int32)) : Nat → Int32 → Int32 → Option (Int32)
  | 0, _, _ => none
  | n + 1, x2_1, x3_2 =>
    if (z 1 0) ≤ x3_2 then (K x2_1) else bd (qX11_draw z rw x3_2) fun r_4 => (qX11_drawn_L4 z rw K n (x2_1 + r_4) (x3_2 + 1))

noncomputable def qX11_drawn (z : Nat → Nat → Int32) (rw : Nat → Int32) : Option (Int32) :=
  (qX11_drawn_L4 z rw  (fun (x2_3 : Int32) => some x2_3) fu 0 0 )

set_option maxHeartbeats 4000000 in
set_option maxRecDepth 100000 in
theorem mX11_drawn (l : Launch) (D : va_G) (T : Nat → ClassId) (aM : Nat → Nat) (aA : Nat) (z : Nat → Nat → Int32) (rw : Nat → Int32) {rR : Int32} (hres : qX11_drawn z rw = some (rR)) : Ct l yX11_drawn (Cond.code yX11_drawn cX11_drawn 4 (some .int) :: kAll) rmX11_drawn D T [.ref (aM 0), .ref aA] (gMR T aM aA z rw) (some (.int rR)) (gMR T aM aA z rw) := by
  refine Ct.of (cc := cX11_drawn) (maxL := 4) (ret := (some .int)) (by decide +kernel) rfl (Nat.le_of_ble_eq_true rfl) ?_
  intro pr en st mi ag bl me co A ls F hr hlk hnm G hl
  have hl : lv_has ls 4 [(0, .ref (aM 0)), (1, .ref aA)] := hl
  have h := hres
  unfold qX11_drawn at h
  refine lv_iconst (v := 0) F.1 F.2.1 dX11_drawn_0 (by decide) ?_
  refine lv_istore_n (lv' := [(2, .int 0), (0, .ref (aM 0)), (1, .ref aA)]) F.1 F.2.1 dX11_drawn_1 rfl hl (by decide) rfl (fun ls hl => ?_)
  refine lv_iconst (v := 0) F.1 F.2.1 dX11_drawn_2 (by decide) ?_
  refine lv_istore_n (lv' := [(3, .int 0), (2, .int 0), (0, .ref (aM 0)), (1, .ref aA)]) F.1 F.2.1 dX11_drawn_3 rfl hl (by decide) rfl (fun ls hl => ?_)
  have L4 : ∀ (z : Nat → Nat → Int32) (rw : Nat → Int32) (K : Int32 → Option (Int32)) (hK : ∀ (x2_3 : Int32) (H : Heap) (locs : List Loc) (ls : Array Slot), K x2_3 = some (rR) → Rg D T A st (gMR T aM aA z rw) H locs → lv_has ls 4 [(2, .int x2_3)] → W pr l en rmX11_drawn st mi ag bl me co H locs 0 0 (MQ bl (kQ (some (.int rR)) D (gMR T aM aA z rw) A) ag st rmX11_drawn.cells rmX11_drawn.slots A) (F0 mi 27 ls [])) (n : Nat) (x2_1 : Int32) (x3_2 : Int32) (H : Heap) (locs : List Loc) (ls : Array Slot), qX11_drawn_L4 z rw K n x2_1 x3_2 = some (rR) → Rg D T A st (gMR T aM aA z rw) H locs → lv_has ls 4 [(0, .ref (aM 0)), (1, .ref aA), (2, .int x2_1), (3, .int x3_2)] → W pr l en rmX11_drawn st mi ag bl me co H locs 0 0 (MQ bl (kQ (some (.int rR)) D (gMR T aM aA z rw) A) ag st rmX11_drawn.cells rmX11_drawn.slots A) (F0 mi 4 ls []) := by
    intro z rw K hK n
    induction n with
    | zero => intro x2_1 x3_2 H locs ls h; exact op_n h
    | succ n ih =>
      intro x2_1 x3_2 H locs ls h G hl
      rw [qX11_drawn_L4] at h
      refine lv_iload_n F.1 F.2.1 dX11_drawn_4 rfl (lv_at hl 3 rfl) ?_
      refine lv_aload_n F.1 F.2.1 dX11_drawn_5 rfl (lv_at hl 0 rfl) ?_
      refine k_get F G 0 rfl (N := 35) (Tt := TX11) rfl kf11 1 (by decide) kl769 (v := .int (z 1 0)) rfl dX11_drawn_6 ?_
      refine lv_icmp_ge (tgt := 27) F.1 F.2.1 dX11_drawn_9 (by decide) (fun c => ?_) (fun c => ?_)
      · have h := op_t h c
        exact hK x2_1 _ _ _ h G (lv_sub hl [2] rfl)
      · have h := op_f h c
        refine lv_iload_n F.1 F.2.1 dX11_drawn_12 rfl (lv_at hl 2 rfl) ?_
        refine lv_aload_n F.1 F.2.1 dX11_drawn_13 rfl (lv_at hl 0 rfl) ?_
        refine lv_aload_n F.1 F.2.1 dX11_drawn_14 rfl (lv_at hl 1 rfl) ?_
        refine lv_iload_n F.1 F.2.1 dX11_drawn_15 rfl (lv_at hl 3 rfl) ?_
        obtain ⟨r_4, hc, h⟩ := op_b h
        refine k_callV (rv := (some (.int r_4))) (Wc := (gMR T aM (aA) z rw)) (W2 := (gMR T aM (aA) z rw)) (Wn := (gMR T aM aA z rw)) (As := [.ref aA, .int x3_2]) (rest := [.int x2_1]) F G (mX11_draw l D T aM (aA) z rw x3_2 hc) (cwV 2 F.2.2.2.2 (kg_c kl906 (kg_c kl907 (kg_c kl908 (kg_c kl788 (kg_c kl898 kg_a))))) rfl rfl rfl (by decide +kernel) ⟨Nat.le_of_ble_eq_true rfl, Nat.le_of_ble_eq_true rfl⟩) 0 rfl (q := (RX11, TX11, 35)) rfl rfl (kCut_F G) rfl hl.1 rfl (Nat.le_of_ble_eq_true rfl) dX11_drawn_16 ⟨Nat.le_of_ble_eq_true rfl, Nat.le_of_ble_eq_true rfl⟩ (cN := 0) (sN := 0) ⟨rfl, rfl⟩ (fun H locs G => ?_)
        refine lv_iadd F.1 F.2.1 dX11_drawn_19 ?_
        refine lv_istore_n (lv' := [(2, .int (x2_1 + r_4)), (0, .ref (aM 0)), (1, .ref aA), (3, .int x3_2)]) F.1 F.2.1 dX11_drawn_20 rfl hl (by decide) rfl (fun ls hl => ?_)
        refine lv_iinc (v := (x3_2 + 1)) (lv' := [(3, .int (x3_2 + 1)), (2, .int (x2_1 + r_4)), (0, .ref (aM 0)), (1, .ref aA)]) F.1 F.2.1 dX11_drawn_21 hl (k := 3) rfl rfl (by decide) rfl (fun ls hl => ?_)
        refine lv_goto (tgt := 4) F.1 F.2.1 dX11_drawn_24 (by decide) ?_
        exact ih (x2_1 + r_4) (x3_2 + 1) _ _ _ h G (lv_sub hl [2, 3, 1, 0] rfl)
  refine L4 z rw  _ (fun x2_3 H locs ls h G hl => ?_) fu 0 0  _ _ _ h G (lv_sub hl [2, 3, 1, 0] rfl)
  clear L4
  refine lv_iload_n F.1 F.2.1 dX11_drawn_27 rfl (lv_at hl 0 rfl) ?_
  obtain rfl := op_1 h
  exact k_iret F hr hlk G dX11_drawn_28
abbrev rmX11_expected : Room := ({ frames := 1, cells := 0, slots := 0, locals := 21 } : Room)
noncomputable def qX11_expected (z : Nat → Nat → Int32) (rw : Nat → Int32) (x2 : Int32) : Option (Int32) :=
  bd (qX11_at x2 11) fun r_1 => gd (vp_in r_1 411) (if (rw r_1.toNatClampNeg) = 1 then bd (qX11_peak z rw x2) fun r_3 => some r_3 else bd (qX11_inrush z rw x2) fun r_2 => some r_2)

set_option maxHeartbeats 4000000 in
set_option maxRecDepth 100000 in
theorem mX11_expected (l : Launch) (D : va_G) (T : Nat → ClassId) (aM : Nat → Nat) (aA : Nat) (z : Nat → Nat → Int32) (rw : Nat → Int32) (x2 : Int32) {rR : Int32} (hres : qX11_expected z rw x2 = some (rR)) : Ct l yX11_expected (Cond.code yX11_expected cX11_expected 3 (some .int) :: kAll) rmX11_expected D T [.ref (aM 0), .ref aA, .int x2] (gMR T aM aA z rw) (some (.int rR)) (gMR T aM aA z rw) := by
  refine Ct.of (cc := cX11_expected) (maxL := 3) (ret := (some .int)) (by decide +kernel) rfl (Nat.le_of_ble_eq_true rfl) ?_
  intro pr en st mi ag bl me co A ls F hr hlk hnm G hl
  have hl : lv_has ls 3 [(0, .ref (aM 0)), (1, .ref aA), (2, .int x2)] := hl
  have h := hres
  unfold qX11_expected at h
  refine lv_aload_n F.1 F.2.1 dX11_expected_0 rfl (lv_at hl 1 rfl) ?_
  refine lv_iload_n F.1 F.2.1 dX11_expected_1 rfl (lv_at hl 2 rfl) ?_
  refine lv_bipush (v := 11) F.1 F.2.1 dX11_expected_2 (by decide) ?_
  obtain ⟨r_1, hc, h⟩ := op_b h
  refine k_callS (rv := (some (.int r_1))) (Wc := ([] : va_W)) (W2 := ([] : va_W)) (Wn := (gMR T aM aA z rw)) (As := [.int x2, .int 11]) (rest := [.ref aA]) F G (mX11_at l D T x2 11 hc) (va_cwS 2 F.2.2.2.2 (kg_c kl786 (kg_c kl787 (kg_c kl788 (kg_c kl767 kg_a)))) rfl rfl rfl (by decide +kernel) ⟨Nat.le_of_ble_eq_true rfl, Nat.le_of_ble_eq_true rfl⟩) (kCut_0 G) rfl hl.1 rfl (Nat.le_of_ble_eq_true rfl) dX11_expected_4 ⟨Nat.le_of_ble_eq_true rfl, Nat.le_of_ble_eq_true rfl⟩ (cN := 0) (sN := 0) ⟨rfl, rfl⟩ (fun H locs G => ?_)
  obtain ⟨c, h⟩ := op_g h
  refine k_iald F G 5 rfl c dX11_expected_7 ?_
  refine lv_iconst (v := 1) F.1 F.2.1 dX11_expected_8 (by decide) ?_
  refine lv_icmp_ne (tgt := 20) F.1 F.2.1 dX11_expected_9 (by decide) (fun c => ?_) (fun c => ?_)
  · have h := op_f h c
    refine lv_aload_n F.1 F.2.1 dX11_expected_20 rfl (lv_at hl 0 rfl) ?_
    refine lv_iload_n F.1 F.2.1 dX11_expected_21 rfl (lv_at hl 2 rfl) ?_
    obtain ⟨r_2, hc, h⟩ := op_b h
    refine k_callV (rv := (some (.int r_2))) (Wc := (gMR T aM aA z rw)) (W2 := (gMR T aM aA z rw)) (Wn := (gMR T aM aA z rw)) (As := [.int x2]) (rest := []) F G (mX11_inrush l D T aM aA z rw x2 hc) (cwV 1 F.2.2.2.2 (kg_c kl910 (kg_c kl911 (kg_c kl912 (kg_c kl788 (kg_c kl896 kg_a))))) rfl rfl rfl (by decide +kernel) ⟨Nat.le_of_ble_eq_true rfl, Nat.le_of_ble_eq_true rfl⟩) 0 rfl (q := (RX11, TX11, 35)) rfl rfl (kCut_F G) rfl hl.1 rfl (Nat.le_of_ble_eq_true rfl) dX11_expected_22 ⟨Nat.le_of_ble_eq_true rfl, Nat.le_of_ble_eq_true rfl⟩ (cN := 0) (sN := 0) ⟨rfl, rfl⟩ (fun H locs G => ?_)
    obtain rfl := op_1 h
    exact k_iret F hr hlk G dX11_expected_25
  · have h := op_t h c
    refine lv_aload_n F.1 F.2.1 dX11_expected_12 rfl (lv_at hl 0 rfl) ?_
    refine lv_iload_n F.1 F.2.1 dX11_expected_13 rfl (lv_at hl 2 rfl) ?_
    obtain ⟨r_3, hc, h⟩ := op_b h
    refine k_callV (rv := (some (.int r_3))) (Wc := (gMR T aM aA z rw)) (W2 := (gMR T aM aA z rw)) (Wn := (gMR T aM aA z rw)) (As := [.int x2]) (rest := []) F G (mX11_peak l D T aM aA z rw x2 hc) (cwV 1 F.2.2.2.2 (kg_c kl899 (kg_c kl900 (kg_c kl901 (kg_c kl788 (kg_c kl897 kg_a))))) rfl rfl rfl (by decide +kernel) ⟨Nat.le_of_ble_eq_true rfl, Nat.le_of_ble_eq_true rfl⟩) 0 rfl (q := (RX11, TX11, 35)) rfl rfl (kCut_F G) rfl hl.1 rfl (Nat.le_of_ble_eq_true rfl) dX11_expected_14 ⟨Nat.le_of_ble_eq_true rfl, Nat.le_of_ble_eq_true rfl⟩ (cN := 0) (sN := 0) ⟨rfl, rfl⟩ (fun H locs G => ?_)
    refine lv_goto (tgt := 25) F.1 F.2.1 dX11_expected_17 (by decide) ?_
    obtain rfl := op_1 h
    exact k_iret F hr hlk G dX11_expected_25
abbrev rmX11_reserved : Room := ({ frames := 2, cells := 0, slots := 0, locals := 43 } : Room)
noncomputable def qX11_reserved (z : Nat → Nat → Int32) (rw : Nat → Int32) (x2 : Int32) : Option (Int32) :=
  bd (qX11_at x2 9) fun r_1 => gd (vp_in r_1 411) (if (rw r_1.toNatClampNeg) = 2 then bd (qX11_expected z rw x2) fun r_3 => some r_3 else if (rw r_1.toNatClampNeg) = 3 then bd (qX11_steady z rw x2) fun r_2 => some r_2 else some 0)

set_option maxHeartbeats 4000000 in
set_option maxRecDepth 100000 in
theorem mX11_reserved (l : Launch) (D : va_G) (T : Nat → ClassId) (aM : Nat → Nat) (aA : Nat) (z : Nat → Nat → Int32) (rw : Nat → Int32) (x2 : Int32) {rR : Int32} (hres : qX11_reserved z rw x2 = some (rR)) : Ct l yX11_reserved (Cond.code yX11_reserved cX11_reserved 4 (some .int) :: kAll) rmX11_reserved D T [.ref (aM 0), .ref aA, .int x2] (gMR T aM aA z rw) (some (.int rR)) (gMR T aM aA z rw) := by
  refine Ct.of (cc := cX11_reserved) (maxL := 4) (ret := (some .int)) (by decide +kernel) rfl (Nat.le_of_ble_eq_true rfl) ?_
  intro pr en st mi ag bl me co A ls F hr hlk hnm G hl
  have hl : lv_has ls 4 [(0, .ref (aM 0)), (1, .ref aA), (2, .int x2)] := hl
  have h := hres
  unfold qX11_reserved at h
  refine lv_aload_n F.1 F.2.1 dX11_reserved_0 rfl (lv_at hl 1 rfl) ?_
  refine lv_iload_n F.1 F.2.1 dX11_reserved_1 rfl (lv_at hl 2 rfl) ?_
  refine lv_bipush (v := 9) F.1 F.2.1 dX11_reserved_2 (by decide) ?_
  obtain ⟨r_1, hc, h⟩ := op_b h
  refine k_callS (rv := (some (.int r_1))) (Wc := ([] : va_W)) (W2 := ([] : va_W)) (Wn := (gMR T aM aA z rw)) (As := [.int x2, .int 9]) (rest := [.ref aA]) F G (mX11_at l D T x2 9 hc) (va_cwS 2 F.2.2.2.2 (kg_c kl786 (kg_c kl787 (kg_c kl788 (kg_c kl767 kg_a)))) rfl rfl rfl (by decide +kernel) ⟨Nat.le_of_ble_eq_true rfl, Nat.le_of_ble_eq_true rfl⟩) (kCut_0 G) rfl hl.1 rfl (Nat.le_of_ble_eq_true rfl) dX11_reserved_4 ⟨Nat.le_of_ble_eq_true rfl, Nat.le_of_ble_eq_true rfl⟩ (cN := 0) (sN := 0) ⟨rfl, rfl⟩ (fun H locs G => ?_)
  obtain ⟨c, h⟩ := op_g h
  refine k_iald F G 5 rfl c dX11_reserved_7 ?_
  refine lv_istore_n (lv' := [(3, .int (rw r_1.toNatClampNeg)), (0, .ref (aM 0)), (1, .ref aA), (2, .int x2)]) F.1 F.2.1 dX11_reserved_8 rfl hl (by decide) rfl (fun ls hl => ?_)
  refine lv_iload_n F.1 F.2.1 dX11_reserved_9 rfl (lv_at hl 0 rfl) ?_
  refine lv_iconst (v := 2) F.1 F.2.1 dX11_reserved_10 (by decide) ?_
  refine lv_icmp_ne (tgt := 23) F.1 F.2.1 dX11_reserved_11 (by decide) (fun c => ?_) (fun c => ?_)
  · have h := op_f h c
    refine lv_iload_n F.1 F.2.1 dX11_reserved_23 rfl (lv_at hl 0 rfl) ?_
    refine lv_iconst (v := 3) F.1 F.2.1 dX11_reserved_24 (by decide) ?_
    refine lv_icmp_ne (tgt := 36) F.1 F.2.1 dX11_reserved_25 (by decide) (fun c => ?_) (fun c => ?_)
    · have h := op_f h c
      refine lv_iconst (v := 0) F.1 F.2.1 dX11_reserved_36 (by decide) ?_
      obtain rfl := op_1 h
      exact k_iret F hr hlk G dX11_reserved_37
    · have h := op_t h c
      refine lv_aload_n F.1 F.2.1 dX11_reserved_28 rfl (lv_at hl 1 rfl) ?_
      refine lv_iload_n F.1 F.2.1 dX11_reserved_29 rfl (lv_at hl 3 rfl) ?_
      obtain ⟨r_2, hc, h⟩ := op_b h
      refine k_callV (rv := (some (.int r_2))) (Wc := (gMR T aM aA z rw)) (W2 := (gMR T aM aA z rw)) (Wn := (gMR T aM aA z rw)) (As := [.int x2]) (rest := []) F G (mX11_steady l D T aM aA z rw x2 hc) (cwV 1 F.2.2.2.2 (kg_c kl902 (kg_c kl903 (kg_c kl904 (kg_c kl788 (kg_c kl895 kg_a))))) rfl rfl rfl (by decide +kernel) ⟨Nat.le_of_ble_eq_true rfl, Nat.le_of_ble_eq_true rfl⟩) 0 rfl (q := (RX11, TX11, 35)) rfl rfl (kCut_F G) rfl hl.1 rfl (Nat.le_of_ble_eq_true rfl) dX11_reserved_30 ⟨Nat.le_of_ble_eq_true rfl, Nat.le_of_ble_eq_true rfl⟩ (cN := 0) (sN := 0) ⟨rfl, rfl⟩ (fun H locs G => ?_)
      refine lv_goto (tgt := 37) F.1 F.2.1 dX11_reserved_33 (by decide) ?_
      obtain rfl := op_1 h
      exact k_iret F hr hlk G dX11_reserved_37
  · have h := op_t h c
    refine lv_aload_n F.1 F.2.1 dX11_reserved_14 rfl (lv_at hl 1 rfl) ?_
    refine lv_aload_n F.1 F.2.1 dX11_reserved_15 rfl (lv_at hl 2 rfl) ?_
    refine lv_iload_n F.1 F.2.1 dX11_reserved_16 rfl (lv_at hl 3 rfl) ?_
    obtain ⟨r_3, hc, h⟩ := op_b h
    refine k_callV (rv := (some (.int r_3))) (Wc := (gMR T aM (aA) z rw)) (W2 := (gMR T aM (aA) z rw)) (Wn := (gMR T aM aA z rw)) (As := [.ref aA, .int x2]) (rest := []) F G (mX11_expected l D T aM (aA) z rw x2 hc) (cwV 2 F.2.2.2.2 (kg_c kl914 (kg_c kl915 (kg_c kl916 (kg_c kl788 (kg_c kl909 kg_a))))) rfl rfl rfl (by decide +kernel) ⟨Nat.le_of_ble_eq_true rfl, Nat.le_of_ble_eq_true rfl⟩) 0 rfl (q := (RX11, TX11, 35)) rfl rfl (kCut_F G) rfl hl.1 rfl (Nat.le_of_ble_eq_true rfl) dX11_reserved_17 ⟨Nat.le_of_ble_eq_true rfl, Nat.le_of_ble_eq_true rfl⟩ (cN := 0) (sN := 0) ⟨rfl, rfl⟩ (fun H locs G => ?_)
    refine lv_goto (tgt := 37) F.1 F.2.1 dX11_reserved_20 (by decide) ?_
    obtain rfl := op_1 h
    exact k_iret F hr hlk G dX11_reserved_37
abbrev rmX11_reservedAll : Room := ({ frames := 3, cells := 0, slots := 0, locals := 66 } : Room)
noncomputable def qX11_reservedAll_L4 (z : Nat → Nat → Int32) (rw : Nat → Int32) (K : Int32 → Option (Int32)) : Nat → Int32 → Int32 → Option (Int32)
  | 0, _, _ => none
  | n + 1, x2_1, x3_2 =>
    if (z 1 0) ≤ x3_2 then (K x2_1) else bd (qX11_reserved z rw x3_2) fun r_4 => (qX11_reservedAll_L4 z rw K n (x2_1 + r_4) (x3_2 + 1))

noncomputable def qX11_reservedAll (z : Nat → Nat → Int32) (rw : Nat → Int32) : Option (Int32) :=
  (qX11_reservedAll_L4 z rw  (fun (x2_3 : Int32) => some x2_3) fu 0 0 )

set_option maxHeartbeats 4000000 in
set_option maxRecDepth 100000 in
theorem mX11_reservedAll (l : Launch) (D : va_G) (T : Nat → ClassId) (aM : Nat → Nat) (aA : Nat) (z : Nat → Nat → Int32) (rw : Nat → Int32) {rR : Int32} (hres : qX11_reservedAll z rw = some (rR)) : Ct l yX11_reservedAll (Cond.code yX11_reservedAll cX11_reservedAll 4 (some .int) :: kAll) rmX11_reservedAll D T [.ref (aM 0), .ref aA] (gMR T aM aA z rw) (some (.int rR)) (gMR T aM aA z rw) := by
  refine Ct.of (cc := cX11_reservedAll) (maxL := 4) (ret := (some .int)) (by decide +kernel) rfl (Nat.le_of_ble_eq_true rfl) ?_
  intro pr en st mi ag bl me co A ls F hr hlk hnm G hl
  have hl : lv_has ls 4 [(0, .ref (aM 0)), (1, .ref aA)] := hl
  have h := hres
  unfold qX11_reservedAll at h
  refine lv_iconst (v := 0) F.1 F.2.1 dX11_reservedAll_0 (by decide) ?_
  refine lv_istore_n (lv' := [(2, .int 0), (0, .ref (aM 0)), (1, .ref aA)]) F.1 F.2.1 dX11_reservedAll_1 rfl hl (by decide) rfl (fun ls hl => ?_)
  refine lv_iconst (v := 0) F.1 F.2.1 dX11_reservedAll_2 (by decide) ?_
  refine lv_istore_n (lv' := [(3, .int 0), (2, .int 0), (0, .ref (aM 0)), (1, .ref aA)]) F.1 F.2.1 dX11_reservedAll_3 rfl hl (by decide) rfl (fun ls hl => ?_)
  have L4 : ∀ (z : Nat → Nat → Int32) (rw : Nat → Int32) (K : Int32 → Option (Int32)) (hK : ∀ (x2_3 : Int32) (H : Heap) (locs : List Loc) (ls : Array Slot), K x2_3 = some (rR) → Rg D T A st (gMR T aM aA z rw) H locs → lv_has ls 4 [(2, .int x2_3)] → W pr l en rmX11_reservedAll st mi ag bl me co H locs 0 0 (MQ bl (kQ (some (.int rR)) D (gMR T aM aA z rw) A) ag st rmX11_reservedAll.cells rmX11_reservedAll.slots A) (F0 mi 27 ls [])) (n : Nat) (x2_1 : Int32) (x3_2 : Int32) (H : Heap) (locs : List Loc) (ls : Array Slot), qX11_reservedAll_L4 z rw K n x2_1 x3_2 = some (rR) → Rg D T A st (gMR T aM aA z rw) H locs → lv_has ls 4 [(0, .ref (aM 0)), (1, .ref aA), (2, .int x2_1), (3, .int x3_2)] → W pr l en rmX11_reservedAll st mi ag bl me co H locs 0 0 (MQ bl (kQ (some (.int rR)) D (gMR T aM aA z rw) A) ag st rmX11_reservedAll.cells rmX11_reservedAll.slots A) (F0 mi 4 ls []) := by
    intro z rw K hK n
    induction n with
    | zero => intro x2_1 x3_2 H locs ls h; exact op_n h
    | succ n ih =>
      intro x2_1 x3_2 H locs ls h G hl
      rw [qX11_reservedAll_L4] at h
      refine lv_iload_n F.1 F.2.1 dX11_reservedAll_4 rfl (lv_at hl 3 rfl) ?_
      refine lv_aload_n F.1 F.2.1 dX11_reservedAll_5 rfl (lv_at hl 0 rfl) ?_
      refine k_get F G 0 rfl (N := 35) (Tt := TX11) rfl kf11 1 (by decide) kl769 (v := .int (z 1 0)) rfl dX11_reservedAll_6 ?_
      refine lv_icmp_ge (tgt := 27) F.1 F.2.1 dX11_reservedAll_9 (by decide) (fun c => ?_) (fun c => ?_)
      · have h := op_t h c
        exact hK x2_1 _ _ _ h G (lv_sub hl [2] rfl)
      · have h := op_f h c
        refine lv_iload_n F.1 F.2.1 dX11_reservedAll_12 rfl (lv_at hl 2 rfl) ?_
        refine lv_aload_n F.1 F.2.1 dX11_reservedAll_13 rfl (lv_at hl 0 rfl) ?_
        refine lv_aload_n F.1 F.2.1 dX11_reservedAll_14 rfl (lv_at hl 1 rfl) ?_
        refine lv_iload_n F.1 F.2.1 dX11_reservedAll_15 rfl (lv_at hl 3 rfl) ?_
        obtain ⟨r_4, hc, h⟩ := op_b h
        refine k_callV (rv := (some (.int r_4))) (Wc := (gMR T aM (aA) z rw)) (W2 := (gMR T aM (aA) z rw)) (Wn := (gMR T aM aA z rw)) (As := [.ref aA, .int x3_2]) (rest := [.int x2_1]) F G (mX11_reserved l D T aM (aA) z rw x3_2 hc) (cwV 2 F.2.2.2.2 (kg_c kl918 (kg_c kl919 (kg_c kl920 (kg_c kl788 (kg_c kl913 kg_a))))) rfl rfl rfl (by decide +kernel) ⟨Nat.le_of_ble_eq_true rfl, Nat.le_of_ble_eq_true rfl⟩) 0 rfl (q := (RX11, TX11, 35)) rfl rfl (kCut_F G) rfl hl.1 rfl (Nat.le_of_ble_eq_true rfl) dX11_reservedAll_16 ⟨Nat.le_of_ble_eq_true rfl, Nat.le_of_ble_eq_true rfl⟩ (cN := 0) (sN := 0) ⟨rfl, rfl⟩ (fun H locs G => ?_)
        refine lv_iadd F.1 F.2.1 dX11_reservedAll_19 ?_
        refine lv_istore_n (lv' := [(2, .int (x2_1 + r_4)), (0, .ref (aM 0)), (1, .ref aA), (3, .int x3_2)]) F.1 F.2.1 dX11_reservedAll_20 rfl hl (by decide) rfl (fun ls hl => ?_)
        refine lv_iinc (v := (x3_2 + 1)) (lv' := [(3, .int (x3_2 + 1)), (2, .int (x2_1 + r_4)), (0, .ref (aM 0)), (1, .ref aA)]) F.1 F.2.1 dX11_reservedAll_21 hl (k := 3) rfl rfl (by decide) rfl (fun ls hl => ?_)
        refine lv_goto (tgt := 4) F.1 F.2.1 dX11_reservedAll_24 (by decide) ?_
        exact ih (x2_1 + r_4) (x3_2 + 1) _ _ _ h G (lv_sub hl [2, 3, 1, 0] rfl)
  refine L4 z rw  _ (fun x2_3 H locs ls h G hl => ?_) fu 0 0  _ _ _ h G (lv_sub hl [2, 3, 1, 0] rfl)
  clear L4
  refine lv_iload_n F.1 F.2.1 dX11_reservedAll_27 rfl (lv_at hl 0 rfl) ?_
  obtain rfl := op_1 h
  exact k_iret F hr hlk G dX11_reservedAll_28
abbrev rmX11_rightsOf : Room := ({ frames := 1, cells := 0, slots := 0, locals := 21 } : Room)
noncomputable def qX11_rightsOf_L15 (z : Nat → Nat → Int32) (rw : Nat → Int32) (x3_5 : Int32) (K : Int32 → Option (Int32)) : Nat → Int32 → Int32 → Option (Int32)
  | 0, _, _ => none
  | n + 1, x2_4, x4_6 =>
    if (z 1 0) ≤ x4_6 then (K x2_4) else bd (qX11_at x4_6 1) fun r_8 => gd (vp_in r_8 411) ((jn (fun (x2_9 : Int32) => (qX11_rightsOf_L15 z rw x3_5 K n x2_9 (x4_6 + 1))) fun j70 => if (rw r_8.toNatClampNeg) = 1 then bd (qX11_inrush z rw x4_6) fun r_10 => if (rw 6) < r_10 then (j70 x2_4) else gd (vp_in x4_6 12) (if (((z 6) x4_6.toNatClampNeg) &&& (x2_4 ^^^ (-1))) = 0 then (j70 (x2_4 ||| (1 <<< (x4_6 &&& 31)))) else (j70 x2_4)) else (j70 x2_4)))

noncomputable def qX11_rightsOf_L4 (z : Nat → Nat → Int32) (rw : Nat → Int32) (K : Int32 → Option (Int32)) : Nat → Int32 → Int32 → Option (Int32)
  | 0, _, _ => none
  | n + 1, x2_1, x3_2 =>
    if (z 1 0) ≤ x3_2 then (K x2_1) else (qX11_rightsOf_L15 z rw x3_2 (fun (x2_7 : Int32) => (qX11_rightsOf_L4 z rw K n x2_7 (x3_2 + 1))) fu x2_1 0 )

noncomputable def qX11_rightsOf (z : Nat → Nat → Int32) (rw : Nat → Int32) : Option (Int32) :=
  (qX11_rightsOf_L4 z rw  (fun (x2_3 : Int32) => some x2_3) fu 0 0 )

set_option maxHeartbeats 4000000 in
set_option maxRecDepth 100000 in
theorem mX11_rightsOf (l : Launch) (D : va_G) (T : Nat → ClassId) (aM : Nat → Nat) (aA : Nat) (z : Nat → Nat → Int32) (rw : Nat → Int32) {rR : Int32} (hres : qX11_rightsOf z rw = some (rR)) : Ct l yX11_rightsOf (Cond.code yX11_rightsOf cX11_rightsOf 5 (some .int) :: kAll) rmX11_rightsOf D T [.ref (aM 0), .ref aA] (gMR T aM aA z rw) (some (.int rR)) (gMR T aM aA z rw) := by
  refine Ct.of (cc := cX11_rightsOf) (maxL := 5) (ret := (some .int)) (by decide +kernel) rfl (Nat.le_of_ble_eq_true rfl) ?_
  intro pr en st mi ag bl me co A ls F hr hlk hnm G hl
  have hl : lv_has ls 5 [(0, .ref (aM 0)), (1, .ref aA)] := hl
  have h := hres
  unfold qX11_rightsOf at h
  refine lv_iconst (v := 0) F.1 F.2.1 dX11_rightsOf_0 (by decide) ?_
  refine lv_istore_n (lv' := [(2, .int 0), (0, .ref (aM 0)), (1, .ref aA)]) F.1 F.2.1 dX11_rightsOf_1 rfl hl (by decide) rfl (fun ls hl => ?_)
  refine lv_iconst (v := 0) F.1 F.2.1 dX11_rightsOf_2 (by decide) ?_
  refine lv_istore_n (lv' := [(3, .int 0), (2, .int 0), (0, .ref (aM 0)), (1, .ref aA)]) F.1 F.2.1 dX11_rightsOf_3 rfl hl (by decide) rfl (fun ls hl => ?_)
  have L4 : ∀ (z : Nat → Nat → Int32) (rw : Nat → Int32) (K : Int32 → Option (Int32)) (hK : ∀ (x2_3 : Int32) (H : Heap) (locs : List Loc) (ls : Array Slot), K x2_3 = some (rR) → Rg D T A st (gMR T aM aA z rw) H locs → lv_has ls 5 [(2, .int x2_3)] → W pr l en rmX11_rightsOf st mi ag bl me co H locs 0 0 (MQ bl (kQ (some (.int rR)) D (gMR T aM aA z rw) A) ag st rmX11_rightsOf.cells rmX11_rightsOf.slots A) (F0 mi 82 ls [])) (n : Nat) (x2_1 : Int32) (x3_2 : Int32) (H : Heap) (locs : List Loc) (ls : Array Slot), qX11_rightsOf_L4 z rw K n x2_1 x3_2 = some (rR) → Rg D T A st (gMR T aM aA z rw) H locs → lv_has ls 5 [(0, .ref (aM 0)), (1, .ref aA), (2, .int x2_1), (3, .int x3_2)] → W pr l en rmX11_rightsOf st mi ag bl me co H locs 0 0 (MQ bl (kQ (some (.int rR)) D (gMR T aM aA z rw) A) ag st rmX11_rightsOf.cells rmX11_rightsOf.slots A) (F0 mi 4 ls []) := by
    intro z rw K hK n
    induction n with
    | zero => intro x2_1 x3_2 H locs ls h; exact op_n h
    | succ n ih =>
      intro x2_1 x3_2 H locs ls h G hl
      rw [qX11_rightsOf_L4] at h
      refine lv_iload_n F.1 F.2.1 dX11_rightsOf_4 rfl (lv_at hl 3 rfl) ?_
      refine lv_aload_n F.1 F.2.1 dX11_rightsOf_5 rfl (lv_at hl 0 rfl) ?_
      refine k_get F G 0 rfl (N := 35) (Tt := TX11) rfl kf11 1 (by decide) kl769 (v := .int (z 1 0)) rfl dX11_rightsOf_6 ?_
      refine lv_icmp_ge (tgt := 82) F.1 F.2.1 dX11_rightsOf_9 (by decide) (fun c => ?_) (fun c => ?_)
      · have h := op_t h c
        exact hK x2_1 _ _ _ h G (lv_sub hl [2] rfl)
      · have h := op_f h c
        refine lv_iconst (v := 0) F.1 F.2.1 dX11_rightsOf_12 (by decide) ?_
        refine lv_istore (lv' := [(4, .int 0), (0, .ref (aM 0)), (1, .ref aA), (2, .int x2_1), (3, .int x3_2)]) F.1 F.2.1 dX11_rightsOf_13 hl (by decide) rfl (fun ls hl => ?_)
        have L15 : ∀ (z : Nat → Nat → Int32) (rw : Nat → Int32) (x3_5 : Int32) (K : Int32 → Option (Int32)) (hK : ∀ (x2_7 : Int32) (H : Heap) (locs : List Loc) (ls : Array Slot), K x2_7 = some (rR) → Rg D T A st (gMR T aM aA z rw) H locs → lv_has ls 5 [(0, .ref (aM 0)), (1, .ref aA), (2, .int x2_7), (3, .int x3_5)] → W pr l en rmX11_rightsOf st mi ag bl me co H locs 0 0 (MQ bl (kQ (some (.int rR)) D (gMR T aM aA z rw) A) ag st rmX11_rightsOf.cells rmX11_rightsOf.slots A) (F0 mi 76 ls [])) (n : Nat) (x2_4 : Int32) (x4_6 : Int32) (H : Heap) (locs : List Loc) (ls : Array Slot), qX11_rightsOf_L15 z rw x3_5 K n x2_4 x4_6 = some (rR) → Rg D T A st (gMR T aM aA z rw) H locs → lv_has ls 5 [(0, .ref (aM 0)), (1, .ref aA), (2, .int x2_4), (3, .int x3_5), (4, .int x4_6)] → W pr l en rmX11_rightsOf st mi ag bl me co H locs 0 0 (MQ bl (kQ (some (.int rR)) D (gMR T aM aA z rw) A) ag st rmX11_rightsOf.cells rmX11_rightsOf.slots A) (F0 mi 15 ls []) := by
          intro z rw x3_5 K hK n
          induction n with
          | zero => intro x2_4 x4_6 H locs ls h; exact op_n h
          | succ n ih =>
            intro x2_4 x4_6 H locs ls h G hl
            rw [qX11_rightsOf_L15] at h
            refine lv_iload F.1 F.2.1 dX11_rightsOf_15 (lv_at hl 4 rfl) ?_
            refine lv_aload_n F.1 F.2.1 dX11_rightsOf_17 rfl (lv_at hl 0 rfl) ?_
            refine k_get F G 0 rfl (N := 35) (Tt := TX11) rfl kf11 1 (by decide) kl769 (v := .int (z 1 0)) rfl dX11_rightsOf_18 ?_
            refine lv_icmp_ge (tgt := 76) F.1 F.2.1 dX11_rightsOf_21 (by decide) (fun c => ?_) (fun c => ?_)
            · have h := op_t h c
              exact hK x2_4 _ _ _ h G (lv_sub hl [0, 1, 2, 3] rfl)
            · have h := op_f h c
              refine lv_aload_n F.1 F.2.1 dX11_rightsOf_24 rfl (lv_at hl 1 rfl) ?_
              refine lv_iload F.1 F.2.1 dX11_rightsOf_25 (lv_at hl 4 rfl) ?_
              refine lv_iconst (v := 1) F.1 F.2.1 dX11_rightsOf_27 (by decide) ?_
              obtain ⟨r_8, hc, h⟩ := op_b h
              refine k_callS (rv := (some (.int r_8))) (Wc := ([] : va_W)) (W2 := ([] : va_W)) (Wn := (gMR T aM aA z rw)) (As := [.int x4_6, .int 1]) (rest := [.ref aA]) F G (mX11_at l D T x4_6 1 hc) (va_cwS 2 F.2.2.2.2 (kg_c kl786 (kg_c kl787 (kg_c kl788 (kg_c kl767 kg_a)))) rfl rfl rfl (by decide +kernel) ⟨Nat.le_of_ble_eq_true rfl, Nat.le_of_ble_eq_true rfl⟩) (kCut_0 G) rfl hl.1 rfl (Nat.le_of_ble_eq_true rfl) dX11_rightsOf_28 ⟨Nat.le_of_ble_eq_true rfl, Nat.le_of_ble_eq_true rfl⟩ (cN := 0) (sN := 0) ⟨rfl, rfl⟩ (fun H locs G => ?_)
              obtain ⟨c, h⟩ := op_g h
              refine k_iald F G 5 rfl c dX11_rightsOf_31 ?_
              refine lv_iconst (v := 1) F.1 F.2.1 dX11_rightsOf_32 (by decide) ?_
              obtain ⟨j70, hj70, h⟩ := op_j h
              have J70 : ∀ (x2_9 : Int32) (H : Heap) (locs : List Loc) (ls : Array Slot), j70 x2_9 = some (rR) → Rg D T A st (gMR T aM aA z rw) H locs → lv_has ls 5 [(0, .ref (aM 0)), (1, .ref aA), (2, .int x2_9), (3, .int x3_5), (4, .int x4_6)] → W pr l en rmX11_rightsOf st mi ag bl me co H locs 0 0 (MQ bl (kQ (some (.int rR)) D (gMR T aM aA z rw) A) ag st rmX11_rightsOf.cells rmX11_rightsOf.slots A) (F0 mi 70 ls []) := by
                intro x2_9 H locs ls h G hl
                rw [hj70] at h
                refine lv_iinc (v := (x4_6 + 1)) (lv' := [(4, .int (x4_6 + 1)), (0, .ref (aM 0)), (1, .ref aA), (2, .int x2_9), (3, .int x3_5)]) F.1 F.2.1 dX11_rightsOf_70 hl (k := 4) rfl rfl (by decide) rfl (fun ls hl => ?_)
                refine lv_goto (tgt := 15) F.1 F.2.1 dX11_rightsOf_73 (by decide) ?_
                exact ih x2_9 (x4_6 + 1) _ _ _ h G (lv_sub hl [1, 2, 3, 4, 0] rfl)
              clear hj70
              refine lv_icmp_ne (tgt := 70) F.1 F.2.1 dX11_rightsOf_33 (by decide) (fun c => ?_) (fun c => ?_)
              · have h := op_f h c
                exact J70 x2_4 _ _ _ h G hl
              · have h := op_t h c
                refine lv_aload_n F.1 F.2.1 dX11_rightsOf_36 rfl (lv_at hl 0 rfl) ?_
                refine lv_iload F.1 F.2.1 dX11_rightsOf_37 (lv_at hl 4 rfl) ?_
                obtain ⟨r_10, hc, h⟩ := op_b h
                refine k_callV (rv := (some (.int r_10))) (Wc := (gMR T aM aA z rw)) (W2 := (gMR T aM aA z rw)) (Wn := (gMR T aM aA z rw)) (As := [.int x4_6]) (rest := []) F G (mX11_inrush l D T aM aA z rw x4_6 hc) (cwV 1 F.2.2.2.2 (kg_c kl910 (kg_c kl911 (kg_c kl912 (kg_c kl788 (kg_c kl896 kg_a))))) rfl rfl rfl (by decide +kernel) ⟨Nat.le_of_ble_eq_true rfl, Nat.le_of_ble_eq_true rfl⟩) 0 rfl (q := (RX11, TX11, 35)) rfl rfl (kCut_F G) rfl hl.1 rfl (Nat.le_of_ble_eq_true rfl) dX11_rightsOf_39 ⟨Nat.le_of_ble_eq_true rfl, Nat.le_of_ble_eq_true rfl⟩ (cN := 0) (sN := 0) ⟨rfl, rfl⟩ (fun H locs G => ?_)
                refine lv_aload_n F.1 F.2.1 dX11_rightsOf_42 rfl (lv_at hl 1 rfl) ?_
                refine lv_bipush (v := 6) F.1 F.2.1 dX11_rightsOf_43 (by decide) ?_
                refine k_ialdN F G 5 rfl (kin (by decide +kernel)) 6 (by decide +kernel) dX11_rightsOf_45 ?_
                refine lv_icmp_gt (tgt := 70) F.1 F.2.1 dX11_rightsOf_46 (by decide) (fun c => ?_) (fun c => ?_)
                · have h := op_t h c
                  exact J70 x2_4 _ _ _ h G hl
                · have h := op_f h c
                  refine lv_aload_n F.1 F.2.1 dX11_rightsOf_49 rfl (lv_at hl 0 rfl) ?_
                  refine k_get F G 0 rfl (N := 35) (Tt := TX11) rfl kf11 6 (by decide) kl775 (v := .ref (aM 2)) rfl dX11_rightsOf_50 ?_
                  refine lv_iload F.1 F.2.1 dX11_rightsOf_53 (lv_at hl 4 rfl) ?_
                  obtain ⟨c, h⟩ := op_g h
                  refine k_iald F G 2 rfl c dX11_rightsOf_55 ?_
                  refine lv_iload_n F.1 F.2.1 dX11_rightsOf_56 rfl (lv_at hl 2 rfl) ?_
                  refine lv_iconst (v := (-1)) F.1 F.2.1 dX11_rightsOf_57 (by decide) ?_
                  refine lv_ixor F.1 F.2.1 dX11_rightsOf_58 ?_
                  refine lv_iand F.1 F.2.1 dX11_rightsOf_59 ?_
                  refine lv_if_ne (tgt := 70) F.1 F.2.1 dX11_rightsOf_60 (by decide) (fun c => ?_) (fun c => ?_)
                  · have h := op_f h c
                    exact J70 x2_4 _ _ _ h G hl
                  · have h := op_t h c
                    refine lv_iload_n F.1 F.2.1 dX11_rightsOf_63 rfl (lv_at hl 2 rfl) ?_
                    refine lv_iconst (v := 1) F.1 F.2.1 dX11_rightsOf_64 (by decide) ?_
                    refine lv_iload F.1 F.2.1 dX11_rightsOf_65 (lv_at hl 4 rfl) ?_
                    refine lv_ishl F.1 F.2.1 dX11_rightsOf_67 ?_
                    refine lv_ior F.1 F.2.1 dX11_rightsOf_68 ?_
                    refine lv_istore_n (lv' := [(2, .int (x2_4 ||| (1 <<< (x4_6 &&& 31)))), (0, .ref (aM 0)), (1, .ref aA), (3, .int x3_5), (4, .int x4_6)]) F.1 F.2.1 dX11_rightsOf_69 rfl hl (by decide) rfl (fun ls hl => ?_)
                    exact J70 (x2_4 ||| (1 <<< (x4_6 &&& 31))) _ _ _ h G (lv_sub hl [1, 2, 0, 3, 4] rfl)
        refine L15 z rw x3_2 _ (fun x2_7 H locs ls h G hl => ?_) fu x2_1 0  _ _ _ h G (lv_sub hl [1, 2, 3, 4, 0] rfl)
        clear L15
        refine lv_iinc (v := (x3_2 + 1)) (lv' := [(3, .int (x3_2 + 1)), (0, .ref (aM 0)), (1, .ref aA), (2, .int x2_7)]) F.1 F.2.1 dX11_rightsOf_76 hl (k := 3) rfl rfl (by decide) rfl (fun ls hl => ?_)
        refine lv_goto (tgt := 4) F.1 F.2.1 dX11_rightsOf_79 (by decide) ?_
        exact ih x2_7 (x3_2 + 1) _ _ _ h G (lv_sub hl [1, 2, 3, 0] rfl)
  refine L4 z rw  _ (fun x2_3 H locs ls h G hl => ?_) fu 0 0  _ _ _ h G (lv_sub hl [2, 3, 1, 0] rfl)
  clear L4
  refine lv_iload_n F.1 F.2.1 dX11_rightsOf_82 rfl (lv_at hl 0 rfl) ?_
  obtain rfl := op_1 h
  exact k_iret F hr hlk G dX11_rightsOf_83
abbrev rmX11_withState : Room := ({ frames := 1, cells := 0, slots := 0, locals := 21 } : Room)
noncomputable def qX11_withState_L6 (z : Nat → Nat → Int32) (rw : Nat → Int32) (x2_1 : Int32) (x3_2 : Int32) (K : Int32 → Option (Int32)) : Nat → Int32 → Int32 → Option (Int32)
  | 0, _, _ => none
  | n + 1, x4_3, x5_4 =>
    if (z 1 0) ≤ x5_4 then (K x4_3) else bd (qX11_at x5_4 x2_1) fun r_6 => gd (vp_in r_6 411) ((jn (fun (x4_7 : Int32) => (qX11_withState_L6 z rw x2_1 x3_2 K n x4_7 (x5_4 + 1))) fun j36 => if (rw r_6.toNatClampNeg) = x3_2 then (j36 (x4_3 ||| (1 <<< (x5_4 &&& 31)))) else (j36 x4_3)))

noncomputable def qX11_withState (z : Nat → Nat → Int32) (rw : Nat → Int32) (x2 : Int32) (x3 : Int32) : Option (Int32) :=
  (qX11_withState_L6 z rw x2 x3 (fun (x4_5 : Int32) => some x4_5) fu 0 0 )

set_option maxHeartbeats 4000000 in
set_option maxRecDepth 100000 in
theorem mX11_withState (l : Launch) (D : va_G) (T : Nat → ClassId) (aM : Nat → Nat) (aA : Nat) (z : Nat → Nat → Int32) (rw : Nat → Int32) (x2 : Int32) (x3 : Int32) {rR : Int32} (hres : qX11_withState z rw x2 x3 = some (rR)) : Ct l yX11_withState (Cond.code yX11_withState cX11_withState 6 (some .int) :: kAll) rmX11_withState D T [.ref (aM 0), .ref aA, .int x2, .int x3] (gMR T aM aA z rw) (some (.int rR)) (gMR T aM aA z rw) := by
  refine Ct.of (cc := cX11_withState) (maxL := 6) (ret := (some .int)) (by decide +kernel) rfl (Nat.le_of_ble_eq_true rfl) ?_
  intro pr en st mi ag bl me co A ls F hr hlk hnm G hl
  have hl : lv_has ls 6 [(0, .ref (aM 0)), (1, .ref aA), (2, .int x2), (3, .int x3)] := hl
  have h := hres
  unfold qX11_withState at h
  refine lv_iconst (v := 0) F.1 F.2.1 dX11_withState_0 (by decide) ?_
  refine lv_istore (lv' := [(4, .int 0), (0, .ref (aM 0)), (1, .ref aA), (2, .int x2), (3, .int x3)]) F.1 F.2.1 dX11_withState_1 hl (by decide) rfl (fun ls hl => ?_)
  refine lv_iconst (v := 0) F.1 F.2.1 dX11_withState_3 (by decide) ?_
  refine lv_istore (lv' := [(5, .int 0), (4, .int 0), (0, .ref (aM 0)), (1, .ref aA), (2, .int x2), (3, .int x3)]) F.1 F.2.1 dX11_withState_4 hl (by decide) rfl (fun ls hl => ?_)
  have L6 : ∀ (z : Nat → Nat → Int32) (rw : Nat → Int32) (x2_1 : Int32) (x3_2 : Int32) (K : Int32 → Option (Int32)) (hK : ∀ (x4_5 : Int32) (H : Heap) (locs : List Loc) (ls : Array Slot), K x4_5 = some (rR) → Rg D T A st (gMR T aM aA z rw) H locs → lv_has ls 6 [(4, .int x4_5)] → W pr l en rmX11_withState st mi ag bl me co H locs 0 0 (MQ bl (kQ (some (.int rR)) D (gMR T aM aA z rw) A) ag st rmX11_withState.cells rmX11_withState.slots A) (F0 mi 42 ls [])) (n : Nat) (x4_3 : Int32) (x5_4 : Int32) (H : Heap) (locs : List Loc) (ls : Array Slot), qX11_withState_L6 z rw x2_1 x3_2 K n x4_3 x5_4 = some (rR) → Rg D T A st (gMR T aM aA z rw) H locs → lv_has ls 6 [(0, .ref (aM 0)), (1, .ref aA), (2, .int x2_1), (3, .int x3_2), (4, .int x4_3), (5, .int x5_4)] → W pr l en rmX11_withState st mi ag bl me co H locs 0 0 (MQ bl (kQ (some (.int rR)) D (gMR T aM aA z rw) A) ag st rmX11_withState.cells rmX11_withState.slots A) (F0 mi 6 ls []) := by
    intro z rw x2_1 x3_2 K hK n
    induction n with
    | zero => intro x4_3 x5_4 H locs ls h; exact op_n h
    | succ n ih =>
      intro x4_3 x5_4 H locs ls h G hl
      rw [qX11_withState_L6] at h
      refine lv_iload F.1 F.2.1 dX11_withState_6 (lv_at hl 5 rfl) ?_
      refine lv_aload_n F.1 F.2.1 dX11_withState_8 rfl (lv_at hl 0 rfl) ?_
      refine k_get F G 0 rfl (N := 35) (Tt := TX11) rfl kf11 1 (by decide) kl769 (v := .int (z 1 0)) rfl dX11_withState_9 ?_
      refine lv_icmp_ge (tgt := 42) F.1 F.2.1 dX11_withState_12 (by decide) (fun c => ?_) (fun c => ?_)
      · have h := op_t h c
        exact hK x4_3 _ _ _ h G (lv_sub hl [4] rfl)
      · have h := op_f h c
        refine lv_aload_n F.1 F.2.1 dX11_withState_15 rfl (lv_at hl 1 rfl) ?_
        refine lv_iload F.1 F.2.1 dX11_withState_16 (lv_at hl 5 rfl) ?_
        refine lv_iload_n F.1 F.2.1 dX11_withState_18 rfl (lv_at hl 2 rfl) ?_
        obtain ⟨r_6, hc, h⟩ := op_b h
        refine k_callS (rv := (some (.int r_6))) (Wc := ([] : va_W)) (W2 := ([] : va_W)) (Wn := (gMR T aM aA z rw)) (As := [.int x5_4, .int x2_1]) (rest := [.ref aA]) F G (mX11_at l D T x5_4 x2_1 hc) (va_cwS 2 F.2.2.2.2 (kg_c kl786 (kg_c kl787 (kg_c kl788 (kg_c kl767 kg_a)))) rfl rfl rfl (by decide +kernel) ⟨Nat.le_of_ble_eq_true rfl, Nat.le_of_ble_eq_true rfl⟩) (kCut_0 G) rfl hl.1 rfl (Nat.le_of_ble_eq_true rfl) dX11_withState_19 ⟨Nat.le_of_ble_eq_true rfl, Nat.le_of_ble_eq_true rfl⟩ (cN := 0) (sN := 0) ⟨rfl, rfl⟩ (fun H locs G => ?_)
        obtain ⟨c, h⟩ := op_g h
        refine k_iald F G 5 rfl c dX11_withState_22 ?_
        refine lv_iload_n F.1 F.2.1 dX11_withState_23 rfl (lv_at hl 3 rfl) ?_
        obtain ⟨j36, hj36, h⟩ := op_j h
        have J36 : ∀ (x4_7 : Int32) (H : Heap) (locs : List Loc) (ls : Array Slot), j36 x4_7 = some (rR) → Rg D T A st (gMR T aM aA z rw) H locs → lv_has ls 6 [(0, .ref (aM 0)), (1, .ref aA), (2, .int x2_1), (3, .int x3_2), (4, .int x4_7), (5, .int x5_4)] → W pr l en rmX11_withState st mi ag bl me co H locs 0 0 (MQ bl (kQ (some (.int rR)) D (gMR T aM aA z rw) A) ag st rmX11_withState.cells rmX11_withState.slots A) (F0 mi 36 ls []) := by
          intro x4_7 H locs ls h G hl
          rw [hj36] at h
          refine lv_iinc (v := (x5_4 + 1)) (lv' := [(5, .int (x5_4 + 1)), (0, .ref (aM 0)), (1, .ref aA), (2, .int x2_1), (3, .int x3_2), (4, .int x4_7)]) F.1 F.2.1 dX11_withState_36 hl (k := 5) rfl rfl (by decide) rfl (fun ls hl => ?_)
          refine lv_goto (tgt := 6) F.1 F.2.1 dX11_withState_39 (by decide) ?_
          exact ih x4_7 (x5_4 + 1) _ _ _ h G (lv_sub hl [1, 2, 3, 4, 5, 0] rfl)
        clear hj36
        refine lv_icmp_ne (tgt := 36) F.1 F.2.1 dX11_withState_24 (by decide) (fun c => ?_) (fun c => ?_)
        · have h := op_f h c
          exact J36 x4_3 _ _ _ h G hl
        · have h := op_t h c
          refine lv_iload F.1 F.2.1 dX11_withState_27 (lv_at hl 4 rfl) ?_
          refine lv_iconst (v := 1) F.1 F.2.1 dX11_withState_29 (by decide) ?_
          refine lv_iload F.1 F.2.1 dX11_withState_30 (lv_at hl 5 rfl) ?_
          refine lv_ishl F.1 F.2.1 dX11_withState_32 ?_
          refine lv_ior F.1 F.2.1 dX11_withState_33 ?_
          refine lv_istore (lv' := [(4, .int (x4_3 ||| (1 <<< (x5_4 &&& 31)))), (0, .ref (aM 0)), (1, .ref aA), (2, .int x2_1), (3, .int x3_2), (5, .int x5_4)]) F.1 F.2.1 dX11_withState_34 hl (by decide) rfl (fun ls hl => ?_)
          exact J36 (x4_3 ||| (1 <<< (x5_4 &&& 31))) _ _ _ h G (lv_sub hl [1, 2, 3, 4, 0, 5] rfl)
  refine L6 z rw x2 x3 _ (fun x4_5 H locs ls h G hl => ?_) fu 0 0  _ _ _ h G (lv_sub hl [2, 3, 4, 5, 1, 0] rfl)
  clear L6
  refine lv_iload F.1 F.2.1 dX11_withState_42 (lv_at hl 0 rfl) ?_
  obtain rfl := op_1 h
  exact k_iret F hr hlk G dX11_withState_44
abbrev rmX11_isDark : Room := ({ frames := 0, cells := 0, slots := 0, locals := 0 } : Room)
noncomputable def qX11_isDark (z : Nat → Nat → Int32) (rw : Nat → Int32) : Option (Int32) :=
  if (rw 1) ≤ (rw 0) then some 0 else some 1

set_option maxHeartbeats 4000000 in
set_option maxRecDepth 100000 in
theorem mX11_isDark (l : Launch) (D : va_G) (T : Nat → ClassId) (aM : Nat → Nat) (aA : Nat) (z : Nat → Nat → Int32) (rw : Nat → Int32) {rR : Int32} (hres : qX11_isDark z rw = some (rR)) : Ct l yX11_isDark (Cond.code yX11_isDark cX11_isDark 2 (some .boolean) :: kAll) rmX11_isDark D T [.ref (aM 0), .ref aA] (gMR T aM aA z rw) (some (.int rR)) (gMR T aM aA z rw) := by
  refine Ct.of (cc := cX11_isDark) (maxL := 2) (ret := (some .boolean)) (by decide +kernel) rfl (Nat.le_of_ble_eq_true rfl) ?_
  intro pr en st mi ag bl me co A ls F hr hlk hnm G hl
  have hl : lv_has ls 2 [(0, .ref (aM 0)), (1, .ref aA)] := hl
  have h := hres
  unfold qX11_isDark at h
  refine lv_aload_n F.1 F.2.1 dX11_isDark_0 rfl (lv_at hl 1 rfl) ?_
  refine lv_iconst (v := 0) F.1 F.2.1 dX11_isDark_1 (by decide) ?_
  refine k_ialdN F G 5 rfl (kin (by decide +kernel)) 0 (by decide +kernel) dX11_isDark_2 ?_
  refine lv_aload_n F.1 F.2.1 dX11_isDark_3 rfl (lv_at hl 1 rfl) ?_
  refine lv_iconst (v := 1) F.1 F.2.1 dX11_isDark_4 (by decide) ?_
  refine k_ialdN F G 5 rfl (kin (by decide +kernel)) 1 (by decide +kernel) dX11_isDark_5 ?_
  refine lv_icmp_ge (tgt := 13) F.1 F.2.1 dX11_isDark_6 (by decide) (fun c => ?_) (fun c => ?_)
  · have h := op_t h c
    refine lv_iconst (v := 0) F.1 F.2.1 dX11_isDark_13 (by decide) ?_
    obtain rfl := op_1 h
    exact k_zret F hr rfl hlk G dX11_isDark_14
  · have h := op_f h c
    refine lv_iconst (v := 1) F.1 F.2.1 dX11_isDark_9 (by decide) ?_
    refine lv_goto (tgt := 14) F.1 F.2.1 dX11_isDark_10 (by decide) ?_
    obtain rfl := op_1 h
    exact k_zret F hr rfl hlk G dX11_isDark_14
abbrev rmX11_sends : Room := ({ frames := 0, cells := 0, slots := 0, locals := 0 } : Room)
noncomputable def qX11_sends (z : Nat → Nat → Int32) (rw : Nat → Int32) (x2 : Int32) (x3 : Int32) (x4 : Int32) : Option ((Nat → Int32)) :=
  (bs (upd rw 4 ((rw 4) + 1)) fun rw_1 => gd (vp_in (15 + x2) 411) (gd (vp_in (15 + x2) 411) (bs (upd rw_1 (15 + x2).toNatClampNeg ((rw_1 (15 + x2).toNatClampNeg) + 1)) fun rw_2 => (jn (fun (_ : Unit) => gd (vp_in (195 + (3 * (rw_2 11))) 411) (bs (upd rw_2 (195 + (3 * (rw_2 11))).toNatClampNeg x2) fun rw_3 => gd (vp_in ((195 + (3 * (rw_2 11))) + 1) 411) (bs (upd rw_3 ((195 + (3 * (rw_2 11))) + 1).toNatClampNeg x3) fun rw_4 => gd (vp_in ((195 + (3 * (rw_2 11))) + 2) 411) (bs (upd rw_4 ((195 + (3 * (rw_2 11))) + 2).toNatClampNeg x4) fun rw_5 => (bs (upd rw_5 11 ((rw_5 11) + 1)) fun rw_6 => some rw_6))))) fun j70 => if (z 3 0) ≤ 0 then (j70 ()) else if (rw_2 14) = 0 then gd (¬ (z 3 0) = 0) (gd (vp_in ((rw 4) - (rw 4) / (z 3 0) * (z 3 0)) 24) (if ((z 7) ((rw 4) - (rw 4) / (z 3 0) * (z 3 0)).toNatClampNeg) = 1 then (bs (upd rw_2 5 ((rw_2 5) + 1)) fun rw_7 => gd (vp_in (21 + x2) 411) (gd (vp_in (21 + x2) 411) (bs (upd rw_7 (21 + x2).toNatClampNeg ((rw_7 (21 + x2).toNatClampNeg) + 1)) fun rw_8 => some rw_8))) else (j70 ()))) else (j70 ())))))

set_option maxHeartbeats 4000000 in
set_option maxRecDepth 100000 in
theorem mX11_sends (l : Launch) (D : va_G) (T : Nat → ClassId) (aM : Nat → Nat) (aA : Nat) (z : Nat → Nat → Int32) (rw : Nat → Int32) (x2 : Int32) (x3 : Int32) (x4 : Int32) {rwR : Nat → Int32} (hres : qX11_sends z rw x2 x3 x4 = some (rwR)) : Ct l yX11_sends (Cond.code yX11_sends cX11_sends 7 none :: kAll) rmX11_sends D T [.ref (aM 0), .ref aA, .int x2, .int x3, .int x4] (gMR T aM aA z rw) none (gMR T aM aA z rwR) := by
  refine Ct.of (cc := cX11_sends) (maxL := 7) (ret := none) (by decide +kernel) rfl (Nat.le_of_ble_eq_true rfl) ?_
  intro pr en st mi ag bl me co A ls F hr hlk hnm G hl
  have hl : lv_has ls 7 [(0, .ref (aM 0)), (1, .ref aA), (2, .int x2), (3, .int x3), (4, .int x4)] := hl
  have h := hres
  unfold qX11_sends at h
  refine lv_aload_n F.1 F.2.1 dX11_sends_0 rfl (lv_at hl 1 rfl) ?_
  refine lv_iconst (v := 4) F.1 F.2.1 dX11_sends_1 (by decide) ?_
  refine k_ialdN F G 5 rfl (kin (by decide +kernel)) 4 (by decide +kernel) dX11_sends_2 ?_
  refine lv_istore (lv' := [(5, .int (rw 4)), (0, .ref (aM 0)), (1, .ref aA), (2, .int x2), (3, .int x3), (4, .int x4)]) F.1 F.2.1 dX11_sends_3 hl (by decide) rfl (fun ls hl => ?_)
  refine lv_aload_n F.1 F.2.1 dX11_sends_5 rfl (lv_at hl 2 rfl) ?_
  refine lv_iconst (v := 4) F.1 F.2.1 dX11_sends_6 (by decide) ?_
  refine lv_dup2_11 F.1 F.2.1 dX11_sends_7 rfl rfl ?_
  refine k_ialdN F G 5 rfl (kin (by decide +kernel)) 4 (by decide +kernel) dX11_sends_8 ?_
  refine lv_iconst (v := 1) F.1 F.2.1 dX11_sends_9 (by decide) ?_
  refine lv_iadd F.1 F.2.1 dX11_sends_10 ?_
  obtain ⟨rw_1, e9, h⟩ := op_st h
  refine k_iastN F G 5 rfl (kin (by decide +kernel)) 4 (by decide +kernel) dX11_sends_11 (Wn := (gMR T aM aA z rw_1)) (by subst e9; rfl) (fun H locs G => ?_)
  clear e9
  refine lv_aload_n F.1 F.2.1 dX11_sends_12 rfl (lv_at hl 2 rfl) ?_
  refine lv_bipush (v := 15) F.1 F.2.1 dX11_sends_13 (by decide) ?_
  refine lv_iload_n F.1 F.2.1 dX11_sends_15 rfl (lv_at hl 3 rfl) ?_
  refine lv_iadd F.1 F.2.1 dX11_sends_16 ?_
  refine lv_dup2_11 F.1 F.2.1 dX11_sends_17 rfl rfl ?_
  obtain ⟨c, h⟩ := op_g h
  refine k_iald F G 5 rfl c dX11_sends_18 ?_
  refine lv_iconst (v := 1) F.1 F.2.1 dX11_sends_19 (by decide) ?_
  refine lv_iadd F.1 F.2.1 dX11_sends_20 ?_
  obtain ⟨c, h⟩ := op_g h
  obtain ⟨rw_2, e9, h⟩ := op_st h
  refine k_iast F G 5 rfl c dX11_sends_21 (Wn := (gMR T aM aA z rw_2)) (by subst e9; rfl) (fun H locs G => ?_)
  clear e9
  refine lv_aload_n F.1 F.2.1 dX11_sends_22 rfl (lv_at hl 1 rfl) ?_
  refine k_get F G 0 rfl (N := 35) (Tt := TX11) rfl kf11 3 (by decide) kl771 (v := .int (z 3 0)) rfl dX11_sends_23 ?_
  obtain ⟨j70, hj70, h⟩ := op_j h
  have J70 : ∀ (H : Heap) (locs : List Loc) (ls : Array Slot), j70 () = some (rwR) → Rg D T A st (gMR T aM aA z rw_2) H locs → lv_has ls 7 [(1, .ref aA), (2, .int x2), (3, .int x3), (4, .int x4)] → W pr l en rmX11_sends st mi ag bl me co H locs 0 0 (MQ bl (kQ none D (gMR T aM aA z rwR) A) ag st rmX11_sends.cells rmX11_sends.slots A) (F0 mi 70 ls []) := by
    intro H locs ls h G hl
    rw [hj70] at h
    refine lv_sipush (v := 195) F.1 F.2.1 dX11_sends_70 (by decide) ?_
    refine lv_iconst (v := 3) F.1 F.2.1 dX11_sends_73 (by decide) ?_
    refine lv_aload_n F.1 F.2.1 dX11_sends_74 rfl (lv_at hl 0 rfl) ?_
    refine lv_bipush (v := 11) F.1 F.2.1 dX11_sends_75 (by decide) ?_
    refine k_ialdN F G 5 rfl (kin (by decide +kernel)) 11 (by decide +kernel) dX11_sends_77 ?_
    refine lv_imul F.1 F.2.1 dX11_sends_78 ?_
    refine lv_iadd F.1 F.2.1 dX11_sends_79 ?_
    refine lv_istore (lv' := [(6, .int (195 + (3 * (rw_2 11)))), (1, .ref aA), (2, .int x2), (3, .int x3), (4, .int x4)]) F.1 F.2.1 dX11_sends_80 hl (by decide) rfl (fun ls hl => ?_)
    refine lv_aload_n F.1 F.2.1 dX11_sends_82 rfl (lv_at hl 1 rfl) ?_
    refine lv_iload F.1 F.2.1 dX11_sends_83 (lv_at hl 0 rfl) ?_
    refine lv_iload_n F.1 F.2.1 dX11_sends_85 rfl (lv_at hl 2 rfl) ?_
    obtain ⟨c, h⟩ := op_g h
    obtain ⟨rw_3, e9, h⟩ := op_st h
    refine k_iast F G 5 rfl c dX11_sends_86 (Wn := (gMR T aM aA z rw_3)) (by subst e9; rfl) (fun H locs G => ?_)
    clear e9
    refine lv_aload_n F.1 F.2.1 dX11_sends_87 rfl (lv_at hl 1 rfl) ?_
    refine lv_iload F.1 F.2.1 dX11_sends_88 (lv_at hl 0 rfl) ?_
    refine lv_iconst (v := 1) F.1 F.2.1 dX11_sends_90 (by decide) ?_
    refine lv_iadd F.1 F.2.1 dX11_sends_91 ?_
    refine lv_iload_n F.1 F.2.1 dX11_sends_92 rfl (lv_at hl 3 rfl) ?_
    obtain ⟨c, h⟩ := op_g h
    obtain ⟨rw_4, e9, h⟩ := op_st h
    refine k_iast F G 5 rfl c dX11_sends_93 (Wn := (gMR T aM aA z rw_4)) (by subst e9; rfl) (fun H locs G => ?_)
    clear e9
    refine lv_aload_n F.1 F.2.1 dX11_sends_94 rfl (lv_at hl 1 rfl) ?_
    refine lv_iload F.1 F.2.1 dX11_sends_95 (lv_at hl 0 rfl) ?_
    refine lv_iconst (v := 2) F.1 F.2.1 dX11_sends_97 (by decide) ?_
    refine lv_iadd F.1 F.2.1 dX11_sends_98 ?_
    refine lv_iload F.1 F.2.1 dX11_sends_99 (lv_at hl 4 rfl) ?_
    obtain ⟨c, h⟩ := op_g h
    obtain ⟨rw_5, e9, h⟩ := op_st h
    refine k_iast F G 5 rfl c dX11_sends_101 (Wn := (gMR T aM aA z rw_5)) (by subst e9; rfl) (fun H locs G => ?_)
    clear e9
    refine lv_aload_n F.1 F.2.1 dX11_sends_102 rfl (lv_at hl 1 rfl) ?_
    refine lv_bipush (v := 11) F.1 F.2.1 dX11_sends_103 (by decide) ?_
    refine lv_dup2_11 F.1 F.2.1 dX11_sends_105 rfl rfl ?_
    refine k_ialdN F G 5 rfl (kin (by decide +kernel)) 11 (by decide +kernel) dX11_sends_106 ?_
    refine lv_iconst (v := 1) F.1 F.2.1 dX11_sends_107 (by decide) ?_
    refine lv_iadd F.1 F.2.1 dX11_sends_108 ?_
    obtain ⟨rw_6, e9, h⟩ := op_st h
    refine k_iastN F G 5 rfl (kin (by decide +kernel)) 11 (by decide +kernel) dX11_sends_109 (Wn := (gMR T aM aA z rw_6)) (by subst e9; rfl) (fun H locs G => ?_)
    clear e9
    obtain rfl := op_1 h
    exact k_vret F hr hlk G dX11_sends_110
  clear hj70
  refine lv_if_le (tgt := 70) F.1 F.2.1 dX11_sends_26 (by decide) (fun c => ?_) (fun c => ?_)
  · have h := op_t h c
    exact J70 _ _ _ h G (lv_sub hl [2, 3, 4, 5] rfl)
  · have h := op_f h c
    refine lv_aload_n F.1 F.2.1 dX11_sends_29 rfl (lv_at hl 2 rfl) ?_
    refine lv_bipush (v := 14) F.1 F.2.1 dX11_sends_30 (by decide) ?_
    refine k_ialdN F G 5 rfl (kin (by decide +kernel)) 14 (by decide +kernel) dX11_sends_32 ?_
    refine lv_if_ne (tgt := 70) F.1 F.2.1 dX11_sends_33 (by decide) (fun c => ?_) (fun c => ?_)
    · have h := op_f h c
      exact J70 _ _ _ h G (lv_sub hl [2, 3, 4, 5] rfl)
    · have h := op_t h c
      refine lv_aload_n F.1 F.2.1 dX11_sends_36 rfl (lv_at hl 1 rfl) ?_
      refine k_get F G 0 rfl (N := 35) (Tt := TX11) rfl kf11 7 (by decide) kl777 (v := .ref (aM 3)) rfl dX11_sends_37 ?_
      refine lv_iload F.1 F.2.1 dX11_sends_40 (lv_at hl 0 rfl) ?_
      refine lv_aload_n F.1 F.2.1 dX11_sends_42 rfl (lv_at hl 1 rfl) ?_
      refine k_get F G 0 rfl (N := 35) (Tt := TX11) rfl kf11 3 (by decide) kl771 (v := .int (z 3 0)) rfl dX11_sends_43 ?_
      obtain ⟨c, h⟩ := op_g h
      refine lv_irem F.1 F.2.1 dX11_sends_46 c ?_
      obtain ⟨c, h⟩ := op_g h
      refine k_iald F G 3 rfl c dX11_sends_47 ?_
      refine lv_iconst (v := 1) F.1 F.2.1 dX11_sends_48 (by decide) ?_
      refine lv_icmp_ne (tgt := 70) F.1 F.2.1 dX11_sends_49 (by decide) (fun c => ?_) (fun c => ?_)
      · have h := op_f h c
        exact J70 _ _ _ h G (lv_sub hl [2, 3, 4, 5] rfl)
      · have h := op_t h c
        refine lv_aload_n F.1 F.2.1 dX11_sends_52 rfl (lv_at hl 2 rfl) ?_
        refine lv_iconst (v := 5) F.1 F.2.1 dX11_sends_53 (by decide) ?_
        refine lv_dup2_11 F.1 F.2.1 dX11_sends_54 rfl rfl ?_
        refine k_ialdN F G 5 rfl (kin (by decide +kernel)) 5 (by decide +kernel) dX11_sends_55 ?_
        refine lv_iconst (v := 1) F.1 F.2.1 dX11_sends_56 (by decide) ?_
        refine lv_iadd F.1 F.2.1 dX11_sends_57 ?_
        obtain ⟨rw_7, e9, h⟩ := op_st h
        refine k_iastN F G 5 rfl (kin (by decide +kernel)) 5 (by decide +kernel) dX11_sends_58 (Wn := (gMR T aM aA z rw_7)) (by subst e9; rfl) (fun H locs G => ?_)
        clear e9
        refine lv_aload_n F.1 F.2.1 dX11_sends_59 rfl (lv_at hl 2 rfl) ?_
        refine lv_bipush (v := 21) F.1 F.2.1 dX11_sends_60 (by decide) ?_
        refine lv_iload_n F.1 F.2.1 dX11_sends_62 rfl (lv_at hl 3 rfl) ?_
        refine lv_iadd F.1 F.2.1 dX11_sends_63 ?_
        refine lv_dup2_11 F.1 F.2.1 dX11_sends_64 rfl rfl ?_
        obtain ⟨c, h⟩ := op_g h
        refine k_iald F G 5 rfl c dX11_sends_65 ?_
        refine lv_iconst (v := 1) F.1 F.2.1 dX11_sends_66 (by decide) ?_
        refine lv_iadd F.1 F.2.1 dX11_sends_67 ?_
        obtain ⟨c, h⟩ := op_g h
        obtain ⟨rw_8, e9, h⟩ := op_st h
        refine k_iast F G 5 rfl c dX11_sends_68 (Wn := (gMR T aM aA z rw_8)) (by subst e9; rfl) (fun H locs G => ?_)
        clear e9
        obtain rfl := op_1 h
        exact k_vret F hr hlk G dX11_sends_69
abbrev rmX11_darkens : Room := ({ frames := 1, cells := 0, slots := 0, locals := 21 } : Room)
noncomputable def qX11_darkens_L43 (z : Nat → Nat → Int32) (K : (Nat → Int32) → Option ((Nat → Int32))) : Nat → Int32 → (Nat → Int32) → Option ((Nat → Int32))
  | 0, _, _ => none
  | n + 1, x4_6, rw_7 =>
    if (z 1 0) ≤ x4_6 then (K rw_7) else bd (qX11_at x4_6 2) fun r_9 => bd (qX11_at x4_6 1) fun r_10 => gd (vp_in r_10 411) (gd (vp_in r_9 411) (bs (upd rw_7 r_9.toNatClampNeg (rw_7 r_10.toNatClampNeg)) fun rw_11 => bd (qX11_at x4_6 3) fun r_12 => gd (vp_in r_12 411) (bs (upd rw_11 r_12.toNatClampNeg 0) fun rw_13 => bd (qX11_at x4_6 6) fun r_14 => gd (vp_in r_14 411) (bs (upd rw_13 r_14.toNatClampNeg (-1)) fun rw_15 => bd (qX11_at x4_6 7) fun r_16 => gd (vp_in r_16 411) (bs (upd rw_15 r_16.toNatClampNeg 0) fun rw_17 => bd (qX11_at x4_6 8) fun r_18 => gd (vp_in r_18 411) (bs (upd rw_17 r_18.toNatClampNeg 0) fun rw_19 => bd (qX11_at x4_6 9) fun r_20 => gd (vp_in r_20 411) (bs (upd rw_19 r_20.toNatClampNeg 0) fun rw_21 => bd (qX11_at x4_6 10) fun r_22 => gd (vp_in r_22 411) (bs (upd rw_21 r_22.toNatClampNeg (rw_21 0)) fun rw_23 => (qX11_darkens_L43 z K n (x4_6 + 1) rw_23)))))))))

noncomputable def qX11_darkens (z : Nat → Nat → Int32) (rw : Nat → Int32) (x2 : Int32) : Option ((Nat → Int32)) :=
  (jn (fun (y_1 : Int32) => (bs (upd rw 1 y_1) fun rw_2 => (bs (upd rw_2 2 ((rw_2 2) + 1)) fun rw_3 => (bs (upd rw_3 11 0) fun rw_4 => (bs (upd rw_4 12 0) fun rw_5 => (qX11_darkens_L43 z  (fun (rw_8 : Nat → Int32) => some rw_8) fu 0 rw_5)))))) fun j22 => if ((rw 0) + x2) ≤ (rw 1) then (j22 (rw 1)) else (j22 ((rw 0) + x2)))

set_option maxHeartbeats 4000000 in
set_option maxRecDepth 100000 in
theorem mX11_darkens (l : Launch) (D : va_G) (T : Nat → ClassId) (aM : Nat → Nat) (aA : Nat) (z : Nat → Nat → Int32) (rw : Nat → Int32) (x2 : Int32) {rwR : Nat → Int32} (hres : qX11_darkens z rw x2 = some (rwR)) : Ct l yX11_darkens (Cond.code yX11_darkens cX11_darkens 5 none :: kAll) rmX11_darkens D T [.ref (aM 0), .ref aA, .int x2] (gMR T aM aA z rw) none (gMR T aM aA z rwR) := by
  refine Ct.of (cc := cX11_darkens) (maxL := 5) (ret := none) (by decide +kernel) rfl (Nat.le_of_ble_eq_true rfl) ?_
  intro pr en st mi ag bl me co A ls F hr hlk hnm G hl
  have hl : lv_has ls 5 [(0, .ref (aM 0)), (1, .ref aA), (2, .int x2)] := hl
  have h := hres
  unfold qX11_darkens at h
  refine lv_aload_n F.1 F.2.1 dX11_darkens_0 rfl (lv_at hl 1 rfl) ?_
  refine lv_iconst (v := 0) F.1 F.2.1 dX11_darkens_1 (by decide) ?_
  refine k_ialdN F G 5 rfl (kin (by decide +kernel)) 0 (by decide +kernel) dX11_darkens_2 ?_
  refine lv_iload_n F.1 F.2.1 dX11_darkens_3 rfl (lv_at hl 2 rfl) ?_
  refine lv_iadd F.1 F.2.1 dX11_darkens_4 ?_
  refine lv_istore_n (lv' := [(3, .int ((rw 0) + x2)), (0, .ref (aM 0)), (1, .ref aA), (2, .int x2)]) F.1 F.2.1 dX11_darkens_5 rfl hl (by decide) rfl (fun ls hl => ?_)
  refine lv_aload_n F.1 F.2.1 dX11_darkens_6 rfl (lv_at hl 2 rfl) ?_
  refine lv_iconst (v := 1) F.1 F.2.1 dX11_darkens_7 (by decide) ?_
  refine lv_iload_n F.1 F.2.1 dX11_darkens_8 rfl (lv_at hl 0 rfl) ?_
  refine lv_aload_n F.1 F.2.1 dX11_darkens_9 rfl (lv_at hl 2 rfl) ?_
  refine lv_iconst (v := 1) F.1 F.2.1 dX11_darkens_10 (by decide) ?_
  refine k_ialdN F G 5 rfl (kin (by decide +kernel)) 1 (by decide +kernel) dX11_darkens_11 ?_
  obtain ⟨j22, hj22, h⟩ := op_j h
  have J22 : ∀ (y_1 : Int32) (H : Heap) (locs : List Loc) (ls : Array Slot), j22 y_1 = some (rwR) → Rg D T A st (gMR T aM aA z rw) H locs → lv_has ls 5 [(0, .ref (aM 0)), (1, .ref aA)] → W pr l en rmX11_darkens st mi ag bl me co H locs 0 0 (MQ bl (kQ none D (gMR T aM aA z rwR) A) ag st rmX11_darkens.cells rmX11_darkens.slots A) (F0 mi 22 ls [.int y_1, .int 1, .ref aA]) := by
    intro y_1 H locs ls h G hl
    rw [hj22] at h
    obtain ⟨rw_2, e9, h⟩ := op_st h
    refine k_iastN F G 5 rfl (kin (by decide +kernel)) 1 (by decide +kernel) dX11_darkens_22 (Wn := (gMR T aM aA z rw_2)) (by subst e9; rfl) (fun H locs G => ?_)
    clear e9
    refine lv_aload_n F.1 F.2.1 dX11_darkens_23 rfl (lv_at hl 1 rfl) ?_
    refine lv_iconst (v := 2) F.1 F.2.1 dX11_darkens_24 (by decide) ?_
    refine lv_dup2_11 F.1 F.2.1 dX11_darkens_25 rfl rfl ?_
    refine k_ialdN F G 5 rfl (kin (by decide +kernel)) 2 (by decide +kernel) dX11_darkens_26 ?_
    refine lv_iconst (v := 1) F.1 F.2.1 dX11_darkens_27 (by decide) ?_
    refine lv_iadd F.1 F.2.1 dX11_darkens_28 ?_
    obtain ⟨rw_3, e9, h⟩ := op_st h
    refine k_iastN F G 5 rfl (kin (by decide +kernel)) 2 (by decide +kernel) dX11_darkens_29 (Wn := (gMR T aM aA z rw_3)) (by subst e9; rfl) (fun H locs G => ?_)
    clear e9
    refine lv_aload_n F.1 F.2.1 dX11_darkens_30 rfl (lv_at hl 1 rfl) ?_
    refine lv_bipush (v := 11) F.1 F.2.1 dX11_darkens_31 (by decide) ?_
    refine lv_iconst (v := 0) F.1 F.2.1 dX11_darkens_33 (by decide) ?_
    obtain ⟨rw_4, e9, h⟩ := op_st h
    refine k_iastN F G 5 rfl (kin (by decide +kernel)) 11 (by decide +kernel) dX11_darkens_34 (Wn := (gMR T aM aA z rw_4)) (by subst e9; rfl) (fun H locs G => ?_)
    clear e9
    refine lv_aload_n F.1 F.2.1 dX11_darkens_35 rfl (lv_at hl 1 rfl) ?_
    refine lv_bipush (v := 12) F.1 F.2.1 dX11_darkens_36 (by decide) ?_
    refine lv_iconst (v := 0) F.1 F.2.1 dX11_darkens_38 (by decide) ?_
    obtain ⟨rw_5, e9, h⟩ := op_st h
    refine k_iastN F G 5 rfl (kin (by decide +kernel)) 12 (by decide +kernel) dX11_darkens_39 (Wn := (gMR T aM aA z rw_5)) (by subst e9; rfl) (fun H locs G => ?_)
    clear e9
    refine lv_iconst (v := 0) F.1 F.2.1 dX11_darkens_40 (by decide) ?_
    refine lv_istore (lv' := [(4, .int 0), (0, .ref (aM 0)), (1, .ref aA)]) F.1 F.2.1 dX11_darkens_41 hl (by decide) rfl (fun ls hl => ?_)
    have L43 : ∀ (z : Nat → Nat → Int32) (K : (Nat → Int32) → Option ((Nat → Int32))) (hK : ∀ (rw_8 : Nat → Int32) (H : Heap) (locs : List Loc) (ls : Array Slot), K rw_8 = some (rwR) → Rg D T A st (gMR T aM aA z rw_8) H locs → lv_has ls 5 [] → W pr l en rmX11_darkens st mi ag bl me co H locs 0 0 (MQ bl (kQ none D (gMR T aM aA z rwR) A) ag st rmX11_darkens.cells rmX11_darkens.slots A) (F0 mi 135 ls [])) (n : Nat) (x4_6 : Int32) (rw_7 : Nat → Int32) (H : Heap) (locs : List Loc) (ls : Array Slot), qX11_darkens_L43 z K n x4_6 rw_7 = some (rwR) → Rg D T A st (gMR T aM aA z rw_7) H locs → lv_has ls 5 [(0, .ref (aM 0)), (1, .ref aA), (4, .int x4_6)] → W pr l en rmX11_darkens st mi ag bl me co H locs 0 0 (MQ bl (kQ none D (gMR T aM aA z rwR) A) ag st rmX11_darkens.cells rmX11_darkens.slots A) (F0 mi 43 ls []) := by
      intro z K hK n
      induction n with
      | zero => intro x4_6 rw_7 H locs ls h; exact op_n h
      | succ n ih =>
        intro x4_6 rw_7 H locs ls h G hl
        rw [qX11_darkens_L43] at h
        refine lv_iload F.1 F.2.1 dX11_darkens_43 (lv_at hl 2 rfl) ?_
        refine lv_aload_n F.1 F.2.1 dX11_darkens_45 rfl (lv_at hl 0 rfl) ?_
        refine k_get F G 0 rfl (N := 35) (Tt := TX11) rfl kf11 1 (by decide) kl769 (v := .int (z 1 0)) rfl dX11_darkens_46 ?_
        refine lv_icmp_ge (tgt := 135) F.1 F.2.1 dX11_darkens_49 (by decide) (fun c => ?_) (fun c => ?_)
        · have h := op_t h c
          exact hK rw_7 _ _ _ h G (lv_sub hl [] rfl)
        · have h := op_f h c
          refine lv_aload_n F.1 F.2.1 dX11_darkens_52 rfl (lv_at hl 1 rfl) ?_
          refine lv_iload F.1 F.2.1 dX11_darkens_53 (lv_at hl 2 rfl) ?_
          refine lv_iconst (v := 2) F.1 F.2.1 dX11_darkens_55 (by decide) ?_
          obtain ⟨r_9, hc, h⟩ := op_b h
          refine k_callS (rv := (some (.int r_9))) (Wc := ([] : va_W)) (W2 := ([] : va_W)) (Wn := (gMR T aM aA z rw_7)) (As := [.int x4_6, .int 2]) (rest := [.ref aA]) F G (mX11_at l D T x4_6 2 hc) (va_cwS 2 F.2.2.2.2 (kg_c kl786 (kg_c kl787 (kg_c kl788 (kg_c kl767 kg_a)))) rfl rfl rfl (by decide +kernel) ⟨Nat.le_of_ble_eq_true rfl, Nat.le_of_ble_eq_true rfl⟩) (kCut_0 G) rfl hl.1 rfl (Nat.le_of_ble_eq_true rfl) dX11_darkens_56 ⟨Nat.le_of_ble_eq_true rfl, Nat.le_of_ble_eq_true rfl⟩ (cN := 0) (sN := 0) ⟨rfl, rfl⟩ (fun H locs G => ?_)
          refine lv_aload_n F.1 F.2.1 dX11_darkens_59 rfl (lv_at hl 1 rfl) ?_
          refine lv_iload F.1 F.2.1 dX11_darkens_60 (lv_at hl 2 rfl) ?_
          refine lv_iconst (v := 1) F.1 F.2.1 dX11_darkens_62 (by decide) ?_
          obtain ⟨r_10, hc, h⟩ := op_b h
          refine k_callS (rv := (some (.int r_10))) (Wc := ([] : va_W)) (W2 := ([] : va_W)) (Wn := (gMR T aM aA z rw_7)) (As := [.int x4_6, .int 1]) (rest := [.ref aA, .int r_9, .ref aA]) F G (mX11_at l D T x4_6 1 hc) (va_cwS 2 F.2.2.2.2 (kg_c kl786 (kg_c kl787 (kg_c kl788 (kg_c kl767 kg_a)))) rfl rfl rfl (by decide +kernel) ⟨Nat.le_of_ble_eq_true rfl, Nat.le_of_ble_eq_true rfl⟩) (kCut_0 G) rfl hl.1 rfl (Nat.le_of_ble_eq_true rfl) dX11_darkens_63 ⟨Nat.le_of_ble_eq_true rfl, Nat.le_of_ble_eq_true rfl⟩ (cN := 0) (sN := 0) ⟨rfl, rfl⟩ (fun H locs G => ?_)
          obtain ⟨c, h⟩ := op_g h
          refine k_iald F G 5 rfl c dX11_darkens_66 ?_
          obtain ⟨c, h⟩ := op_g h
          obtain ⟨rw_11, e9, h⟩ := op_st h
          refine k_iast F G 5 rfl c dX11_darkens_67 (Wn := (gMR T aM aA z rw_11)) (by subst e9; rfl) (fun H locs G => ?_)
          clear e9
          refine lv_aload_n F.1 F.2.1 dX11_darkens_68 rfl (lv_at hl 1 rfl) ?_
          refine lv_iload F.1 F.2.1 dX11_darkens_69 (lv_at hl 2 rfl) ?_
          refine lv_iconst (v := 3) F.1 F.2.1 dX11_darkens_71 (by decide) ?_
          obtain ⟨r_12, hc, h⟩ := op_b h
          refine k_callS (rv := (some (.int r_12))) (Wc := ([] : va_W)) (W2 := ([] : va_W)) (Wn := (gMR T aM aA z rw_11)) (As := [.int x4_6, .int 3]) (rest := [.ref aA]) F G (mX11_at l D T x4_6 3 hc) (va_cwS 2 F.2.2.2.2 (kg_c kl786 (kg_c kl787 (kg_c kl788 (kg_c kl767 kg_a)))) rfl rfl rfl (by decide +kernel) ⟨Nat.le_of_ble_eq_true rfl, Nat.le_of_ble_eq_true rfl⟩) (kCut_0 G) rfl hl.1 rfl (Nat.le_of_ble_eq_true rfl) dX11_darkens_72 ⟨Nat.le_of_ble_eq_true rfl, Nat.le_of_ble_eq_true rfl⟩ (cN := 0) (sN := 0) ⟨rfl, rfl⟩ (fun H locs G => ?_)
          refine lv_iconst (v := 0) F.1 F.2.1 dX11_darkens_75 (by decide) ?_
          obtain ⟨c, h⟩ := op_g h
          obtain ⟨rw_13, e9, h⟩ := op_st h
          refine k_iast F G 5 rfl c dX11_darkens_76 (Wn := (gMR T aM aA z rw_13)) (by subst e9; rfl) (fun H locs G => ?_)
          clear e9
          refine lv_aload_n F.1 F.2.1 dX11_darkens_77 rfl (lv_at hl 1 rfl) ?_
          refine lv_iload F.1 F.2.1 dX11_darkens_78 (lv_at hl 2 rfl) ?_
          refine lv_bipush (v := 6) F.1 F.2.1 dX11_darkens_80 (by decide) ?_
          obtain ⟨r_14, hc, h⟩ := op_b h
          refine k_callS (rv := (some (.int r_14))) (Wc := ([] : va_W)) (W2 := ([] : va_W)) (Wn := (gMR T aM aA z rw_13)) (As := [.int x4_6, .int 6]) (rest := [.ref aA]) F G (mX11_at l D T x4_6 6 hc) (va_cwS 2 F.2.2.2.2 (kg_c kl786 (kg_c kl787 (kg_c kl788 (kg_c kl767 kg_a)))) rfl rfl rfl (by decide +kernel) ⟨Nat.le_of_ble_eq_true rfl, Nat.le_of_ble_eq_true rfl⟩) (kCut_0 G) rfl hl.1 rfl (Nat.le_of_ble_eq_true rfl) dX11_darkens_82 ⟨Nat.le_of_ble_eq_true rfl, Nat.le_of_ble_eq_true rfl⟩ (cN := 0) (sN := 0) ⟨rfl, rfl⟩ (fun H locs G => ?_)
          refine lv_iconst (v := (-1)) F.1 F.2.1 dX11_darkens_85 (by decide) ?_
          obtain ⟨c, h⟩ := op_g h
          obtain ⟨rw_15, e9, h⟩ := op_st h
          refine k_iast F G 5 rfl c dX11_darkens_86 (Wn := (gMR T aM aA z rw_15)) (by subst e9; rfl) (fun H locs G => ?_)
          clear e9
          refine lv_aload_n F.1 F.2.1 dX11_darkens_87 rfl (lv_at hl 1 rfl) ?_
          refine lv_iload F.1 F.2.1 dX11_darkens_88 (lv_at hl 2 rfl) ?_
          refine lv_bipush (v := 7) F.1 F.2.1 dX11_darkens_90 (by decide) ?_
          obtain ⟨r_16, hc, h⟩ := op_b h
          refine k_callS (rv := (some (.int r_16))) (Wc := ([] : va_W)) (W2 := ([] : va_W)) (Wn := (gMR T aM aA z rw_15)) (As := [.int x4_6, .int 7]) (rest := [.ref aA]) F G (mX11_at l D T x4_6 7 hc) (va_cwS 2 F.2.2.2.2 (kg_c kl786 (kg_c kl787 (kg_c kl788 (kg_c kl767 kg_a)))) rfl rfl rfl (by decide +kernel) ⟨Nat.le_of_ble_eq_true rfl, Nat.le_of_ble_eq_true rfl⟩) (kCut_0 G) rfl hl.1 rfl (Nat.le_of_ble_eq_true rfl) dX11_darkens_92 ⟨Nat.le_of_ble_eq_true rfl, Nat.le_of_ble_eq_true rfl⟩ (cN := 0) (sN := 0) ⟨rfl, rfl⟩ (fun H locs G => ?_)
          refine lv_iconst (v := 0) F.1 F.2.1 dX11_darkens_95 (by decide) ?_
          obtain ⟨c, h⟩ := op_g h
          obtain ⟨rw_17, e9, h⟩ := op_st h
          refine k_iast F G 5 rfl c dX11_darkens_96 (Wn := (gMR T aM aA z rw_17)) (by subst e9; rfl) (fun H locs G => ?_)
          clear e9
          refine lv_aload_n F.1 F.2.1 dX11_darkens_97 rfl (lv_at hl 1 rfl) ?_
          refine lv_iload F.1 F.2.1 dX11_darkens_98 (lv_at hl 2 rfl) ?_
          refine lv_bipush (v := 8) F.1 F.2.1 dX11_darkens_100 (by decide) ?_
          obtain ⟨r_18, hc, h⟩ := op_b h
          refine k_callS (rv := (some (.int r_18))) (Wc := ([] : va_W)) (W2 := ([] : va_W)) (Wn := (gMR T aM aA z rw_17)) (As := [.int x4_6, .int 8]) (rest := [.ref aA]) F G (mX11_at l D T x4_6 8 hc) (va_cwS 2 F.2.2.2.2 (kg_c kl786 (kg_c kl787 (kg_c kl788 (kg_c kl767 kg_a)))) rfl rfl rfl (by decide +kernel) ⟨Nat.le_of_ble_eq_true rfl, Nat.le_of_ble_eq_true rfl⟩) (kCut_0 G) rfl hl.1 rfl (Nat.le_of_ble_eq_true rfl) dX11_darkens_102 ⟨Nat.le_of_ble_eq_true rfl, Nat.le_of_ble_eq_true rfl⟩ (cN := 0) (sN := 0) ⟨rfl, rfl⟩ (fun H locs G => ?_)
          refine lv_iconst (v := 0) F.1 F.2.1 dX11_darkens_105 (by decide) ?_
          obtain ⟨c, h⟩ := op_g h
          obtain ⟨rw_19, e9, h⟩ := op_st h
          refine k_iast F G 5 rfl c dX11_darkens_106 (Wn := (gMR T aM aA z rw_19)) (by subst e9; rfl) (fun H locs G => ?_)
          clear e9
          refine lv_aload_n F.1 F.2.1 dX11_darkens_107 rfl (lv_at hl 1 rfl) ?_
          refine lv_iload F.1 F.2.1 dX11_darkens_108 (lv_at hl 2 rfl) ?_
          refine lv_bipush (v := 9) F.1 F.2.1 dX11_darkens_110 (by decide) ?_
          obtain ⟨r_20, hc, h⟩ := op_b h
          refine k_callS (rv := (some (.int r_20))) (Wc := ([] : va_W)) (W2 := ([] : va_W)) (Wn := (gMR T aM aA z rw_19)) (As := [.int x4_6, .int 9]) (rest := [.ref aA]) F G (mX11_at l D T x4_6 9 hc) (va_cwS 2 F.2.2.2.2 (kg_c kl786 (kg_c kl787 (kg_c kl788 (kg_c kl767 kg_a)))) rfl rfl rfl (by decide +kernel) ⟨Nat.le_of_ble_eq_true rfl, Nat.le_of_ble_eq_true rfl⟩) (kCut_0 G) rfl hl.1 rfl (Nat.le_of_ble_eq_true rfl) dX11_darkens_112 ⟨Nat.le_of_ble_eq_true rfl, Nat.le_of_ble_eq_true rfl⟩ (cN := 0) (sN := 0) ⟨rfl, rfl⟩ (fun H locs G => ?_)
          refine lv_iconst (v := 0) F.1 F.2.1 dX11_darkens_115 (by decide) ?_
          obtain ⟨c, h⟩ := op_g h
          obtain ⟨rw_21, e9, h⟩ := op_st h
          refine k_iast F G 5 rfl c dX11_darkens_116 (Wn := (gMR T aM aA z rw_21)) (by subst e9; rfl) (fun H locs G => ?_)
          clear e9
          refine lv_aload_n F.1 F.2.1 dX11_darkens_117 rfl (lv_at hl 1 rfl) ?_
          refine lv_iload F.1 F.2.1 dX11_darkens_118 (lv_at hl 2 rfl) ?_
          refine lv_bipush (v := 10) F.1 F.2.1 dX11_darkens_120 (by decide) ?_
          obtain ⟨r_22, hc, h⟩ := op_b h
          refine k_callS (rv := (some (.int r_22))) (Wc := ([] : va_W)) (W2 := ([] : va_W)) (Wn := (gMR T aM aA z rw_21)) (As := [.int x4_6, .int 10]) (rest := [.ref aA]) F G (mX11_at l D T x4_6 10 hc) (va_cwS 2 F.2.2.2.2 (kg_c kl786 (kg_c kl787 (kg_c kl788 (kg_c kl767 kg_a)))) rfl rfl rfl (by decide +kernel) ⟨Nat.le_of_ble_eq_true rfl, Nat.le_of_ble_eq_true rfl⟩) (kCut_0 G) rfl hl.1 rfl (Nat.le_of_ble_eq_true rfl) dX11_darkens_122 ⟨Nat.le_of_ble_eq_true rfl, Nat.le_of_ble_eq_true rfl⟩ (cN := 0) (sN := 0) ⟨rfl, rfl⟩ (fun H locs G => ?_)
          refine lv_aload_n F.1 F.2.1 dX11_darkens_125 rfl (lv_at hl 1 rfl) ?_
          refine lv_iconst (v := 0) F.1 F.2.1 dX11_darkens_126 (by decide) ?_
          refine k_ialdN F G 5 rfl (kin (by decide +kernel)) 0 (by decide +kernel) dX11_darkens_127 ?_
          obtain ⟨c, h⟩ := op_g h
          obtain ⟨rw_23, e9, h⟩ := op_st h
          refine k_iast F G 5 rfl c dX11_darkens_128 (Wn := (gMR T aM aA z rw_23)) (by subst e9; rfl) (fun H locs G => ?_)
          clear e9
          refine lv_iinc (v := (x4_6 + 1)) (lv' := [(4, .int (x4_6 + 1)), (0, .ref (aM 0)), (1, .ref aA)]) F.1 F.2.1 dX11_darkens_129 hl (k := 2) rfl rfl (by decide) rfl (fun ls hl => ?_)
          refine lv_goto (tgt := 43) F.1 F.2.1 dX11_darkens_132 (by decide) ?_
          exact ih (x4_6 + 1) rw_23 _ _ _ h G (lv_sub hl [1, 2, 0] rfl)
    refine L43 z  _ (fun rw_8 H locs ls h G hl => ?_) fu 0 rw_5 _ _ _ h G (lv_sub hl [1, 2, 0] rfl)
    clear L43
    obtain rfl := op_1 h
    exact k_vret F hr hlk G dX11_darkens_135
  clear hj22
  refine lv_icmp_le (tgt := 19) F.1 F.2.1 dX11_darkens_12 (by decide) (fun c => ?_) (fun c => ?_)
  · have h := op_t h c
    refine lv_aload_n F.1 F.2.1 dX11_darkens_19 rfl (lv_at hl 2 rfl) ?_
    refine lv_iconst (v := 1) F.1 F.2.1 dX11_darkens_20 (by decide) ?_
    refine k_ialdN F G 5 rfl (kin (by decide +kernel)) 1 (by decide +kernel) dX11_darkens_21 ?_
    exact J22 (rw 1) _ _ _ h G (lv_sub hl [1, 2] rfl)
  · have h := op_f h c
    refine lv_iload_n F.1 F.2.1 dX11_darkens_15 rfl (lv_at hl 0 rfl) ?_
    refine lv_goto (tgt := 22) F.1 F.2.1 dX11_darkens_16 (by decide) ?_
    exact J22 ((rw 0) + x2) _ _ _ h G (lv_sub hl [1, 2] rfl)
abbrev rmX11_marks : Room := ({ frames := 1, cells := 0, slots := 0, locals := 21 } : Room)
noncomputable def qX11_marks_L38 (z : Nat → Nat → Int32) (rw_9 : Nat → Int32) (x2_7 : Int32) (K : Unit → Option ((Nat → Int32))) : Nat → Int32 → Option ((Nat → Int32))
  | 0, _ => none
  | n + 1, x4_8 =>
    if (rw_9 12) ≤ x4_8 then (K ()) else gd (vp_in (27 + x4_8) 411) (if (rw_9 (27 + x4_8).toNatClampNeg) = x2_7 then some rw_9 else (qX11_marks_L38 z rw_9 x2_7 K n (x4_8 + 1)))

noncomputable def qX11_marks (z : Nat → Nat → Int32) (rw : Nat → Int32) (x2 : Int32) (x3 : Int32) : Option ((Nat → Int32)) :=
  bd (qX11_at x2 9) fun r_1 => gd (vp_in r_1 411) (bs (upd rw r_1.toNatClampNeg x3) fun rw_2 => bd (qX11_at x2 10) fun r_3 => gd (vp_in r_3 411) (bs (upd rw_2 r_3.toNatClampNeg (rw_2 0)) fun rw_4 => if x3 = 3 then bd (qX11_at x2 11) fun r_5 => gd (vp_in r_5 411) (bs (upd rw_4 r_5.toNatClampNeg 1) fun rw_6 => (qX11_marks_L38 z rw_6 x2 (fun (_u : Unit) => gd (vp_in (27 + (rw_6 12)) 411) (bs (upd rw_6 (27 + (rw_6 12)).toNatClampNeg x2) fun rw_10 => (bs (upd rw_10 12 ((rw_10 12) + 1)) fun rw_11 => some rw_11))) fu 0 )) else some rw_4))

set_option maxHeartbeats 4000000 in
set_option maxRecDepth 100000 in
theorem mX11_marks (l : Launch) (D : va_G) (T : Nat → ClassId) (aM : Nat → Nat) (aA : Nat) (z : Nat → Nat → Int32) (rw : Nat → Int32) (x2 : Int32) (x3 : Int32) {rwR : Nat → Int32} (hres : qX11_marks z rw x2 x3 = some (rwR)) : Ct l yX11_marks (Cond.code yX11_marks cX11_marks 5 none :: kAll) rmX11_marks D T [.ref (aM 0), .ref aA, .int x2, .int x3] (gMR T aM aA z rw) none (gMR T aM aA z rwR) := by
  refine Ct.of (cc := cX11_marks) (maxL := 5) (ret := none) (by decide +kernel) rfl (Nat.le_of_ble_eq_true rfl) ?_
  intro pr en st mi ag bl me co A ls F hr hlk hnm G hl
  have hl : lv_has ls 5 [(0, .ref (aM 0)), (1, .ref aA), (2, .int x2), (3, .int x3)] := hl
  have h := hres
  unfold qX11_marks at h
  refine lv_aload_n F.1 F.2.1 dX11_marks_0 rfl (lv_at hl 1 rfl) ?_
  refine lv_iload_n F.1 F.2.1 dX11_marks_1 rfl (lv_at hl 2 rfl) ?_
  refine lv_bipush (v := 9) F.1 F.2.1 dX11_marks_2 (by decide) ?_
  obtain ⟨r_1, hc, h⟩ := op_b h
  refine k_callS (rv := (some (.int r_1))) (Wc := ([] : va_W)) (W2 := ([] : va_W)) (Wn := (gMR T aM aA z rw)) (As := [.int x2, .int 9]) (rest := [.ref aA]) F G (mX11_at l D T x2 9 hc) (va_cwS 2 F.2.2.2.2 (kg_c kl786 (kg_c kl787 (kg_c kl788 (kg_c kl767 kg_a)))) rfl rfl rfl (by decide +kernel) ⟨Nat.le_of_ble_eq_true rfl, Nat.le_of_ble_eq_true rfl⟩) (kCut_0 G) rfl hl.1 rfl (Nat.le_of_ble_eq_true rfl) dX11_marks_4 ⟨Nat.le_of_ble_eq_true rfl, Nat.le_of_ble_eq_true rfl⟩ (cN := 0) (sN := 0) ⟨rfl, rfl⟩ (fun H locs G => ?_)
  refine lv_iload_n F.1 F.2.1 dX11_marks_7 rfl (lv_at hl 3 rfl) ?_
  obtain ⟨c, h⟩ := op_g h
  obtain ⟨rw_2, e9, h⟩ := op_st h
  refine k_iast F G 5 rfl c dX11_marks_8 (Wn := (gMR T aM aA z rw_2)) (by subst e9; rfl) (fun H locs G => ?_)
  clear e9
  refine lv_aload_n F.1 F.2.1 dX11_marks_9 rfl (lv_at hl 1 rfl) ?_
  refine lv_iload_n F.1 F.2.1 dX11_marks_10 rfl (lv_at hl 2 rfl) ?_
  refine lv_bipush (v := 10) F.1 F.2.1 dX11_marks_11 (by decide) ?_
  obtain ⟨r_3, hc, h⟩ := op_b h
  refine k_callS (rv := (some (.int r_3))) (Wc := ([] : va_W)) (W2 := ([] : va_W)) (Wn := (gMR T aM aA z rw_2)) (As := [.int x2, .int 10]) (rest := [.ref aA]) F G (mX11_at l D T x2 10 hc) (va_cwS 2 F.2.2.2.2 (kg_c kl786 (kg_c kl787 (kg_c kl788 (kg_c kl767 kg_a)))) rfl rfl rfl (by decide +kernel) ⟨Nat.le_of_ble_eq_true rfl, Nat.le_of_ble_eq_true rfl⟩) (kCut_0 G) rfl hl.1 rfl (Nat.le_of_ble_eq_true rfl) dX11_marks_13 ⟨Nat.le_of_ble_eq_true rfl, Nat.le_of_ble_eq_true rfl⟩ (cN := 0) (sN := 0) ⟨rfl, rfl⟩ (fun H locs G => ?_)
  refine lv_aload_n F.1 F.2.1 dX11_marks_16 rfl (lv_at hl 1 rfl) ?_
  refine lv_iconst (v := 0) F.1 F.2.1 dX11_marks_17 (by decide) ?_
  refine k_ialdN F G 5 rfl (kin (by decide +kernel)) 0 (by decide +kernel) dX11_marks_18 ?_
  obtain ⟨c, h⟩ := op_g h
  obtain ⟨rw_4, e9, h⟩ := op_st h
  refine k_iast F G 5 rfl c dX11_marks_19 (Wn := (gMR T aM aA z rw_4)) (by subst e9; rfl) (fun H locs G => ?_)
  clear e9
  refine lv_iload_n F.1 F.2.1 dX11_marks_20 rfl (lv_at hl 3 rfl) ?_
  refine lv_iconst (v := 3) F.1 F.2.1 dX11_marks_21 (by decide) ?_
  refine lv_icmp_eq (tgt := 26) F.1 F.2.1 dX11_marks_22 (by decide) (fun c => ?_) (fun c => ?_)
  · have h := op_t h c
    refine lv_aload_n F.1 F.2.1 dX11_marks_26 rfl (lv_at hl 1 rfl) ?_
    refine lv_iload_n F.1 F.2.1 dX11_marks_27 rfl (lv_at hl 2 rfl) ?_
    refine lv_bipush (v := 11) F.1 F.2.1 dX11_marks_28 (by decide) ?_
    obtain ⟨r_5, hc, h⟩ := op_b h
    refine k_callS (rv := (some (.int r_5))) (Wc := ([] : va_W)) (W2 := ([] : va_W)) (Wn := (gMR T aM aA z rw_4)) (As := [.int x2, .int 11]) (rest := [.ref aA]) F G (mX11_at l D T x2 11 hc) (va_cwS 2 F.2.2.2.2 (kg_c kl786 (kg_c kl787 (kg_c kl788 (kg_c kl767 kg_a)))) rfl rfl rfl (by decide +kernel) ⟨Nat.le_of_ble_eq_true rfl, Nat.le_of_ble_eq_true rfl⟩) (kCut_0 G) rfl hl.1 rfl (Nat.le_of_ble_eq_true rfl) dX11_marks_30 ⟨Nat.le_of_ble_eq_true rfl, Nat.le_of_ble_eq_true rfl⟩ (cN := 0) (sN := 0) ⟨rfl, rfl⟩ (fun H locs G => ?_)
    refine lv_iconst (v := 1) F.1 F.2.1 dX11_marks_33 (by decide) ?_
    obtain ⟨c, h⟩ := op_g h
    obtain ⟨rw_6, e9, h⟩ := op_st h
    refine k_iast F G 5 rfl c dX11_marks_34 (Wn := (gMR T aM aA z rw_6)) (by subst e9; rfl) (fun H locs G => ?_)
    clear e9
    refine lv_iconst (v := 0) F.1 F.2.1 dX11_marks_35 (by decide) ?_
    refine lv_istore (lv' := [(4, .int 0), (0, .ref (aM 0)), (1, .ref aA), (2, .int x2), (3, .int x3)]) F.1 F.2.1 dX11_marks_36 hl (by decide) rfl (fun ls hl => ?_)
    have L38 : ∀ (z : Nat → Nat → Int32) (rw_9 : Nat → Int32) (x2_7 : Int32) (K : Unit → Option ((Nat → Int32))) (hK : ∀ (_u : Unit) (H : Heap) (locs : List Loc) (ls : Array Slot), K _u = some (rwR) → Rg D T A st (gMR T aM aA z rw_9) H locs → lv_has ls 5 [(1, .ref aA), (2, .int x2_7)] → W pr l en rmX11_marks st mi ag bl me co H locs 0 0 (MQ bl (kQ none D (gMR T aM aA z rwR) A) ag st rmX11_marks.cells rmX11_marks.slots A) (F0 mi 65 ls [])) (n : Nat) (x4_8 : Int32) (H : Heap) (locs : List Loc) (ls : Array Slot), qX11_marks_L38 z rw_9 x2_7 K n x4_8 = some (rwR) → Rg D T A st (gMR T aM aA z rw_9) H locs → lv_has ls 5 [(1, .ref aA), (2, .int x2_7), (4, .int x4_8)] → W pr l en rmX11_marks st mi ag bl me co H locs 0 0 (MQ bl (kQ none D (gMR T aM aA z rwR) A) ag st rmX11_marks.cells rmX11_marks.slots A) (F0 mi 38 ls []) := by
      intro z rw_9 x2_7 K hK n
      induction n with
      | zero => intro x4_8 H locs ls h; exact op_n h
      | succ n ih =>
        intro x4_8 H locs ls h G hl
        rw [qX11_marks_L38] at h
        refine lv_iload F.1 F.2.1 dX11_marks_38 (lv_at hl 2 rfl) ?_
        refine lv_aload_n F.1 F.2.1 dX11_marks_40 rfl (lv_at hl 0 rfl) ?_
        refine lv_bipush (v := 12) F.1 F.2.1 dX11_marks_41 (by decide) ?_
        refine k_ialdN F G 5 rfl (kin (by decide +kernel)) 12 (by decide +kernel) dX11_marks_43 ?_
        refine lv_icmp_ge (tgt := 65) F.1 F.2.1 dX11_marks_44 (by decide) (fun c => ?_) (fun c => ?_)
        · have h := op_t h c
          exact hK () _ _ _ h G (lv_sub hl [0, 1] rfl)
        · have h := op_f h c
          refine lv_aload_n F.1 F.2.1 dX11_marks_47 rfl (lv_at hl 0 rfl) ?_
          refine lv_bipush (v := 27) F.1 F.2.1 dX11_marks_48 (by decide) ?_
          refine lv_iload F.1 F.2.1 dX11_marks_50 (lv_at hl 2 rfl) ?_
          refine lv_iadd F.1 F.2.1 dX11_marks_52 ?_
          obtain ⟨c, h⟩ := op_g h
          refine k_iald F G 5 rfl c dX11_marks_53 ?_
          refine lv_iload_n F.1 F.2.1 dX11_marks_54 rfl (lv_at hl 1 rfl) ?_
          refine lv_icmp_ne (tgt := 59) F.1 F.2.1 dX11_marks_55 (by decide) (fun c => ?_) (fun c => ?_)
          · have h := op_f h c
            refine lv_iinc (v := (x4_8 + 1)) (lv' := [(4, .int (x4_8 + 1)), (1, .ref aA), (2, .int x2_7)]) F.1 F.2.1 dX11_marks_59 hl (k := 2) rfl rfl (by decide) rfl (fun ls hl => ?_)
            refine lv_goto (tgt := 38) F.1 F.2.1 dX11_marks_62 (by decide) ?_
            exact ih (x4_8 + 1) _ _ _ h G (lv_sub hl [1, 2, 0] rfl)
          · have h := op_t h c
            obtain rfl := op_1 h
            exact k_vret F hr hlk G dX11_marks_58
    refine L38 z rw_6 x2 _ (fun _u H locs ls h G hl => ?_) fu 0  _ _ _ h G (lv_sub hl [2, 3, 0] rfl)
    clear L38
    refine lv_aload_n F.1 F.2.1 dX11_marks_65 rfl (lv_at hl 0 rfl) ?_
    refine lv_bipush (v := 27) F.1 F.2.1 dX11_marks_66 (by decide) ?_
    refine lv_aload_n F.1 F.2.1 dX11_marks_68 rfl (lv_at hl 0 rfl) ?_
    refine lv_bipush (v := 12) F.1 F.2.1 dX11_marks_69 (by decide) ?_
    refine k_ialdN F G 5 rfl (kin (by decide +kernel)) 12 (by decide +kernel) dX11_marks_71 ?_
    refine lv_iadd F.1 F.2.1 dX11_marks_72 ?_
    refine lv_iload_n F.1 F.2.1 dX11_marks_73 rfl (lv_at hl 1 rfl) ?_
    obtain ⟨c, h⟩ := op_g h
    obtain ⟨rw_10, e9, h⟩ := op_st h
    refine k_iast F G 5 rfl c dX11_marks_74 (Wn := (gMR T aM aA z rw_10)) (by subst e9; rfl) (fun H locs G => ?_)
    clear e9
    refine lv_aload_n F.1 F.2.1 dX11_marks_75 rfl (lv_at hl 0 rfl) ?_
    refine lv_bipush (v := 12) F.1 F.2.1 dX11_marks_76 (by decide) ?_
    refine lv_dup2_11 F.1 F.2.1 dX11_marks_78 rfl rfl ?_
    refine k_ialdN F G 5 rfl (kin (by decide +kernel)) 12 (by decide +kernel) dX11_marks_79 ?_
    refine lv_iconst (v := 1) F.1 F.2.1 dX11_marks_80 (by decide) ?_
    refine lv_iadd F.1 F.2.1 dX11_marks_81 ?_
    obtain ⟨rw_11, e9, h⟩ := op_st h
    refine k_iastN F G 5 rfl (kin (by decide +kernel)) 12 (by decide +kernel) dX11_marks_82 (Wn := (gMR T aM aA z rw_11)) (by subst e9; rfl) (fun H locs G => ?_)
    clear e9
    obtain rfl := op_1 h
    exact k_vret F hr hlk G dX11_marks_83
  · have h := op_f h c
    obtain rfl := op_1 h
    exact k_vret F hr hlk G dX11_marks_25
abbrev rmX11_receives : Room := ({ frames := 2, cells := 0, slots := 0, locals := 45 } : Room)
noncomputable def qX11_receives (z : Nat → Nat → Int32) (rw : Nat → Int32) (x2 : Int32) : Option ((Nat → Int32)) :=
  gd (vp_in (x2 + 1) 411) (bd (qX11_at (rw (x2 + 1).toNatClampNeg) 9) fun r_1 => gd (vp_in r_1 411) (gd (vp_in x2 411) ((if (rw x2.toNatClampNeg) = 0 then (jn (fun (_ : Unit) => bd (qX11_marks z rw (rw (x2 + 1).toNatClampNeg) 1) fun rw_2 => some rw_2) fun j63 => if (rw r_1.toNatClampNeg) = 0 then (j63 ()) else if (rw r_1.toNatClampNeg) = 3 then (j63 ()) else some rw) else if (rw x2.toNatClampNeg) = 1 then bd (qX11_marks z rw (rw (x2 + 1).toNatClampNeg) 3) fun rw_3 => some rw_3 else if (rw x2.toNatClampNeg) = 2 then bd (qX11_marks z rw (rw (x2 + 1).toNatClampNeg) 0) fun rw_4 => some rw_4 else if (rw x2.toNatClampNeg) = 3 then (jn (fun (_ : Unit) => gd (vp_in (x2 + 2) 411) (if (rw (x2 + 2).toNatClampNeg) = 2 then bd (qX11_at (rw (x2 + 1).toNatClampNeg) 10) fun r_6 => gd (vp_in r_6 411) (bs (upd rw r_6.toNatClampNeg (rw 0)) fun rw_7 => some rw_7) else gd (vp_in (x2 + 2) 411) (bd (qX11_marks z rw (rw (x2 + 1).toNatClampNeg) (rw (x2 + 2).toNatClampNeg)) fun rw_5 => some rw_5))) fun j118 => if (rw r_1.toNatClampNeg) = 2 then bd (qX11_at (rw (x2 + 1).toNatClampNeg) 10) fun r_8 => gd (vp_in r_8 411) (if (rw r_8.toNatClampNeg) = ((rw 0) - 1) then some rw else (j118 ())) else (j118 ())) else if (rw x2.toNatClampNeg) = 4 then bd (qX11_at (rw (x2 + 1).toNatClampNeg) 2) fun r_9 => gd (vp_in r_9 411) (if (rw r_9.toNatClampNeg) = 1 then bd (qX11_at (rw (x2 + 1).toNatClampNeg) 2) fun r_10 => gd (vp_in r_10 411) (bs (upd rw r_10.toNatClampNeg 2) fun rw_11 => bd (qX11_at (rw (x2 + 1).toNatClampNeg) 3) fun r_12 => gd (vp_in ((4 * (rw (x2 + 1).toNatClampNeg)) + 3) 48) (gd (vp_in r_12 411) (bs (upd rw_11 r_12.toNatClampNeg ((z 5) ((4 * (rw (x2 + 1).toNatClampNeg)) + 3).toNatClampNeg)) fun rw_13 => bd (qX11_at (rw (x2 + 1).toNatClampNeg) 4) fun r_14 => gd (vp_in r_14 411) (gd (vp_in r_14 411) (bs (upd rw_13 r_14.toNatClampNeg ((rw_13 r_14.toNatClampNeg) + 1)) fun rw_15 => some rw_15))))) else some rw) else bd (qX11_at (rw (x2 + 1).toNatClampNeg) 8) fun r_16 => gd (vp_in r_16 411) (bs (upd rw r_16.toNatClampNeg 1) fun rw_17 => some rw_17)))))

set_option maxHeartbeats 4000000 in
set_option maxRecDepth 100000 in
theorem mX11_receives (l : Launch) (D : va_G) (T : Nat → ClassId) (aM : Nat → Nat) (aA : Nat) (z : Nat → Nat → Int32) (rw : Nat → Int32) (x2 : Int32) {rwR : Nat → Int32} (hres : qX11_receives z rw x2 = some (rwR)) : Ct l yX11_receives (Cond.code yX11_receives cX11_receives 5 none :: kAll) rmX11_receives D T [.ref (aM 0), .ref aA, .int x2] (gMR T aM aA z rw) none (gMR T aM aA z rwR) := by
  refine Ct.of (cc := cX11_receives) (maxL := 5) (ret := none) (by decide +kernel) rfl (Nat.le_of_ble_eq_true rfl) ?_
  intro pr en st mi ag bl me co A ls F hr hlk hnm G hl
  have hl : lv_has ls 5 [(0, .ref (aM 0)), (1, .ref aA), (2, .int x2)] := hl
  have h := hres
  unfold qX11_receives at h
  refine lv_aload_n F.1 F.2.1 dX11_receives_0 rfl (lv_at hl 1 rfl) ?_
  refine lv_iload_n F.1 F.2.1 dX11_receives_1 rfl (lv_at hl 2 rfl) ?_
  refine lv_iconst (v := 1) F.1 F.2.1 dX11_receives_2 (by decide) ?_
  refine lv_iadd F.1 F.2.1 dX11_receives_3 ?_
  obtain ⟨c, h⟩ := op_g h
  refine k_iald F G 5 rfl c dX11_receives_4 ?_
  refine lv_istore_n (lv' := [(3, .int (rw (x2 + 1).toNatClampNeg)), (0, .ref (aM 0)), (1, .ref aA), (2, .int x2)]) F.1 F.2.1 dX11_receives_5 rfl hl (by decide) rfl (fun ls hl => ?_)
  refine lv_aload_n F.1 F.2.1 dX11_receives_6 rfl (lv_at hl 2 rfl) ?_
  refine lv_iload_n F.1 F.2.1 dX11_receives_7 rfl (lv_at hl 0 rfl) ?_
  refine lv_bipush (v := 9) F.1 F.2.1 dX11_receives_8 (by decide) ?_
  obtain ⟨r_1, hc, h⟩ := op_b h
  refine k_callS (rv := (some (.int r_1))) (Wc := ([] : va_W)) (W2 := ([] : va_W)) (Wn := (gMR T aM aA z rw)) (As := [.int (rw (x2 + 1).toNatClampNeg), .int 9]) (rest := [.ref aA]) F G (mX11_at l D T (rw (x2 + 1).toNatClampNeg) 9 hc) (va_cwS 2 F.2.2.2.2 (kg_c kl786 (kg_c kl787 (kg_c kl788 (kg_c kl767 kg_a)))) rfl rfl rfl (by decide +kernel) ⟨Nat.le_of_ble_eq_true rfl, Nat.le_of_ble_eq_true rfl⟩) (kCut_0 G) rfl hl.1 rfl (Nat.le_of_ble_eq_true rfl) dX11_receives_10 ⟨Nat.le_of_ble_eq_true rfl, Nat.le_of_ble_eq_true rfl⟩ (cN := 0) (sN := 0) ⟨rfl, rfl⟩ (fun H locs G => ?_)
  obtain ⟨c, h⟩ := op_g h
  refine k_iald F G 5 rfl c dX11_receives_13 ?_
  refine lv_istore (lv' := [(4, .int (rw r_1.toNatClampNeg)), (3, .int (rw (x2 + 1).toNatClampNeg)), (0, .ref (aM 0)), (1, .ref aA), (2, .int x2)]) F.1 F.2.1 dX11_receives_14 hl (by decide) rfl (fun ls hl => ?_)
  refine lv_aload_n F.1 F.2.1 dX11_receives_16 rfl (lv_at hl 3 rfl) ?_
  refine lv_iload_n F.1 F.2.1 dX11_receives_17 rfl (lv_at hl 4 rfl) ?_
  obtain ⟨c, h⟩ := op_g h
  refine k_iald F G 5 rfl c dX11_receives_18 ?_
  by_cases c0 : (rw x2.toNatClampNeg) = 0
  · have h := op_t h c0
    refine k_tab F dX11_receives_19 (tgt := 52) 0 c0 (by decide) (by decide) rfl (by decide) ?_
    refine lv_iload F.1 F.2.1 dX11_receives_52 (lv_at hl 0 rfl) ?_
    obtain ⟨j63, hj63, h⟩ := op_j h
    have J63 : ∀ (H : Heap) (locs : List Loc) (ls : Array Slot), j63 () = some (rwR) → Rg D T A st (gMR T aM aA z rw) H locs → lv_has ls 5 [(0, .ref (aM 0)), (1, .ref aA), (3, .int (rw (x2 + 1).toNatClampNeg))] → W pr l en rmX11_receives st mi ag bl me co H locs 0 0 (MQ bl (kQ none D (gMR T aM aA z rwR) A) ag st rmX11_receives.cells rmX11_receives.slots A) (F0 mi 63 ls []) := by
      intro H locs ls h G hl
      rw [hj63] at h
      refine lv_aload_n F.1 F.2.1 dX11_receives_63 rfl (lv_at hl 0 rfl) ?_
      refine lv_aload_n F.1 F.2.1 dX11_receives_64 rfl (lv_at hl 1 rfl) ?_
      refine lv_iload_n F.1 F.2.1 dX11_receives_65 rfl (lv_at hl 2 rfl) ?_
      refine lv_iconst (v := 1) F.1 F.2.1 dX11_receives_66 (by decide) ?_
      obtain ⟨rw_2, hc, h⟩ := op_b h
      refine k_callV (rv := none) (Wc := (gMR T aM (aA) z rw)) (W2 := (gMR T aM (aA) z rw_2)) (Wn := (gMR T aM aA z rw_2)) (As := [.ref aA, .int (rw (x2 + 1).toNatClampNeg), .int 1]) (rest := []) F G (mX11_marks l D T aM (aA) z rw (rw (x2 + 1).toNatClampNeg) 1 hc) (cwV 3 F.2.2.2.2 (kg_c kl928 (kg_c kl929 (kg_c kl930 (kg_c kl788 (kg_c kl926 kg_a))))) rfl rfl rfl (by decide +kernel) ⟨Nat.le_of_ble_eq_true rfl, Nat.le_of_ble_eq_true rfl⟩) 0 rfl (q := (RX11, TX11, 35)) rfl rfl (kCut_F G) rfl hl.1 rfl (Nat.le_of_ble_eq_true rfl) dX11_receives_67 ⟨Nat.le_of_ble_eq_true rfl, Nat.le_of_ble_eq_true rfl⟩ (cN := 0) (sN := 0) ⟨rfl, rfl⟩ (fun H locs G => ?_)
      refine lv_goto (tgt := 217) F.1 F.2.1 dX11_receives_70 (by decide) ?_
      obtain rfl := op_1 h
      exact k_vret F hr hlk G dX11_receives_217
    clear hj63
    refine lv_if_eq (tgt := 63) F.1 F.2.1 dX11_receives_54 (by decide) (fun c => ?_) (fun c => ?_)
    · have h := op_t h c
      exact J63 _ _ _ h G (lv_sub hl [2, 3, 1] rfl)
    · have h := op_f h c
      refine lv_iload F.1 F.2.1 dX11_receives_57 (lv_at hl 0 rfl) ?_
      refine lv_iconst (v := 3) F.1 F.2.1 dX11_receives_59 (by decide) ?_
      refine lv_icmp_ne (tgt := 217) F.1 F.2.1 dX11_receives_60 (by decide) (fun c => ?_) (fun c => ?_)
      · have h := op_f h c
        obtain rfl := op_1 h
        exact k_vret F hr hlk G dX11_receives_217
      · have h := op_t h c
        exact J63 _ _ _ h G (lv_sub hl [2, 3, 1] rfl)
  · have h := op_f h c0
    by_cases c1 : (rw x2.toNatClampNeg) = 1
    · have h := op_t h c1
      refine k_tab F dX11_receives_19 (tgt := 73) 1 c1 (by decide) (by decide) rfl (by decide) ?_
      refine lv_aload_n F.1 F.2.1 dX11_receives_73 rfl (lv_at hl 2 rfl) ?_
      refine lv_aload_n F.1 F.2.1 dX11_receives_74 rfl (lv_at hl 3 rfl) ?_
      refine lv_iload_n F.1 F.2.1 dX11_receives_75 rfl (lv_at hl 1 rfl) ?_
      refine lv_iconst (v := 3) F.1 F.2.1 dX11_receives_76 (by decide) ?_
      obtain ⟨rw_3, hc, h⟩ := op_b h
      refine k_callV (rv := none) (Wc := (gMR T aM (aA) z rw)) (W2 := (gMR T aM (aA) z rw_3)) (Wn := (gMR T aM aA z rw_3)) (As := [.ref aA, .int (rw (x2 + 1).toNatClampNeg), .int 3]) (rest := []) F G (mX11_marks l D T aM (aA) z rw (rw (x2 + 1).toNatClampNeg) 3 hc) (cwV 3 F.2.2.2.2 (kg_c kl928 (kg_c kl929 (kg_c kl930 (kg_c kl788 (kg_c kl926 kg_a))))) rfl rfl rfl (by decide +kernel) ⟨Nat.le_of_ble_eq_true rfl, Nat.le_of_ble_eq_true rfl⟩) 0 rfl (q := (RX11, TX11, 35)) rfl rfl (kCut_F G) rfl hl.1 rfl (Nat.le_of_ble_eq_true rfl) dX11_receives_77 ⟨Nat.le_of_ble_eq_true rfl, Nat.le_of_ble_eq_true rfl⟩ (cN := 0) (sN := 0) ⟨rfl, rfl⟩ (fun H locs G => ?_)
      refine lv_goto (tgt := 217) F.1 F.2.1 dX11_receives_80 (by decide) ?_
      obtain rfl := op_1 h
      exact k_vret F hr hlk G dX11_receives_217
    · have h := op_f h c1
      by_cases c2 : (rw x2.toNatClampNeg) = 2
      · have h := op_t h c2
        refine k_tab F dX11_receives_19 (tgt := 83) 2 c2 (by decide) (by decide) rfl (by decide) ?_
        refine lv_aload_n F.1 F.2.1 dX11_receives_83 rfl (lv_at hl 2 rfl) ?_
        refine lv_aload_n F.1 F.2.1 dX11_receives_84 rfl (lv_at hl 3 rfl) ?_
        refine lv_iload_n F.1 F.2.1 dX11_receives_85 rfl (lv_at hl 1 rfl) ?_
        refine lv_iconst (v := 0) F.1 F.2.1 dX11_receives_86 (by decide) ?_
        obtain ⟨rw_4, hc, h⟩ := op_b h
        refine k_callV (rv := none) (Wc := (gMR T aM (aA) z rw)) (W2 := (gMR T aM (aA) z rw_4)) (Wn := (gMR T aM aA z rw_4)) (As := [.ref aA, .int (rw (x2 + 1).toNatClampNeg), .int 0]) (rest := []) F G (mX11_marks l D T aM (aA) z rw (rw (x2 + 1).toNatClampNeg) 0 hc) (cwV 3 F.2.2.2.2 (kg_c kl928 (kg_c kl929 (kg_c kl930 (kg_c kl788 (kg_c kl926 kg_a))))) rfl rfl rfl (by decide +kernel) ⟨Nat.le_of_ble_eq_true rfl, Nat.le_of_ble_eq_true rfl⟩) 0 rfl (q := (RX11, TX11, 35)) rfl rfl (kCut_F G) rfl hl.1 rfl (Nat.le_of_ble_eq_true rfl) dX11_receives_87 ⟨Nat.le_of_ble_eq_true rfl, Nat.le_of_ble_eq_true rfl⟩ (cN := 0) (sN := 0) ⟨rfl, rfl⟩ (fun H locs G => ?_)
        refine lv_goto (tgt := 217) F.1 F.2.1 dX11_receives_90 (by decide) ?_
        obtain rfl := op_1 h
        exact k_vret F hr hlk G dX11_receives_217
      · have h := op_f h c2
        by_cases c3 : (rw x2.toNatClampNeg) = 3
        · have h := op_t h c3
          refine k_tab F dX11_receives_19 (tgt := 93) 3 c3 (by decide) (by decide) rfl (by decide) ?_
          refine lv_iload F.1 F.2.1 dX11_receives_93 (lv_at hl 0 rfl) ?_
          refine lv_iconst (v := 2) F.1 F.2.1 dX11_receives_95 (by decide) ?_
          obtain ⟨j118, hj118, h⟩ := op_j h
          have J118 : ∀ (H : Heap) (locs : List Loc) (ls : Array Slot), j118 () = some (rwR) → Rg D T A st (gMR T aM aA z rw) H locs → lv_has ls 5 [(0, .ref (aM 0)), (1, .ref aA), (2, .int x2), (3, .int (rw (x2 + 1).toNatClampNeg))] → W pr l en rmX11_receives st mi ag bl me co H locs 0 0 (MQ bl (kQ none D (gMR T aM aA z rwR) A) ag st rmX11_receives.cells rmX11_receives.slots A) (F0 mi 118 ls []) := by
            intro H locs ls h G hl
            rw [hj118] at h
            refine lv_aload_n F.1 F.2.1 dX11_receives_118 rfl (lv_at hl 1 rfl) ?_
            refine lv_iload_n F.1 F.2.1 dX11_receives_119 rfl (lv_at hl 2 rfl) ?_
            refine lv_iconst (v := 2) F.1 F.2.1 dX11_receives_120 (by decide) ?_
            refine lv_iadd F.1 F.2.1 dX11_receives_121 ?_
            obtain ⟨c, h⟩ := op_g h
            refine k_iald F G 5 rfl c dX11_receives_122 ?_
            refine lv_iconst (v := 2) F.1 F.2.1 dX11_receives_123 (by decide) ?_
            refine lv_icmp_ne (tgt := 141) F.1 F.2.1 dX11_receives_124 (by decide) (fun c => ?_) (fun c => ?_)
            · have h := op_f h c
              refine lv_aload_n F.1 F.2.1 dX11_receives_141 rfl (lv_at hl 0 rfl) ?_
              refine lv_aload_n F.1 F.2.1 dX11_receives_142 rfl (lv_at hl 1 rfl) ?_
              refine lv_iload_n F.1 F.2.1 dX11_receives_143 rfl (lv_at hl 3 rfl) ?_
              refine lv_aload_n F.1 F.2.1 dX11_receives_144 rfl (lv_at hl 1 rfl) ?_
              refine lv_iload_n F.1 F.2.1 dX11_receives_145 rfl (lv_at hl 2 rfl) ?_
              refine lv_iconst (v := 2) F.1 F.2.1 dX11_receives_146 (by decide) ?_
              refine lv_iadd F.1 F.2.1 dX11_receives_147 ?_
              obtain ⟨c, h⟩ := op_g h
              refine k_iald F G 5 rfl c dX11_receives_148 ?_
              obtain ⟨rw_5, hc, h⟩ := op_b h
              refine k_callV (rv := none) (Wc := (gMR T aM (aA) z rw)) (W2 := (gMR T aM (aA) z rw_5)) (Wn := (gMR T aM aA z rw_5)) (As := [.ref aA, .int (rw (x2 + 1).toNatClampNeg), .int (rw (x2 + 2).toNatClampNeg)]) (rest := []) F G (mX11_marks l D T aM (aA) z rw (rw (x2 + 1).toNatClampNeg) (rw (x2 + 2).toNatClampNeg) hc) (cwV 3 F.2.2.2.2 (kg_c kl928 (kg_c kl929 (kg_c kl930 (kg_c kl788 (kg_c kl926 kg_a))))) rfl rfl rfl (by decide +kernel) ⟨Nat.le_of_ble_eq_true rfl, Nat.le_of_ble_eq_true rfl⟩) 0 rfl (q := (RX11, TX11, 35)) rfl rfl (kCut_F G) rfl hl.1 rfl (Nat.le_of_ble_eq_true rfl) dX11_receives_149 ⟨Nat.le_of_ble_eq_true rfl, Nat.le_of_ble_eq_true rfl⟩ (cN := 0) (sN := 0) ⟨rfl, rfl⟩ (fun H locs G => ?_)
              refine lv_goto (tgt := 217) F.1 F.2.1 dX11_receives_152 (by decide) ?_
              obtain rfl := op_1 h
              exact k_vret F hr hlk G dX11_receives_217
            · have h := op_t h c
              refine lv_aload_n F.1 F.2.1 dX11_receives_127 rfl (lv_at hl 1 rfl) ?_
              refine lv_iload_n F.1 F.2.1 dX11_receives_128 rfl (lv_at hl 3 rfl) ?_
              refine lv_bipush (v := 10) F.1 F.2.1 dX11_receives_129 (by decide) ?_
              obtain ⟨r_6, hc, h⟩ := op_b h
              refine k_callS (rv := (some (.int r_6))) (Wc := ([] : va_W)) (W2 := ([] : va_W)) (Wn := (gMR T aM aA z rw)) (As := [.int (rw (x2 + 1).toNatClampNeg), .int 10]) (rest := [.ref aA]) F G (mX11_at l D T (rw (x2 + 1).toNatClampNeg) 10 hc) (va_cwS 2 F.2.2.2.2 (kg_c kl786 (kg_c kl787 (kg_c kl788 (kg_c kl767 kg_a)))) rfl rfl rfl (by decide +kernel) ⟨Nat.le_of_ble_eq_true rfl, Nat.le_of_ble_eq_true rfl⟩) (kCut_0 G) rfl hl.1 rfl (Nat.le_of_ble_eq_true rfl) dX11_receives_131 ⟨Nat.le_of_ble_eq_true rfl, Nat.le_of_ble_eq_true rfl⟩ (cN := 0) (sN := 0) ⟨rfl, rfl⟩ (fun H locs G => ?_)
              refine lv_aload_n F.1 F.2.1 dX11_receives_134 rfl (lv_at hl 1 rfl) ?_
              refine lv_iconst (v := 0) F.1 F.2.1 dX11_receives_135 (by decide) ?_
              refine k_ialdN F G 5 rfl (kin (by decide +kernel)) 0 (by decide +kernel) dX11_receives_136 ?_
              obtain ⟨c, h⟩ := op_g h
              obtain ⟨rw_7, e9, h⟩ := op_st h
              refine k_iast F G 5 rfl c dX11_receives_137 (Wn := (gMR T aM aA z rw_7)) (by subst e9; rfl) (fun H locs G => ?_)
              clear e9
              refine lv_goto (tgt := 217) F.1 F.2.1 dX11_receives_138 (by decide) ?_
              obtain rfl := op_1 h
              exact k_vret F hr hlk G dX11_receives_217
          clear hj118
          refine lv_icmp_ne (tgt := 118) F.1 F.2.1 dX11_receives_96 (by decide) (fun c => ?_) (fun c => ?_)
          · have h := op_f h c
            exact J118 _ _ _ h G (lv_sub hl [2, 3, 4, 1] rfl)
          · have h := op_t h c
            refine lv_aload_n F.1 F.2.1 dX11_receives_99 rfl (lv_at hl 3 rfl) ?_
            refine lv_iload_n F.1 F.2.1 dX11_receives_100 rfl (lv_at hl 1 rfl) ?_
            refine lv_bipush (v := 10) F.1 F.2.1 dX11_receives_101 (by decide) ?_
            obtain ⟨r_8, hc, h⟩ := op_b h
            refine k_callS (rv := (some (.int r_8))) (Wc := ([] : va_W)) (W2 := ([] : va_W)) (Wn := (gMR T aM aA z rw)) (As := [.int (rw (x2 + 1).toNatClampNeg), .int 10]) (rest := [.ref aA]) F G (mX11_at l D T (rw (x2 + 1).toNatClampNeg) 10 hc) (va_cwS 2 F.2.2.2.2 (kg_c kl786 (kg_c kl787 (kg_c kl788 (kg_c kl767 kg_a)))) rfl rfl rfl (by decide +kernel) ⟨Nat.le_of_ble_eq_true rfl, Nat.le_of_ble_eq_true rfl⟩) (kCut_0 G) rfl hl.1 rfl (Nat.le_of_ble_eq_true rfl) dX11_receives_103 ⟨Nat.le_of_ble_eq_true rfl, Nat.le_of_ble_eq_true rfl⟩ (cN := 0) (sN := 0) ⟨rfl, rfl⟩ (fun H locs G => ?_)
            obtain ⟨c, h⟩ := op_g h
            refine k_iald F G 5 rfl c dX11_receives_106 ?_
            refine lv_aload_n F.1 F.2.1 dX11_receives_107 rfl (lv_at hl 3 rfl) ?_
            refine lv_iconst (v := 0) F.1 F.2.1 dX11_receives_108 (by decide) ?_
            refine k_ialdN F G 5 rfl (kin (by decide +kernel)) 0 (by decide +kernel) dX11_receives_109 ?_
            refine lv_iconst (v := 1) F.1 F.2.1 dX11_receives_110 (by decide) ?_
            refine lv_isub F.1 F.2.1 dX11_receives_111 ?_
            refine lv_icmp_ne (tgt := 118) F.1 F.2.1 dX11_receives_112 (by decide) (fun c => ?_) (fun c => ?_)
            · have h := op_f h c
              exact J118 _ _ _ h G (lv_sub hl [2, 3, 4, 1] rfl)
            · have h := op_t h c
              refine lv_goto (tgt := 217) F.1 F.2.1 dX11_receives_115 (by decide) ?_
              obtain rfl := op_1 h
              exact k_vret F hr hlk G dX11_receives_217
        · have h := op_f h c3
          by_cases c4 : (rw x2.toNatClampNeg) = 4
          · have h := op_t h c4
            refine k_tab F dX11_receives_19 (tgt := 155) 4 c4 (by decide) (by decide) rfl (by decide) ?_
            refine lv_aload_n F.1 F.2.1 dX11_receives_155 rfl (lv_at hl 3 rfl) ?_
            refine lv_iload_n F.1 F.2.1 dX11_receives_156 rfl (lv_at hl 1 rfl) ?_
            refine lv_iconst (v := 2) F.1 F.2.1 dX11_receives_157 (by decide) ?_
            obtain ⟨r_9, hc, h⟩ := op_b h
            refine k_callS (rv := (some (.int r_9))) (Wc := ([] : va_W)) (W2 := ([] : va_W)) (Wn := (gMR T aM aA z rw)) (As := [.int (rw (x2 + 1).toNatClampNeg), .int 2]) (rest := [.ref aA]) F G (mX11_at l D T (rw (x2 + 1).toNatClampNeg) 2 hc) (va_cwS 2 F.2.2.2.2 (kg_c kl786 (kg_c kl787 (kg_c kl788 (kg_c kl767 kg_a)))) rfl rfl rfl (by decide +kernel) ⟨Nat.le_of_ble_eq_true rfl, Nat.le_of_ble_eq_true rfl⟩) (kCut_0 G) rfl hl.1 rfl (Nat.le_of_ble_eq_true rfl) dX11_receives_158 ⟨Nat.le_of_ble_eq_true rfl, Nat.le_of_ble_eq_true rfl⟩ (cN := 0) (sN := 0) ⟨rfl, rfl⟩ (fun H locs G => ?_)
            obtain ⟨c, h⟩ := op_g h
            refine k_iald F G 5 rfl c dX11_receives_161 ?_
            refine lv_iconst (v := 1) F.1 F.2.1 dX11_receives_162 (by decide) ?_
            refine lv_icmp_eq (tgt := 169) F.1 F.2.1 dX11_receives_163 (by decide) (fun c => ?_) (fun c => ?_)
            · have h := op_t h c
              refine lv_aload_n F.1 F.2.1 dX11_receives_169 rfl (lv_at hl 3 rfl) ?_
              refine lv_iload_n F.1 F.2.1 dX11_receives_170 rfl (lv_at hl 1 rfl) ?_
              refine lv_iconst (v := 2) F.1 F.2.1 dX11_receives_171 (by decide) ?_
              obtain ⟨r_10, hc, h⟩ := op_b h
              refine k_callS (rv := (some (.int r_10))) (Wc := ([] : va_W)) (W2 := ([] : va_W)) (Wn := (gMR T aM aA z rw)) (As := [.int (rw (x2 + 1).toNatClampNeg), .int 2]) (rest := [.ref aA]) F G (mX11_at l D T (rw (x2 + 1).toNatClampNeg) 2 hc) (va_cwS 2 F.2.2.2.2 (kg_c kl786 (kg_c kl787 (kg_c kl788 (kg_c kl767 kg_a)))) rfl rfl rfl (by decide +kernel) ⟨Nat.le_of_ble_eq_true rfl, Nat.le_of_ble_eq_true rfl⟩) (kCut_0 G) rfl hl.1 rfl (Nat.le_of_ble_eq_true rfl) dX11_receives_172 ⟨Nat.le_of_ble_eq_true rfl, Nat.le_of_ble_eq_true rfl⟩ (cN := 0) (sN := 0) ⟨rfl, rfl⟩ (fun H locs G => ?_)
              refine lv_iconst (v := 2) F.1 F.2.1 dX11_receives_175 (by decide) ?_
              obtain ⟨c, h⟩ := op_g h
              obtain ⟨rw_11, e9, h⟩ := op_st h
              refine k_iast F G 5 rfl c dX11_receives_176 (Wn := (gMR T aM aA z rw_11)) (by subst e9; rfl) (fun H locs G => ?_)
              clear e9
              refine lv_aload_n F.1 F.2.1 dX11_receives_177 rfl (lv_at hl 3 rfl) ?_
              refine lv_iload_n F.1 F.2.1 dX11_receives_178 rfl (lv_at hl 1 rfl) ?_
              refine lv_iconst (v := 3) F.1 F.2.1 dX11_receives_179 (by decide) ?_
              obtain ⟨r_12, hc, h⟩ := op_b h
              refine k_callS (rv := (some (.int r_12))) (Wc := ([] : va_W)) (W2 := ([] : va_W)) (Wn := (gMR T aM aA z rw_11)) (As := [.int (rw (x2 + 1).toNatClampNeg), .int 3]) (rest := [.ref aA]) F G (mX11_at l D T (rw (x2 + 1).toNatClampNeg) 3 hc) (va_cwS 2 F.2.2.2.2 (kg_c kl786 (kg_c kl787 (kg_c kl788 (kg_c kl767 kg_a)))) rfl rfl rfl (by decide +kernel) ⟨Nat.le_of_ble_eq_true rfl, Nat.le_of_ble_eq_true rfl⟩) (kCut_0 G) rfl hl.1 rfl (Nat.le_of_ble_eq_true rfl) dX11_receives_180 ⟨Nat.le_of_ble_eq_true rfl, Nat.le_of_ble_eq_true rfl⟩ (cN := 0) (sN := 0) ⟨rfl, rfl⟩ (fun H locs G => ?_)
              refine lv_aload_n F.1 F.2.1 dX11_receives_183 rfl (lv_at hl 2 rfl) ?_
              refine k_get F G 0 rfl (N := 35) (Tt := TX11) rfl kf11 5 (by decide) kl773 (v := .ref (aM 1)) rfl dX11_receives_184 ?_
              refine lv_iconst (v := 4) F.1 F.2.1 dX11_receives_187 (by decide) ?_
              refine lv_iload_n F.1 F.2.1 dX11_receives_188 rfl (lv_at hl 1 rfl) ?_
              refine lv_imul F.1 F.2.1 dX11_receives_189 ?_
              refine lv_iconst (v := 3) F.1 F.2.1 dX11_receives_190 (by decide) ?_
              refine lv_iadd F.1 F.2.1 dX11_receives_191 ?_
              obtain ⟨c, h⟩ := op_g h
              refine k_iald F G 1 rfl c dX11_receives_192 ?_
              obtain ⟨c, h⟩ := op_g h
              obtain ⟨rw_13, e9, h⟩ := op_st h
              refine k_iast F G 5 rfl c dX11_receives_193 (Wn := (gMR T aM aA z rw_13)) (by subst e9; rfl) (fun H locs G => ?_)
              clear e9
              refine lv_aload_n F.1 F.2.1 dX11_receives_194 rfl (lv_at hl 3 rfl) ?_
              refine lv_iload_n F.1 F.2.1 dX11_receives_195 rfl (lv_at hl 1 rfl) ?_
              refine lv_iconst (v := 4) F.1 F.2.1 dX11_receives_196 (by decide) ?_
              obtain ⟨r_14, hc, h⟩ := op_b h
              refine k_callS (rv := (some (.int r_14))) (Wc := ([] : va_W)) (W2 := ([] : va_W)) (Wn := (gMR T aM aA z rw_13)) (As := [.int (rw (x2 + 1).toNatClampNeg), .int 4]) (rest := [.ref aA]) F G (mX11_at l D T (rw (x2 + 1).toNatClampNeg) 4 hc) (va_cwS 2 F.2.2.2.2 (kg_c kl786 (kg_c kl787 (kg_c kl788 (kg_c kl767 kg_a)))) rfl rfl rfl (by decide +kernel) ⟨Nat.le_of_ble_eq_true rfl, Nat.le_of_ble_eq_true rfl⟩) (kCut_0 G) rfl hl.1 rfl (Nat.le_of_ble_eq_true rfl) dX11_receives_197 ⟨Nat.le_of_ble_eq_true rfl, Nat.le_of_ble_eq_true rfl⟩ (cN := 0) (sN := 0) ⟨rfl, rfl⟩ (fun H locs G => ?_)
              refine lv_dup2_11 F.1 F.2.1 dX11_receives_200 rfl rfl ?_
              obtain ⟨c, h⟩ := op_g h
              refine k_iald F G 5 rfl c dX11_receives_201 ?_
              refine lv_iconst (v := 1) F.1 F.2.1 dX11_receives_202 (by decide) ?_
              refine lv_iadd F.1 F.2.1 dX11_receives_203 ?_
              obtain ⟨c, h⟩ := op_g h
              obtain ⟨rw_15, e9, h⟩ := op_st h
              refine k_iast F G 5 rfl c dX11_receives_204 (Wn := (gMR T aM aA z rw_15)) (by subst e9; rfl) (fun H locs G => ?_)
              clear e9
              refine lv_goto (tgt := 217) F.1 F.2.1 dX11_receives_205 (by decide) ?_
              obtain rfl := op_1 h
              exact k_vret F hr hlk G dX11_receives_217
            · have h := op_f h c
              refine lv_goto (tgt := 217) F.1 F.2.1 dX11_receives_166 (by decide) ?_
              obtain rfl := op_1 h
              exact k_vret F hr hlk G dX11_receives_217
          · have h := op_f h c4
            refine lv_tableOut (tgt := 208) F.1 F.2.1 dX11_receives_19 (tab_out 5 (by decide) (lt_s (lt_s (lt_s (lt_s (lt_s lt_0 c0) c1) c2) c3) c4)) (by decide) ?_
            refine lv_aload_n F.1 F.2.1 dX11_receives_208 rfl (lv_at hl 3 rfl) ?_
            refine lv_iload_n F.1 F.2.1 dX11_receives_209 rfl (lv_at hl 1 rfl) ?_
            refine lv_bipush (v := 8) F.1 F.2.1 dX11_receives_210 (by decide) ?_
            obtain ⟨r_16, hc, h⟩ := op_b h
            refine k_callS (rv := (some (.int r_16))) (Wc := ([] : va_W)) (W2 := ([] : va_W)) (Wn := (gMR T aM aA z rw)) (As := [.int (rw (x2 + 1).toNatClampNeg), .int 8]) (rest := [.ref aA]) F G (mX11_at l D T (rw (x2 + 1).toNatClampNeg) 8 hc) (va_cwS 2 F.2.2.2.2 (kg_c kl786 (kg_c kl787 (kg_c kl788 (kg_c kl767 kg_a)))) rfl rfl rfl (by decide +kernel) ⟨Nat.le_of_ble_eq_true rfl, Nat.le_of_ble_eq_true rfl⟩) (kCut_0 G) rfl hl.1 rfl (Nat.le_of_ble_eq_true rfl) dX11_receives_212 ⟨Nat.le_of_ble_eq_true rfl, Nat.le_of_ble_eq_true rfl⟩ (cN := 0) (sN := 0) ⟨rfl, rfl⟩ (fun H locs G => ?_)
            refine lv_iconst (v := 1) F.1 F.2.1 dX11_receives_215 (by decide) ?_
            obtain ⟨c, h⟩ := op_g h
            obtain ⟨rw_17, e9, h⟩ := op_st h
            refine k_iast F G 5 rfl c dX11_receives_216 (Wn := (gMR T aM aA z rw_17)) (by subst e9; rfl) (fun H locs G => ?_)
            clear e9
            obtain rfl := op_1 h
            exact k_vret F hr hlk G dX11_receives_217
abbrev rmX11_learns : Room := ({ frames := 2, cells := 0, slots := 0, locals := 46 } : Room)
noncomputable def qX11_learns_L36 (z : Nat → Nat → Int32) (K : (Nat → Int32) → Option ((Nat → Int32))) : Nat → Int32 → (Nat → Int32) → Option ((Nat → Int32))
  | 0, _, _ => none
  | n + 1, x3_4, rw_5 =>
    if (rw_5 12) ≤ x3_4 then (K rw_5) else gd (vp_in (27 + x3_4) 411) (gd (vp_in (39 + x3_4) 411) (bs (upd rw_5 (39 + x3_4).toNatClampNeg (rw_5 (27 + x3_4).toNatClampNeg)) fun rw_7 => (qX11_learns_L36 z K n (x3_4 + 1) rw_7)))

noncomputable def qX11_learns (z : Nat → Nat → Int32) (rw : Nat → Int32) : Option ((Nat → Int32)) :=
  bd (qX11_rightsOf z rw) fun r_1 => if r_1 = 0 then some rw else bd (qX11_withState z rw 9 3) fun r_2 => if (r_1 &&& (r_2 ^^^ (-1))) = 0 then (bs (upd rw 13 (rw 12)) fun rw_3 => (qX11_learns_L36 z  (fun (rw_6 : Nat → Int32) => some rw_6) fu 0 rw_3)) else some rw

set_option maxHeartbeats 4000000 in
set_option maxRecDepth 100000 in
theorem mX11_learns (l : Launch) (D : va_G) (T : Nat → ClassId) (aM : Nat → Nat) (aA : Nat) (z : Nat → Nat → Int32) (rw : Nat → Int32) {rwR : Nat → Int32} (hres : qX11_learns z rw = some (rwR)) : Ct l yX11_learns (Cond.code yX11_learns cX11_learns 4 none :: kAll) rmX11_learns D T [.ref (aM 0), .ref aA] (gMR T aM aA z rw) none (gMR T aM aA z rwR) := by
  refine Ct.of (cc := cX11_learns) (maxL := 4) (ret := none) (by decide +kernel) rfl (Nat.le_of_ble_eq_true rfl) ?_
  intro pr en st mi ag bl me co A ls F hr hlk hnm G hl
  have hl : lv_has ls 4 [(0, .ref (aM 0)), (1, .ref aA)] := hl
  have h := hres
  unfold qX11_learns at h
  refine lv_aload_n F.1 F.2.1 dX11_learns_0 rfl (lv_at hl 0 rfl) ?_
  refine lv_aload_n F.1 F.2.1 dX11_learns_1 rfl (lv_at hl 1 rfl) ?_
  obtain ⟨r_1, hc, h⟩ := op_b h
  refine k_callV (rv := (some (.int r_1))) (Wc := (gMR T aM (aA) z rw)) (W2 := (gMR T aM (aA) z rw)) (Wn := (gMR T aM aA z rw)) (As := [.ref aA]) (rest := []) F G (mX11_rightsOf l D T aM (aA) z rw hc) (cwV 1 F.2.2.2.2 (kg_c kl932 (kg_c kl933 (kg_c kl934 (kg_c kl788 (kg_c kl921 kg_a))))) rfl rfl rfl (by decide +kernel) ⟨Nat.le_of_ble_eq_true rfl, Nat.le_of_ble_eq_true rfl⟩) 0 rfl (q := (RX11, TX11, 35)) rfl rfl (kCut_F G) rfl hl.1 rfl (Nat.le_of_ble_eq_true rfl) dX11_learns_2 ⟨Nat.le_of_ble_eq_true rfl, Nat.le_of_ble_eq_true rfl⟩ (cN := 0) (sN := 0) ⟨rfl, rfl⟩ (fun H locs G => ?_)
  refine lv_istore_n (lv' := [(2, .int r_1), (0, .ref (aM 0)), (1, .ref aA)]) F.1 F.2.1 dX11_learns_5 rfl hl (by decide) rfl (fun ls hl => ?_)
  refine lv_iload_n F.1 F.2.1 dX11_learns_6 rfl (lv_at hl 0 rfl) ?_
  refine lv_if_eq (tgt := 25) F.1 F.2.1 dX11_learns_7 (by decide) (fun c => ?_) (fun c => ?_)
  · have h := op_t h c
    obtain rfl := op_1 h
    exact k_vret F hr hlk G dX11_learns_25
  · have h := op_f h c
    refine lv_iload_n F.1 F.2.1 dX11_learns_10 rfl (lv_at hl 0 rfl) ?_
    refine lv_aload_n F.1 F.2.1 dX11_learns_11 rfl (lv_at hl 1 rfl) ?_
    refine lv_aload_n F.1 F.2.1 dX11_learns_12 rfl (lv_at hl 2 rfl) ?_
    refine lv_bipush (v := 9) F.1 F.2.1 dX11_learns_13 (by decide) ?_
    refine lv_iconst (v := 3) F.1 F.2.1 dX11_learns_15 (by decide) ?_
    obtain ⟨r_2, hc, h⟩ := op_b h
    refine k_callV (rv := (some (.int r_2))) (Wc := (gMR T aM (aA) z rw)) (W2 := (gMR T aM (aA) z rw)) (Wn := (gMR T aM aA z rw)) (As := [.ref aA, .int 9, .int 3]) (rest := [.int r_1]) F G (mX11_withState l D T aM (aA) z rw 9 3 hc) (cwV 3 F.2.2.2.2 (kg_c kl935 (kg_c kl936 (kg_c kl937 (kg_c kl788 (kg_c kl922 kg_a))))) rfl rfl rfl (by decide +kernel) ⟨Nat.le_of_ble_eq_true rfl, Nat.le_of_ble_eq_true rfl⟩) 0 rfl (q := (RX11, TX11, 35)) rfl rfl (kCut_F G) rfl hl.1 rfl (Nat.le_of_ble_eq_true rfl) dX11_learns_16 ⟨Nat.le_of_ble_eq_true rfl, Nat.le_of_ble_eq_true rfl⟩ (cN := 0) (sN := 0) ⟨rfl, rfl⟩ (fun H locs G => ?_)
    refine lv_iconst (v := (-1)) F.1 F.2.1 dX11_learns_19 (by decide) ?_
    refine lv_ixor F.1 F.2.1 dX11_learns_20 ?_
    refine lv_iand F.1 F.2.1 dX11_learns_21 ?_
    refine lv_if_eq (tgt := 26) F.1 F.2.1 dX11_learns_22 (by decide) (fun c => ?_) (fun c => ?_)
    · have h := op_t h c
      refine lv_aload_n F.1 F.2.1 dX11_learns_26 rfl (lv_at hl 2 rfl) ?_
      refine lv_bipush (v := 13) F.1 F.2.1 dX11_learns_27 (by decide) ?_
      refine lv_aload_n F.1 F.2.1 dX11_learns_29 rfl (lv_at hl 2 rfl) ?_
      refine lv_bipush (v := 12) F.1 F.2.1 dX11_learns_30 (by decide) ?_
      refine k_ialdN F G 5 rfl (kin (by decide +kernel)) 12 (by decide +kernel) dX11_learns_32 ?_
      obtain ⟨rw_3, e9, h⟩ := op_st h
      refine k_iastN F G 5 rfl (kin (by decide +kernel)) 13 (by decide +kernel) dX11_learns_33 (Wn := (gMR T aM aA z rw_3)) (by subst e9; rfl) (fun H locs G => ?_)
      clear e9
      refine lv_iconst (v := 0) F.1 F.2.1 dX11_learns_34 (by decide) ?_
      refine lv_istore_n (lv' := [(3, .int 0), (2, .int r_1), (0, .ref (aM 0)), (1, .ref aA)]) F.1 F.2.1 dX11_learns_35 rfl hl (by decide) rfl (fun ls hl => ?_)
      have L36 : ∀ (z : Nat → Nat → Int32) (K : (Nat → Int32) → Option ((Nat → Int32))) (hK : ∀ (rw_6 : Nat → Int32) (H : Heap) (locs : List Loc) (ls : Array Slot), K rw_6 = some (rwR) → Rg D T A st (gMR T aM aA z rw_6) H locs → lv_has ls 4 [] → W pr l en rmX11_learns st mi ag bl me co H locs 0 0 (MQ bl (kQ none D (gMR T aM aA z rwR) A) ag st rmX11_learns.cells rmX11_learns.slots A) (F0 mi 62 ls [])) (n : Nat) (x3_4 : Int32) (rw_5 : Nat → Int32) (H : Heap) (locs : List Loc) (ls : Array Slot), qX11_learns_L36 z K n x3_4 rw_5 = some (rwR) → Rg D T A st (gMR T aM aA z rw_5) H locs → lv_has ls 4 [(1, .ref aA), (3, .int x3_4)] → W pr l en rmX11_learns st mi ag bl me co H locs 0 0 (MQ bl (kQ none D (gMR T aM aA z rwR) A) ag st rmX11_learns.cells rmX11_learns.slots A) (F0 mi 36 ls []) := by
        intro z K hK n
        induction n with
        | zero => intro x3_4 rw_5 H locs ls h; exact op_n h
        | succ n ih =>
          intro x3_4 rw_5 H locs ls h G hl
          rw [qX11_learns_L36] at h
          refine lv_iload_n F.1 F.2.1 dX11_learns_36 rfl (lv_at hl 1 rfl) ?_
          refine lv_aload_n F.1 F.2.1 dX11_learns_37 rfl (lv_at hl 0 rfl) ?_
          refine lv_bipush (v := 12) F.1 F.2.1 dX11_learns_38 (by decide) ?_
          refine k_ialdN F G 5 rfl (kin (by decide +kernel)) 12 (by decide +kernel) dX11_learns_40 ?_
          refine lv_icmp_ge (tgt := 62) F.1 F.2.1 dX11_learns_41 (by decide) (fun c => ?_) (fun c => ?_)
          · have h := op_t h c
            exact hK rw_5 _ _ _ h G (lv_sub hl [] rfl)
          · have h := op_f h c
            refine lv_aload_n F.1 F.2.1 dX11_learns_44 rfl (lv_at hl 0 rfl) ?_
            refine lv_bipush (v := 39) F.1 F.2.1 dX11_learns_45 (by decide) ?_
            refine lv_iload_n F.1 F.2.1 dX11_learns_47 rfl (lv_at hl 1 rfl) ?_
            refine lv_iadd F.1 F.2.1 dX11_learns_48 ?_
            refine lv_aload_n F.1 F.2.1 dX11_learns_49 rfl (lv_at hl 0 rfl) ?_
            refine lv_bipush (v := 27) F.1 F.2.1 dX11_learns_50 (by decide) ?_
            refine lv_iload_n F.1 F.2.1 dX11_learns_52 rfl (lv_at hl 1 rfl) ?_
            refine lv_iadd F.1 F.2.1 dX11_learns_53 ?_
            obtain ⟨c, h⟩ := op_g h
            refine k_iald F G 5 rfl c dX11_learns_54 ?_
            obtain ⟨c, h⟩ := op_g h
            obtain ⟨rw_7, e9, h⟩ := op_st h
            refine k_iast F G 5 rfl c dX11_learns_55 (Wn := (gMR T aM aA z rw_7)) (by subst e9; rfl) (fun H locs G => ?_)
            clear e9
            refine lv_iinc (v := (x3_4 + 1)) (lv' := [(3, .int (x3_4 + 1)), (1, .ref aA)]) F.1 F.2.1 dX11_learns_56 hl (k := 1) rfl rfl (by decide) rfl (fun ls hl => ?_)
            refine lv_goto (tgt := 36) F.1 F.2.1 dX11_learns_59 (by decide) ?_
            exact ih (x3_4 + 1) rw_7 _ _ _ h G (lv_sub hl [1, 0] rfl)
      refine L36 z  _ (fun rw_6 H locs ls h G hl => ?_) fu 0 rw_3 _ _ _ h G (lv_sub hl [3, 0] rfl)
      clear L36
      obtain rfl := op_1 h
      exact k_vret F hr hlk G dX11_learns_62
    · have h := op_f h c
      obtain rfl := op_1 h
      exact k_vret F hr hlk G dX11_learns_25
abbrev rmX11_acts : Room := ({ frames := 1, cells := 0, slots := 0, locals := 26 } : Room)
noncomputable def qX11_acts (z : Nat → Nat → Int32) (rw : Nat → Int32) (x2 : Int32) : Option ((Nat → Int32)) :=
  bd (qX11_at x2 2) fun r_1 => gd (vp_in r_1 411) ((jn (fun (rw_2 : Nat → Int32) => bd (qX11_at x2 7) fun r_3 => gd (vp_in r_3 411) ((jn (fun (rw_4 : Nat → Int32) => bd (qX11_at x2 8) fun r_5 => gd (vp_in r_5 411) ((jn (fun (rw_6 : Nat → Int32) => bd (qX11_at x2 7) fun r_7 => gd (vp_in r_7 411) (bs (upd rw_6 r_7.toNatClampNeg 0) fun rw_8 => bd (qX11_at x2 8) fun r_9 => gd (vp_in r_9 411) (bs (upd rw_8 r_9.toNatClampNeg 0) fun rw_10 => bd (qX11_at x2 6) fun r_11 => gd (vp_in r_11 411) ((jn (fun (y_12 : Int32) => bd (qX11_at x2 2) fun r_13 => gd (vp_in r_13 411) (if (rw_10 r_13.toNatClampNeg) = 1 then if y_12 = 0 then some rw_10 else bd (qX11_sends z rw_10 0 x2 (-1)) fun rw_14 => bd (qX11_at x2 6) fun r_15 => gd (vp_in r_15 411) (bs (upd rw_14 r_15.toNatClampNeg (rw_14 0)) fun rw_16 => some rw_16) else some rw_10)) fun j147 => jn (fun (_ : Unit) => (j147 1)) fun j142 => if (rw_10 r_11.toNatClampNeg) = (-1) then (j142 ()) else bd (qX11_at x2 6) fun r_17 => gd (vp_in r_17 411) (if ((rw_10 0) - (rw_10 r_17.toNatClampNeg)) < (rw_10 7) then (j147 0) else (j142 ()))))))) fun j93 => if (rw_4 r_5.toNatClampNeg) = 1 then bd (qX11_at x2 2) fun r_18 => gd (vp_in r_18 411) (bd (qX11_sends z rw_4 3 x2 (rw_4 r_18.toNatClampNeg)) fun rw_19 => (j93 rw_19)) else (j93 rw_4)))) fun j67 => if (rw_2 r_3.toNatClampNeg) = 1 then bd (qX11_sends z rw_2 2 x2 (-1)) fun rw_20 => (j67 rw_20) else (j67 rw_2)))) fun j47 => if (rw r_1.toNatClampNeg) = 2 then bd (qX11_at x2 3) fun r_21 => gd (vp_in r_21 411) (if (rw r_21.toNatClampNeg) = 0 then bd (qX11_at x2 2) fun r_22 => gd (vp_in r_22 411) (bs (upd rw r_22.toNatClampNeg 3) fun rw_23 => bd (qX11_at x2 5) fun r_24 => gd (vp_in r_24 411) (bs (upd rw_23 r_24.toNatClampNeg (rw_23 0)) fun rw_25 => bd (qX11_sends z rw_25 1 x2 (-1)) fun rw_26 => (j47 rw_26))) else (j47 rw)) else (j47 rw)))

set_option maxHeartbeats 4000000 in
set_option maxRecDepth 100000 in
theorem mX11_acts (l : Launch) (D : va_G) (T : Nat → ClassId) (aM : Nat → Nat) (aA : Nat) (z : Nat → Nat → Int32) (rw : Nat → Int32) (x2 : Int32) {rwR : Nat → Int32} (hres : qX11_acts z rw x2 = some (rwR)) : Ct l yX11_acts (Cond.code yX11_acts cX11_acts 4 none :: kAll) rmX11_acts D T [.ref (aM 0), .ref aA, .int x2] (gMR T aM aA z rw) none (gMR T aM aA z rwR) := by
  refine Ct.of (cc := cX11_acts) (maxL := 4) (ret := none) (by decide +kernel) rfl (Nat.le_of_ble_eq_true rfl) ?_
  intro pr en st mi ag bl me co A ls F hr hlk hnm G hl
  have hl : lv_has ls 4 [(0, .ref (aM 0)), (1, .ref aA), (2, .int x2)] := hl
  have h := hres
  unfold qX11_acts at h
  refine lv_aload_n F.1 F.2.1 dX11_acts_0 rfl (lv_at hl 1 rfl) ?_
  refine lv_iload_n F.1 F.2.1 dX11_acts_1 rfl (lv_at hl 2 rfl) ?_
  refine lv_iconst (v := 2) F.1 F.2.1 dX11_acts_2 (by decide) ?_
  obtain ⟨r_1, hc, h⟩ := op_b h
  refine k_callS (rv := (some (.int r_1))) (Wc := ([] : va_W)) (W2 := ([] : va_W)) (Wn := (gMR T aM aA z rw)) (As := [.int x2, .int 2]) (rest := [.ref aA]) F G (mX11_at l D T x2 2 hc) (va_cwS 2 F.2.2.2.2 (kg_c kl786 (kg_c kl787 (kg_c kl788 (kg_c kl767 kg_a)))) rfl rfl rfl (by decide +kernel) ⟨Nat.le_of_ble_eq_true rfl, Nat.le_of_ble_eq_true rfl⟩) (kCut_0 G) rfl hl.1 rfl (Nat.le_of_ble_eq_true rfl) dX11_acts_3 ⟨Nat.le_of_ble_eq_true rfl, Nat.le_of_ble_eq_true rfl⟩ (cN := 0) (sN := 0) ⟨rfl, rfl⟩ (fun H locs G => ?_)
  obtain ⟨c, h⟩ := op_g h
  refine k_iald F G 5 rfl c dX11_acts_6 ?_
  refine lv_iconst (v := 2) F.1 F.2.1 dX11_acts_7 (by decide) ?_
  obtain ⟨j47, hj47, h⟩ := op_j h
  have J47 : ∀ (rw_2 : Nat → Int32) (H : Heap) (locs : List Loc) (ls : Array Slot), j47 rw_2 = some (rwR) → Rg D T A st (gMR T aM aA z rw_2) H locs → lv_has ls 4 [(0, .ref (aM 0)), (1, .ref aA), (2, .int x2)] → W pr l en rmX11_acts st mi ag bl me co H locs 0 0 (MQ bl (kQ none D (gMR T aM aA z rwR) A) ag st rmX11_acts.cells rmX11_acts.slots A) (F0 mi 47 ls []) := by
    intro rw_2 H locs ls h G hl
    rw [hj47] at h
    refine lv_aload_n F.1 F.2.1 dX11_acts_47 rfl (lv_at hl 1 rfl) ?_
    refine lv_iload_n F.1 F.2.1 dX11_acts_48 rfl (lv_at hl 2 rfl) ?_
    refine lv_bipush (v := 7) F.1 F.2.1 dX11_acts_49 (by decide) ?_
    obtain ⟨r_3, hc, h⟩ := op_b h
    refine k_callS (rv := (some (.int r_3))) (Wc := ([] : va_W)) (W2 := ([] : va_W)) (Wn := (gMR T aM aA z rw_2)) (As := [.int x2, .int 7]) (rest := [.ref aA]) F G (mX11_at l D T x2 7 hc) (va_cwS 2 F.2.2.2.2 (kg_c kl786 (kg_c kl787 (kg_c kl788 (kg_c kl767 kg_a)))) rfl rfl rfl (by decide +kernel) ⟨Nat.le_of_ble_eq_true rfl, Nat.le_of_ble_eq_true rfl⟩) (kCut_0 G) rfl hl.1 rfl (Nat.le_of_ble_eq_true rfl) dX11_acts_51 ⟨Nat.le_of_ble_eq_true rfl, Nat.le_of_ble_eq_true rfl⟩ (cN := 0) (sN := 0) ⟨rfl, rfl⟩ (fun H locs G => ?_)
    obtain ⟨c, h⟩ := op_g h
    refine k_iald F G 5 rfl c dX11_acts_54 ?_
    refine lv_iconst (v := 1) F.1 F.2.1 dX11_acts_55 (by decide) ?_
    obtain ⟨j67, hj67, h⟩ := op_j h
    have J67 : ∀ (rw_4 : Nat → Int32) (H : Heap) (locs : List Loc) (ls : Array Slot), j67 rw_4 = some (rwR) → Rg D T A st (gMR T aM aA z rw_4) H locs → lv_has ls 4 [(0, .ref (aM 0)), (1, .ref aA), (2, .int x2)] → W pr l en rmX11_acts st mi ag bl me co H locs 0 0 (MQ bl (kQ none D (gMR T aM aA z rwR) A) ag st rmX11_acts.cells rmX11_acts.slots A) (F0 mi 67 ls []) := by
      intro rw_4 H locs ls h G hl
      rw [hj67] at h
      refine lv_aload_n F.1 F.2.1 dX11_acts_67 rfl (lv_at hl 1 rfl) ?_
      refine lv_iload_n F.1 F.2.1 dX11_acts_68 rfl (lv_at hl 2 rfl) ?_
      refine lv_bipush (v := 8) F.1 F.2.1 dX11_acts_69 (by decide) ?_
      obtain ⟨r_5, hc, h⟩ := op_b h
      refine k_callS (rv := (some (.int r_5))) (Wc := ([] : va_W)) (W2 := ([] : va_W)) (Wn := (gMR T aM aA z rw_4)) (As := [.int x2, .int 8]) (rest := [.ref aA]) F G (mX11_at l D T x2 8 hc) (va_cwS 2 F.2.2.2.2 (kg_c kl786 (kg_c kl787 (kg_c kl788 (kg_c kl767 kg_a)))) rfl rfl rfl (by decide +kernel) ⟨Nat.le_of_ble_eq_true rfl, Nat.le_of_ble_eq_true rfl⟩) (kCut_0 G) rfl hl.1 rfl (Nat.le_of_ble_eq_true rfl) dX11_acts_71 ⟨Nat.le_of_ble_eq_true rfl, Nat.le_of_ble_eq_true rfl⟩ (cN := 0) (sN := 0) ⟨rfl, rfl⟩ (fun H locs G => ?_)
      obtain ⟨c, h⟩ := op_g h
      refine k_iald F G 5 rfl c dX11_acts_74 ?_
      refine lv_iconst (v := 1) F.1 F.2.1 dX11_acts_75 (by decide) ?_
      obtain ⟨j93, hj93, h⟩ := op_j h
      have J93 : ∀ (rw_6 : Nat → Int32) (H : Heap) (locs : List Loc) (ls : Array Slot), j93 rw_6 = some (rwR) → Rg D T A st (gMR T aM aA z rw_6) H locs → lv_has ls 4 [(0, .ref (aM 0)), (1, .ref aA), (2, .int x2)] → W pr l en rmX11_acts st mi ag bl me co H locs 0 0 (MQ bl (kQ none D (gMR T aM aA z rwR) A) ag st rmX11_acts.cells rmX11_acts.slots A) (F0 mi 93 ls []) := by
        intro rw_6 H locs ls h G hl
        rw [hj93] at h
        refine lv_aload_n F.1 F.2.1 dX11_acts_93 rfl (lv_at hl 1 rfl) ?_
        refine lv_iload_n F.1 F.2.1 dX11_acts_94 rfl (lv_at hl 2 rfl) ?_
        refine lv_bipush (v := 7) F.1 F.2.1 dX11_acts_95 (by decide) ?_
        obtain ⟨r_7, hc, h⟩ := op_b h
        refine k_callS (rv := (some (.int r_7))) (Wc := ([] : va_W)) (W2 := ([] : va_W)) (Wn := (gMR T aM aA z rw_6)) (As := [.int x2, .int 7]) (rest := [.ref aA]) F G (mX11_at l D T x2 7 hc) (va_cwS 2 F.2.2.2.2 (kg_c kl786 (kg_c kl787 (kg_c kl788 (kg_c kl767 kg_a)))) rfl rfl rfl (by decide +kernel) ⟨Nat.le_of_ble_eq_true rfl, Nat.le_of_ble_eq_true rfl⟩) (kCut_0 G) rfl hl.1 rfl (Nat.le_of_ble_eq_true rfl) dX11_acts_97 ⟨Nat.le_of_ble_eq_true rfl, Nat.le_of_ble_eq_true rfl⟩ (cN := 0) (sN := 0) ⟨rfl, rfl⟩ (fun H locs G => ?_)
        refine lv_iconst (v := 0) F.1 F.2.1 dX11_acts_100 (by decide) ?_
        obtain ⟨c, h⟩ := op_g h
        obtain ⟨rw_8, e9, h⟩ := op_st h
        refine k_iast F G 5 rfl c dX11_acts_101 (Wn := (gMR T aM aA z rw_8)) (by subst e9; rfl) (fun H locs G => ?_)
        clear e9
        refine lv_aload_n F.1 F.2.1 dX11_acts_102 rfl (lv_at hl 1 rfl) ?_
        refine lv_iload_n F.1 F.2.1 dX11_acts_103 rfl (lv_at hl 2 rfl) ?_
        refine lv_bipush (v := 8) F.1 F.2.1 dX11_acts_104 (by decide) ?_
        obtain ⟨r_9, hc, h⟩ := op_b h
        refine k_callS (rv := (some (.int r_9))) (Wc := ([] : va_W)) (W2 := ([] : va_W)) (Wn := (gMR T aM aA z rw_8)) (As := [.int x2, .int 8]) (rest := [.ref aA]) F G (mX11_at l D T x2 8 hc) (va_cwS 2 F.2.2.2.2 (kg_c kl786 (kg_c kl787 (kg_c kl788 (kg_c kl767 kg_a)))) rfl rfl rfl (by decide +kernel) ⟨Nat.le_of_ble_eq_true rfl, Nat.le_of_ble_eq_true rfl⟩) (kCut_0 G) rfl hl.1 rfl (Nat.le_of_ble_eq_true rfl) dX11_acts_106 ⟨Nat.le_of_ble_eq_true rfl, Nat.le_of_ble_eq_true rfl⟩ (cN := 0) (sN := 0) ⟨rfl, rfl⟩ (fun H locs G => ?_)
        refine lv_iconst (v := 0) F.1 F.2.1 dX11_acts_109 (by decide) ?_
        obtain ⟨c, h⟩ := op_g h
        obtain ⟨rw_10, e9, h⟩ := op_st h
        refine k_iast F G 5 rfl c dX11_acts_110 (Wn := (gMR T aM aA z rw_10)) (by subst e9; rfl) (fun H locs G => ?_)
        clear e9
        refine lv_aload_n F.1 F.2.1 dX11_acts_111 rfl (lv_at hl 1 rfl) ?_
        refine lv_iload_n F.1 F.2.1 dX11_acts_112 rfl (lv_at hl 2 rfl) ?_
        refine lv_bipush (v := 6) F.1 F.2.1 dX11_acts_113 (by decide) ?_
        obtain ⟨r_11, hc, h⟩ := op_b h
        refine k_callS (rv := (some (.int r_11))) (Wc := ([] : va_W)) (W2 := ([] : va_W)) (Wn := (gMR T aM aA z rw_10)) (As := [.int x2, .int 6]) (rest := [.ref aA]) F G (mX11_at l D T x2 6 hc) (va_cwS 2 F.2.2.2.2 (kg_c kl786 (kg_c kl787 (kg_c kl788 (kg_c kl767 kg_a)))) rfl rfl rfl (by decide +kernel) ⟨Nat.le_of_ble_eq_true rfl, Nat.le_of_ble_eq_true rfl⟩) (kCut_0 G) rfl hl.1 rfl (Nat.le_of_ble_eq_true rfl) dX11_acts_115 ⟨Nat.le_of_ble_eq_true rfl, Nat.le_of_ble_eq_true rfl⟩ (cN := 0) (sN := 0) ⟨rfl, rfl⟩ (fun H locs G => ?_)
        obtain ⟨c, h⟩ := op_g h
        refine k_iald F G 5 rfl c dX11_acts_118 ?_
        refine lv_iconst (v := (-1)) F.1 F.2.1 dX11_acts_119 (by decide) ?_
        obtain ⟨j147, hj147, h⟩ := op_j h
        have J147 : ∀ (y_12 : Int32) (H : Heap) (locs : List Loc) (ls : Array Slot), j147 y_12 = some (rwR) → Rg D T A st (gMR T aM aA z rw_10) H locs → lv_has ls 4 [(0, .ref (aM 0)), (1, .ref aA), (2, .int x2)] → W pr l en rmX11_acts st mi ag bl me co H locs 0 0 (MQ bl (kQ none D (gMR T aM aA z rwR) A) ag st rmX11_acts.cells rmX11_acts.slots A) (F0 mi 147 ls [.int y_12]) := by
          intro y_12 H locs ls h G hl
          rw [hj147] at h
          refine lv_istore_n (lv' := [(3, .int y_12), (0, .ref (aM 0)), (1, .ref aA), (2, .int x2)]) F.1 F.2.1 dX11_acts_147 rfl hl (by decide) rfl (fun ls hl => ?_)
          refine lv_aload_n F.1 F.2.1 dX11_acts_148 rfl (lv_at hl 2 rfl) ?_
          refine lv_iload_n F.1 F.2.1 dX11_acts_149 rfl (lv_at hl 3 rfl) ?_
          refine lv_iconst (v := 2) F.1 F.2.1 dX11_acts_150 (by decide) ?_
          obtain ⟨r_13, hc, h⟩ := op_b h
          refine k_callS (rv := (some (.int r_13))) (Wc := ([] : va_W)) (W2 := ([] : va_W)) (Wn := (gMR T aM aA z rw_10)) (As := [.int x2, .int 2]) (rest := [.ref aA]) F G (mX11_at l D T x2 2 hc) (va_cwS 2 F.2.2.2.2 (kg_c kl786 (kg_c kl787 (kg_c kl788 (kg_c kl767 kg_a)))) rfl rfl rfl (by decide +kernel) ⟨Nat.le_of_ble_eq_true rfl, Nat.le_of_ble_eq_true rfl⟩) (kCut_0 G) rfl hl.1 rfl (Nat.le_of_ble_eq_true rfl) dX11_acts_151 ⟨Nat.le_of_ble_eq_true rfl, Nat.le_of_ble_eq_true rfl⟩ (cN := 0) (sN := 0) ⟨rfl, rfl⟩ (fun H locs G => ?_)
          obtain ⟨c, h⟩ := op_g h
          refine k_iald F G 5 rfl c dX11_acts_154 ?_
          refine lv_iconst (v := 1) F.1 F.2.1 dX11_acts_155 (by decide) ?_
          refine lv_icmp_ne (tgt := 163) F.1 F.2.1 dX11_acts_156 (by decide) (fun c => ?_) (fun c => ?_)
          · have h := op_f h c
            obtain rfl := op_1 h
            exact k_vret F hr hlk G dX11_acts_163
          · have h := op_t h c
            refine lv_iload_n F.1 F.2.1 dX11_acts_159 rfl (lv_at hl 0 rfl) ?_
            refine lv_if_ne (tgt := 164) F.1 F.2.1 dX11_acts_160 (by decide) (fun c => ?_) (fun c => ?_)
            · have h := op_f h c
              refine lv_aload_n F.1 F.2.1 dX11_acts_164 rfl (lv_at hl 1 rfl) ?_
              refine lv_aload_n F.1 F.2.1 dX11_acts_165 rfl (lv_at hl 2 rfl) ?_
              refine lv_iconst (v := 0) F.1 F.2.1 dX11_acts_166 (by decide) ?_
              refine lv_iload_n F.1 F.2.1 dX11_acts_167 rfl (lv_at hl 3 rfl) ?_
              refine lv_iconst (v := (-1)) F.1 F.2.1 dX11_acts_168 (by decide) ?_
              obtain ⟨rw_14, hc, h⟩ := op_b h
              refine k_callV (rv := none) (Wc := (gMR T aM (aA) z rw_10)) (W2 := (gMR T aM (aA) z rw_14)) (Wn := (gMR T aM aA z rw_14)) (As := [.ref aA, .int 0, .int x2, .int (-1)]) (rest := []) F G (mX11_sends l D T aM (aA) z rw_10 0 x2 (-1) hc) (cwV 4 F.2.2.2.2 (kg_c kl939 (kg_c kl940 (kg_c kl941 (kg_c kl788 (kg_c kl924 kg_a))))) rfl rfl rfl (by decide +kernel) ⟨Nat.le_of_ble_eq_true rfl, Nat.le_of_ble_eq_true rfl⟩) 0 rfl (q := (RX11, TX11, 35)) rfl rfl (kCut_F G) rfl hl.1 rfl (Nat.le_of_ble_eq_true rfl) dX11_acts_169 ⟨Nat.le_of_ble_eq_true rfl, Nat.le_of_ble_eq_true rfl⟩ (cN := 0) (sN := 0) ⟨rfl, rfl⟩ (fun H locs G => ?_)
              refine lv_aload_n F.1 F.2.1 dX11_acts_172 rfl (lv_at hl 2 rfl) ?_
              refine lv_iload_n F.1 F.2.1 dX11_acts_173 rfl (lv_at hl 3 rfl) ?_
              refine lv_bipush (v := 6) F.1 F.2.1 dX11_acts_174 (by decide) ?_
              obtain ⟨r_15, hc, h⟩ := op_b h
              refine k_callS (rv := (some (.int r_15))) (Wc := ([] : va_W)) (W2 := ([] : va_W)) (Wn := (gMR T aM aA z rw_14)) (As := [.int x2, .int 6]) (rest := [.ref aA]) F G (mX11_at l D T x2 6 hc) (va_cwS 2 F.2.2.2.2 (kg_c kl786 (kg_c kl787 (kg_c kl788 (kg_c kl767 kg_a)))) rfl rfl rfl (by decide +kernel) ⟨Nat.le_of_ble_eq_true rfl, Nat.le_of_ble_eq_true rfl⟩) (kCut_0 G) rfl hl.1 rfl (Nat.le_of_ble_eq_true rfl) dX11_acts_176 ⟨Nat.le_of_ble_eq_true rfl, Nat.le_of_ble_eq_true rfl⟩ (cN := 0) (sN := 0) ⟨rfl, rfl⟩ (fun H locs G => ?_)
              refine lv_aload_n F.1 F.2.1 dX11_acts_179 rfl (lv_at hl 2 rfl) ?_
              refine lv_iconst (v := 0) F.1 F.2.1 dX11_acts_180 (by decide) ?_
              refine k_ialdN F G 5 rfl (kin (by decide +kernel)) 0 (by decide +kernel) dX11_acts_181 ?_
              obtain ⟨c, h⟩ := op_g h
              obtain ⟨rw_16, e9, h⟩ := op_st h
              refine k_iast F G 5 rfl c dX11_acts_182 (Wn := (gMR T aM aA z rw_16)) (by subst e9; rfl) (fun H locs G => ?_)
              clear e9
              obtain rfl := op_1 h
              exact k_vret F hr hlk G dX11_acts_183
            · have h := op_t h c
              obtain rfl := op_1 h
              exact k_vret F hr hlk G dX11_acts_163
        clear hj147
        obtain ⟨j142, hj142, h⟩ := op_j h
        have J142 : ∀ (H : Heap) (locs : List Loc) (ls : Array Slot), j142 () = some (rwR) → Rg D T A st (gMR T aM aA z rw_10) H locs → lv_has ls 4 [(0, .ref (aM 0)), (1, .ref aA), (2, .int x2)] → W pr l en rmX11_acts st mi ag bl me co H locs 0 0 (MQ bl (kQ none D (gMR T aM aA z rwR) A) ag st rmX11_acts.cells rmX11_acts.slots A) (F0 mi 142 ls []) := by
          intro H locs ls h G hl
          rw [hj142] at h
          refine lv_iconst (v := 1) F.1 F.2.1 dX11_acts_142 (by decide) ?_
          refine lv_goto (tgt := 147) F.1 F.2.1 dX11_acts_143 (by decide) ?_
          exact J147 1 _ _ _ h G hl
        clear hj142
        refine lv_icmp_eq (tgt := 142) F.1 F.2.1 dX11_acts_120 (by decide) (fun c => ?_) (fun c => ?_)
        · have h := op_t h c
          exact J142 _ _ _ h G hl
        · have h := op_f h c
          refine lv_aload_n F.1 F.2.1 dX11_acts_123 rfl (lv_at hl 1 rfl) ?_
          refine lv_iconst (v := 0) F.1 F.2.1 dX11_acts_124 (by decide) ?_
          refine k_ialdN F G 5 rfl (kin (by decide +kernel)) 0 (by decide +kernel) dX11_acts_125 ?_
          refine lv_aload_n F.1 F.2.1 dX11_acts_126 rfl (lv_at hl 1 rfl) ?_
          refine lv_iload_n F.1 F.2.1 dX11_acts_127 rfl (lv_at hl 2 rfl) ?_
          refine lv_bipush (v := 6) F.1 F.2.1 dX11_acts_128 (by decide) ?_
          obtain ⟨r_17, hc, h⟩ := op_b h
          refine k_callS (rv := (some (.int r_17))) (Wc := ([] : va_W)) (W2 := ([] : va_W)) (Wn := (gMR T aM aA z rw_10)) (As := [.int x2, .int 6]) (rest := [.ref aA, .int (rw_10 0)]) F G (mX11_at l D T x2 6 hc) (va_cwS 2 F.2.2.2.2 (kg_c kl786 (kg_c kl787 (kg_c kl788 (kg_c kl767 kg_a)))) rfl rfl rfl (by decide +kernel) ⟨Nat.le_of_ble_eq_true rfl, Nat.le_of_ble_eq_true rfl⟩) (kCut_0 G) rfl hl.1 rfl (Nat.le_of_ble_eq_true rfl) dX11_acts_130 ⟨Nat.le_of_ble_eq_true rfl, Nat.le_of_ble_eq_true rfl⟩ (cN := 0) (sN := 0) ⟨rfl, rfl⟩ (fun H locs G => ?_)
          obtain ⟨c, h⟩ := op_g h
          refine k_iald F G 5 rfl c dX11_acts_133 ?_
          refine lv_isub F.1 F.2.1 dX11_acts_134 ?_
          refine lv_aload_n F.1 F.2.1 dX11_acts_135 rfl (lv_at hl 1 rfl) ?_
          refine lv_bipush (v := 7) F.1 F.2.1 dX11_acts_136 (by decide) ?_
          refine k_ialdN F G 5 rfl (kin (by decide +kernel)) 7 (by decide +kernel) dX11_acts_138 ?_
          refine lv_icmp_lt (tgt := 146) F.1 F.2.1 dX11_acts_139 (by decide) (fun c => ?_) (fun c => ?_)
          · have h := op_t h c
            refine lv_iconst (v := 0) F.1 F.2.1 dX11_acts_146 (by decide) ?_
            exact J147 0 _ _ _ h G hl
          · have h := op_f h c
            exact J142 _ _ _ h G hl
      clear hj93
      refine lv_icmp_ne (tgt := 93) F.1 F.2.1 dX11_acts_76 (by decide) (fun c => ?_) (fun c => ?_)
      · have h := op_f h c
        exact J93 rw_4 _ _ _ h G hl
      · have h := op_t h c
        refine lv_aload_n F.1 F.2.1 dX11_acts_79 rfl (lv_at hl 0 rfl) ?_
        refine lv_aload_n F.1 F.2.1 dX11_acts_80 rfl (lv_at hl 1 rfl) ?_
        refine lv_iconst (v := 3) F.1 F.2.1 dX11_acts_81 (by decide) ?_
        refine lv_iload_n F.1 F.2.1 dX11_acts_82 rfl (lv_at hl 2 rfl) ?_
        refine lv_aload_n F.1 F.2.1 dX11_acts_83 rfl (lv_at hl 1 rfl) ?_
        refine lv_iload_n F.1 F.2.1 dX11_acts_84 rfl (lv_at hl 2 rfl) ?_
        refine lv_iconst (v := 2) F.1 F.2.1 dX11_acts_85 (by decide) ?_
        obtain ⟨r_18, hc, h⟩ := op_b h
        refine k_callS (rv := (some (.int r_18))) (Wc := ([] : va_W)) (W2 := ([] : va_W)) (Wn := (gMR T aM aA z rw_4)) (As := [.int x2, .int 2]) (rest := [.ref aA, .int x2, .int 3, .ref aA, .ref (aM 0)]) F G (mX11_at l D T x2 2 hc) (va_cwS 2 F.2.2.2.2 (kg_c kl786 (kg_c kl787 (kg_c kl788 (kg_c kl767 kg_a)))) rfl rfl rfl (by decide +kernel) ⟨Nat.le_of_ble_eq_true rfl, Nat.le_of_ble_eq_true rfl⟩) (kCut_0 G) rfl hl.1 rfl (Nat.le_of_ble_eq_true rfl) dX11_acts_86 ⟨Nat.le_of_ble_eq_true rfl, Nat.le_of_ble_eq_true rfl⟩ (cN := 0) (sN := 0) ⟨rfl, rfl⟩ (fun H locs G => ?_)
        obtain ⟨c, h⟩ := op_g h
        refine k_iald F G 5 rfl c dX11_acts_89 ?_
        obtain ⟨rw_19, hc, h⟩ := op_b h
        refine k_callV (rv := none) (Wc := (gMR T aM (aA) z rw_4)) (W2 := (gMR T aM (aA) z rw_19)) (Wn := (gMR T aM aA z rw_19)) (As := [.ref aA, .int 3, .int x2, .int (rw_4 r_18.toNatClampNeg)]) (rest := []) F G (mX11_sends l D T aM (aA) z rw_4 3 x2 (rw_4 r_18.toNatClampNeg) hc) (cwV 4 F.2.2.2.2 (kg_c kl939 (kg_c kl940 (kg_c kl941 (kg_c kl788 (kg_c kl924 kg_a))))) rfl rfl rfl (by decide +kernel) ⟨Nat.le_of_ble_eq_true rfl, Nat.le_of_ble_eq_true rfl⟩) 0 rfl (q := (RX11, TX11, 35)) rfl rfl (kCut_F G) rfl hl.1 rfl (Nat.le_of_ble_eq_true rfl) dX11_acts_90 ⟨Nat.le_of_ble_eq_true rfl, Nat.le_of_ble_eq_true rfl⟩ (cN := 0) (sN := 0) ⟨rfl, rfl⟩ (fun H locs G => ?_)
        exact J93 rw_19 _ _ _ h G hl
    clear hj67
    refine lv_icmp_ne (tgt := 67) F.1 F.2.1 dX11_acts_56 (by decide) (fun c => ?_) (fun c => ?_)
    · have h := op_f h c
      exact J67 rw_2 _ _ _ h G hl
    · have h := op_t h c
      refine lv_aload_n F.1 F.2.1 dX11_acts_59 rfl (lv_at hl 0 rfl) ?_
      refine lv_aload_n F.1 F.2.1 dX11_acts_60 rfl (lv_at hl 1 rfl) ?_
      refine lv_iconst (v := 2) F.1 F.2.1 dX11_acts_61 (by decide) ?_
      refine lv_iload_n F.1 F.2.1 dX11_acts_62 rfl (lv_at hl 2 rfl) ?_
      refine lv_iconst (v := (-1)) F.1 F.2.1 dX11_acts_63 (by decide) ?_
      obtain ⟨rw_20, hc, h⟩ := op_b h
      refine k_callV (rv := none) (Wc := (gMR T aM (aA) z rw_2)) (W2 := (gMR T aM (aA) z rw_20)) (Wn := (gMR T aM aA z rw_20)) (As := [.ref aA, .int 2, .int x2, .int (-1)]) (rest := []) F G (mX11_sends l D T aM (aA) z rw_2 2 x2 (-1) hc) (cwV 4 F.2.2.2.2 (kg_c kl939 (kg_c kl940 (kg_c kl941 (kg_c kl788 (kg_c kl924 kg_a))))) rfl rfl rfl (by decide +kernel) ⟨Nat.le_of_ble_eq_true rfl, Nat.le_of_ble_eq_true rfl⟩) 0 rfl (q := (RX11, TX11, 35)) rfl rfl (kCut_F G) rfl hl.1 rfl (Nat.le_of_ble_eq_true rfl) dX11_acts_64 ⟨Nat.le_of_ble_eq_true rfl, Nat.le_of_ble_eq_true rfl⟩ (cN := 0) (sN := 0) ⟨rfl, rfl⟩ (fun H locs G => ?_)
      exact J67 rw_20 _ _ _ h G hl
  clear hj47
  refine lv_icmp_ne (tgt := 47) F.1 F.2.1 dX11_acts_8 (by decide) (fun c => ?_) (fun c => ?_)
  · have h := op_f h c
    exact J47 rw _ _ _ h G hl
  · have h := op_t h c
    refine lv_aload_n F.1 F.2.1 dX11_acts_11 rfl (lv_at hl 1 rfl) ?_
    refine lv_iload_n F.1 F.2.1 dX11_acts_12 rfl (lv_at hl 2 rfl) ?_
    refine lv_iconst (v := 3) F.1 F.2.1 dX11_acts_13 (by decide) ?_
    obtain ⟨r_21, hc, h⟩ := op_b h
    refine k_callS (rv := (some (.int r_21))) (Wc := ([] : va_W)) (W2 := ([] : va_W)) (Wn := (gMR T aM aA z rw)) (As := [.int x2, .int 3]) (rest := [.ref aA]) F G (mX11_at l D T x2 3 hc) (va_cwS 2 F.2.2.2.2 (kg_c kl786 (kg_c kl787 (kg_c kl788 (kg_c kl767 kg_a)))) rfl rfl rfl (by decide +kernel) ⟨Nat.le_of_ble_eq_true rfl, Nat.le_of_ble_eq_true rfl⟩) (kCut_0 G) rfl hl.1 rfl (Nat.le_of_ble_eq_true rfl) dX11_acts_14 ⟨Nat.le_of_ble_eq_true rfl, Nat.le_of_ble_eq_true rfl⟩ (cN := 0) (sN := 0) ⟨rfl, rfl⟩ (fun H locs G => ?_)
    obtain ⟨c, h⟩ := op_g h
    refine k_iald F G 5 rfl c dX11_acts_17 ?_
    refine lv_if_ne (tgt := 47) F.1 F.2.1 dX11_acts_18 (by decide) (fun c => ?_) (fun c => ?_)
    · have h := op_f h c
      exact J47 rw _ _ _ h G hl
    · have h := op_t h c
      refine lv_aload_n F.1 F.2.1 dX11_acts_21 rfl (lv_at hl 1 rfl) ?_
      refine lv_iload_n F.1 F.2.1 dX11_acts_22 rfl (lv_at hl 2 rfl) ?_
      refine lv_iconst (v := 2) F.1 F.2.1 dX11_acts_23 (by decide) ?_
      obtain ⟨r_22, hc, h⟩ := op_b h
      refine k_callS (rv := (some (.int r_22))) (Wc := ([] : va_W)) (W2 := ([] : va_W)) (Wn := (gMR T aM aA z rw)) (As := [.int x2, .int 2]) (rest := [.ref aA]) F G (mX11_at l D T x2 2 hc) (va_cwS 2 F.2.2.2.2 (kg_c kl786 (kg_c kl787 (kg_c kl788 (kg_c kl767 kg_a)))) rfl rfl rfl (by decide +kernel) ⟨Nat.le_of_ble_eq_true rfl, Nat.le_of_ble_eq_true rfl⟩) (kCut_0 G) rfl hl.1 rfl (Nat.le_of_ble_eq_true rfl) dX11_acts_24 ⟨Nat.le_of_ble_eq_true rfl, Nat.le_of_ble_eq_true rfl⟩ (cN := 0) (sN := 0) ⟨rfl, rfl⟩ (fun H locs G => ?_)
      refine lv_iconst (v := 3) F.1 F.2.1 dX11_acts_27 (by decide) ?_
      obtain ⟨c, h⟩ := op_g h
      obtain ⟨rw_23, e9, h⟩ := op_st h
      refine k_iast F G 5 rfl c dX11_acts_28 (Wn := (gMR T aM aA z rw_23)) (by subst e9; rfl) (fun H locs G => ?_)
      clear e9
      refine lv_aload_n F.1 F.2.1 dX11_acts_29 rfl (lv_at hl 1 rfl) ?_
      refine lv_iload_n F.1 F.2.1 dX11_acts_30 rfl (lv_at hl 2 rfl) ?_
      refine lv_iconst (v := 5) F.1 F.2.1 dX11_acts_31 (by decide) ?_
      obtain ⟨r_24, hc, h⟩ := op_b h
      refine k_callS (rv := (some (.int r_24))) (Wc := ([] : va_W)) (W2 := ([] : va_W)) (Wn := (gMR T aM aA z rw_23)) (As := [.int x2, .int 5]) (rest := [.ref aA]) F G (mX11_at l D T x2 5 hc) (va_cwS 2 F.2.2.2.2 (kg_c kl786 (kg_c kl787 (kg_c kl788 (kg_c kl767 kg_a)))) rfl rfl rfl (by decide +kernel) ⟨Nat.le_of_ble_eq_true rfl, Nat.le_of_ble_eq_true rfl⟩) (kCut_0 G) rfl hl.1 rfl (Nat.le_of_ble_eq_true rfl) dX11_acts_32 ⟨Nat.le_of_ble_eq_true rfl, Nat.le_of_ble_eq_true rfl⟩ (cN := 0) (sN := 0) ⟨rfl, rfl⟩ (fun H locs G => ?_)
      refine lv_aload_n F.1 F.2.1 dX11_acts_35 rfl (lv_at hl 1 rfl) ?_
      refine lv_iconst (v := 0) F.1 F.2.1 dX11_acts_36 (by decide) ?_
      refine k_ialdN F G 5 rfl (kin (by decide +kernel)) 0 (by decide +kernel) dX11_acts_37 ?_
      obtain ⟨c, h⟩ := op_g h
      obtain ⟨rw_25, e9, h⟩ := op_st h
      refine k_iast F G 5 rfl c dX11_acts_38 (Wn := (gMR T aM aA z rw_25)) (by subst e9; rfl) (fun H locs G => ?_)
      clear e9
      refine lv_aload_n F.1 F.2.1 dX11_acts_39 rfl (lv_at hl 0 rfl) ?_
      refine lv_aload_n F.1 F.2.1 dX11_acts_40 rfl (lv_at hl 1 rfl) ?_
      refine lv_iconst (v := 1) F.1 F.2.1 dX11_acts_41 (by decide) ?_
      refine lv_iload_n F.1 F.2.1 dX11_acts_42 rfl (lv_at hl 2 rfl) ?_
      refine lv_iconst (v := (-1)) F.1 F.2.1 dX11_acts_43 (by decide) ?_
      obtain ⟨rw_26, hc, h⟩ := op_b h
      refine k_callV (rv := none) (Wc := (gMR T aM (aA) z rw_25)) (W2 := (gMR T aM (aA) z rw_26)) (Wn := (gMR T aM aA z rw_26)) (As := [.ref aA, .int 1, .int x2, .int (-1)]) (rest := []) F G (mX11_sends l D T aM (aA) z rw_25 1 x2 (-1) hc) (cwV 4 F.2.2.2.2 (kg_c kl939 (kg_c kl940 (kg_c kl941 (kg_c kl788 (kg_c kl924 kg_a))))) rfl rfl rfl (by decide +kernel) ⟨Nat.le_of_ble_eq_true rfl, Nat.le_of_ble_eq_true rfl⟩) 0 rfl (q := (RX11, TX11, 35)) rfl rfl (kCut_F G) rfl hl.1 rfl (Nat.le_of_ble_eq_true rfl) dX11_acts_44 ⟨Nat.le_of_ble_eq_true rfl, Nat.le_of_ble_eq_true rfl⟩ (cN := 0) (sN := 0) ⟨rfl, rfl⟩ (fun H locs G => ?_)
      exact J47 rw_26 _ _ _ h G hl
abbrev rmX11_placeOf : Room := ({ frames := 0, cells := 0, slots := 0, locals := 0 } : Room)
noncomputable def qX11_placeOf_L2 (z : Nat → Nat → Int32) (rw : Nat → Int32) (x2_1 : Int32) (K : Unit → Option (Int32)) : Nat → Int32 → Option (Int32)
  | 0, _ => none
  | n + 1, x3_2 =>
    if (rw 13) ≤ x3_2 then (K ()) else gd (vp_in (39 + x3_2) 411) (if (rw (39 + x3_2).toNatClampNeg) = x2_1 then some x3_2 else (qX11_placeOf_L2 z rw x2_1 K n (x3_2 + 1)))

noncomputable def qX11_placeOf (z : Nat → Nat → Int32) (rw : Nat → Int32) (x2 : Int32) : Option (Int32) :=
  (qX11_placeOf_L2 z rw x2 (fun (_u : Unit) => some (-1)) fu 0 )

set_option maxHeartbeats 4000000 in
set_option maxRecDepth 100000 in
theorem mX11_placeOf (l : Launch) (D : va_G) (T : Nat → ClassId) (aM : Nat → Nat) (aA : Nat) (z : Nat → Nat → Int32) (rw : Nat → Int32) (x2 : Int32) {rR : Int32} (hres : qX11_placeOf z rw x2 = some (rR)) : Ct l yX11_placeOf (Cond.code yX11_placeOf cX11_placeOf 4 (some .int) :: kAll) rmX11_placeOf D T [.ref (aM 0), .ref aA, .int x2] (gMR T aM aA z rw) (some (.int rR)) (gMR T aM aA z rw) := by
  refine Ct.of (cc := cX11_placeOf) (maxL := 4) (ret := (some .int)) (by decide +kernel) rfl (Nat.le_of_ble_eq_true rfl) ?_
  intro pr en st mi ag bl me co A ls F hr hlk hnm G hl
  have hl : lv_has ls 4 [(0, .ref (aM 0)), (1, .ref aA), (2, .int x2)] := hl
  have h := hres
  unfold qX11_placeOf at h
  refine lv_iconst (v := 0) F.1 F.2.1 dX11_placeOf_0 (by decide) ?_
  refine lv_istore_n (lv' := [(3, .int 0), (0, .ref (aM 0)), (1, .ref aA), (2, .int x2)]) F.1 F.2.1 dX11_placeOf_1 rfl hl (by decide) rfl (fun ls hl => ?_)
  have L2 : ∀ (z : Nat → Nat → Int32) (rw : Nat → Int32) (x2_1 : Int32) (K : Unit → Option (Int32)) (hK : ∀ (_u : Unit) (H : Heap) (locs : List Loc) (ls : Array Slot), K _u = some (rR) → Rg D T A st (gMR T aM aA z rw) H locs → lv_has ls 4 [] → W pr l en rmX11_placeOf st mi ag bl me co H locs 0 0 (MQ bl (kQ (some (.int rR)) D (gMR T aM aA z rw) A) ag st rmX11_placeOf.cells rmX11_placeOf.slots A) (F0 mi 28 ls [])) (n : Nat) (x3_2 : Int32) (H : Heap) (locs : List Loc) (ls : Array Slot), qX11_placeOf_L2 z rw x2_1 K n x3_2 = some (rR) → Rg D T A st (gMR T aM aA z rw) H locs → lv_has ls 4 [(1, .ref aA), (2, .int x2_1), (3, .int x3_2)] → W pr l en rmX11_placeOf st mi ag bl me co H locs 0 0 (MQ bl (kQ (some (.int rR)) D (gMR T aM aA z rw) A) ag st rmX11_placeOf.cells rmX11_placeOf.slots A) (F0 mi 2 ls []) := by
    intro z rw x2_1 K hK n
    induction n with
    | zero => intro x3_2 H locs ls h; exact op_n h
    | succ n ih =>
      intro x3_2 H locs ls h G hl
      rw [qX11_placeOf_L2] at h
      refine lv_iload_n F.1 F.2.1 dX11_placeOf_2 rfl (lv_at hl 2 rfl) ?_
      refine lv_aload_n F.1 F.2.1 dX11_placeOf_3 rfl (lv_at hl 0 rfl) ?_
      refine lv_bipush (v := 13) F.1 F.2.1 dX11_placeOf_4 (by decide) ?_
      refine k_ialdN F G 5 rfl (kin (by decide +kernel)) 13 (by decide +kernel) dX11_placeOf_6 ?_
      refine lv_icmp_ge (tgt := 28) F.1 F.2.1 dX11_placeOf_7 (by decide) (fun c => ?_) (fun c => ?_)
      · have h := op_t h c
        exact hK () _ _ _ h G (lv_sub hl [] rfl)
      · have h := op_f h c
        refine lv_aload_n F.1 F.2.1 dX11_placeOf_10 rfl (lv_at hl 0 rfl) ?_
        refine lv_bipush (v := 39) F.1 F.2.1 dX11_placeOf_11 (by decide) ?_
        refine lv_iload_n F.1 F.2.1 dX11_placeOf_13 rfl (lv_at hl 2 rfl) ?_
        refine lv_iadd F.1 F.2.1 dX11_placeOf_14 ?_
        obtain ⟨c, h⟩ := op_g h
        refine k_iald F G 5 rfl c dX11_placeOf_15 ?_
        refine lv_iload_n F.1 F.2.1 dX11_placeOf_16 rfl (lv_at hl 1 rfl) ?_
        refine lv_icmp_ne (tgt := 22) F.1 F.2.1 dX11_placeOf_17 (by decide) (fun c => ?_) (fun c => ?_)
        · have h := op_f h c
          refine lv_iinc (v := (x3_2 + 1)) (lv' := [(3, .int (x3_2 + 1)), (1, .ref aA), (2, .int x2_1)]) F.1 F.2.1 dX11_placeOf_22 hl (k := 2) rfl rfl (by decide) rfl (fun ls hl => ?_)
          refine lv_goto (tgt := 2) F.1 F.2.1 dX11_placeOf_25 (by decide) ?_
          exact ih (x3_2 + 1) _ _ _ h G (lv_sub hl [1, 2, 0] rfl)
        · have h := op_t h c
          refine lv_iload_n F.1 F.2.1 dX11_placeOf_20 rfl (lv_at hl 2 rfl) ?_
          obtain rfl := op_1 h
          exact k_iret F hr hlk G dX11_placeOf_21
  refine L2 z rw x2 _ (fun _u H locs ls h G hl => ?_) fu 0  _ _ _ h G (lv_sub hl [2, 3, 0] rfl)
  clear L2
  refine lv_iconst (v := (-1)) F.1 F.2.1 dX11_placeOf_28 (by decide) ?_
  obtain rfl := op_1 h
  exact k_iret F hr hlk G dX11_placeOf_29
abbrev rmX11_isAhead : Room := ({ frames := 1, cells := 0, slots := 0, locals := 23 } : Room)
noncomputable def qX11_isAhead (z : Nat → Nat → Int32) (rw : Nat → Int32) (x2 : Int32) (x3 : Int32) : Option (Int32) :=
  bd (qX11_at x2 0) fun r_1 => gd (vp_in r_1 411) (bd (qX11_at x3 0) fun r_2 => gd (vp_in r_2 411) (if (rw r_1.toNatClampNeg) = (rw r_2.toNatClampNeg) then bd (qX11_placeOf z rw x2) fun r_3 => bd (qX11_placeOf z rw x3) fun r_4 => if r_3 = r_4 then if x3 ≤ x2 then some 0 else some 1 else if r_3 = (-1) then some 0 else if r_4 = (-1) then some 1 else if r_4 ≤ r_3 then some 0 else some 1 else bd (qX11_at x2 0) fun r_5 => gd (vp_in r_5 411) (bd (qX11_at x3 0) fun r_6 => gd (vp_in r_6 411) (if (rw r_5.toNatClampNeg) ≤ (rw r_6.toNatClampNeg) then some 0 else some 1))))

set_option maxHeartbeats 4000000 in
set_option maxRecDepth 100000 in
theorem mX11_isAhead (l : Launch) (D : va_G) (T : Nat → ClassId) (aM : Nat → Nat) (aA : Nat) (z : Nat → Nat → Int32) (rw : Nat → Int32) (x2 : Int32) (x3 : Int32) {rR : Int32} (hres : qX11_isAhead z rw x2 x3 = some (rR)) : Ct l yX11_isAhead (Cond.code yX11_isAhead cX11_isAhead 6 (some .boolean) :: kAll) rmX11_isAhead D T [.ref (aM 0), .ref aA, .int x2, .int x3] (gMR T aM aA z rw) (some (.int rR)) (gMR T aM aA z rw) := by
  refine Ct.of (cc := cX11_isAhead) (maxL := 6) (ret := (some .boolean)) (by decide +kernel) rfl (Nat.le_of_ble_eq_true rfl) ?_
  intro pr en st mi ag bl me co A ls F hr hlk hnm G hl
  have hl : lv_has ls 6 [(0, .ref (aM 0)), (1, .ref aA), (2, .int x2), (3, .int x3)] := hl
  have h := hres
  unfold qX11_isAhead at h
  refine lv_aload_n F.1 F.2.1 dX11_isAhead_0 rfl (lv_at hl 1 rfl) ?_
  refine lv_iload_n F.1 F.2.1 dX11_isAhead_1 rfl (lv_at hl 2 rfl) ?_
  refine lv_iconst (v := 0) F.1 F.2.1 dX11_isAhead_2 (by decide) ?_
  obtain ⟨r_1, hc, h⟩ := op_b h
  refine k_callS (rv := (some (.int r_1))) (Wc := ([] : va_W)) (W2 := ([] : va_W)) (Wn := (gMR T aM aA z rw)) (As := [.int x2, .int 0]) (rest := [.ref aA]) F G (mX11_at l D T x2 0 hc) (va_cwS 2 F.2.2.2.2 (kg_c kl786 (kg_c kl787 (kg_c kl788 (kg_c kl767 kg_a)))) rfl rfl rfl (by decide +kernel) ⟨Nat.le_of_ble_eq_true rfl, Nat.le_of_ble_eq_true rfl⟩) (kCut_0 G) rfl hl.1 rfl (Nat.le_of_ble_eq_true rfl) dX11_isAhead_3 ⟨Nat.le_of_ble_eq_true rfl, Nat.le_of_ble_eq_true rfl⟩ (cN := 0) (sN := 0) ⟨rfl, rfl⟩ (fun H locs G => ?_)
  obtain ⟨c, h⟩ := op_g h
  refine k_iald F G 5 rfl c dX11_isAhead_6 ?_
  refine lv_aload_n F.1 F.2.1 dX11_isAhead_7 rfl (lv_at hl 1 rfl) ?_
  refine lv_iload_n F.1 F.2.1 dX11_isAhead_8 rfl (lv_at hl 3 rfl) ?_
  refine lv_iconst (v := 0) F.1 F.2.1 dX11_isAhead_9 (by decide) ?_
  obtain ⟨r_2, hc, h⟩ := op_b h
  refine k_callS (rv := (some (.int r_2))) (Wc := ([] : va_W)) (W2 := ([] : va_W)) (Wn := (gMR T aM aA z rw)) (As := [.int x3, .int 0]) (rest := [.ref aA, .int (rw r_1.toNatClampNeg)]) F G (mX11_at l D T x3 0 hc) (va_cwS 2 F.2.2.2.2 (kg_c kl786 (kg_c kl787 (kg_c kl788 (kg_c kl767 kg_a)))) rfl rfl rfl (by decide +kernel) ⟨Nat.le_of_ble_eq_true rfl, Nat.le_of_ble_eq_true rfl⟩) (kCut_0 G) rfl hl.1 rfl (Nat.le_of_ble_eq_true rfl) dX11_isAhead_10 ⟨Nat.le_of_ble_eq_true rfl, Nat.le_of_ble_eq_true rfl⟩ (cN := 0) (sN := 0) ⟨rfl, rfl⟩ (fun H locs G => ?_)
  obtain ⟨c, h⟩ := op_g h
  refine k_iald F G 5 rfl c dX11_isAhead_13 ?_
  refine lv_icmp_eq (tgt := 40) F.1 F.2.1 dX11_isAhead_14 (by decide) (fun c => ?_) (fun c => ?_)
  · have h := op_t h c
    refine lv_aload_n F.1 F.2.1 dX11_isAhead_40 rfl (lv_at hl 0 rfl) ?_
    refine lv_aload_n F.1 F.2.1 dX11_isAhead_41 rfl (lv_at hl 1 rfl) ?_
    refine lv_iload_n F.1 F.2.1 dX11_isAhead_42 rfl (lv_at hl 2 rfl) ?_
    obtain ⟨r_3, hc, h⟩ := op_b h
    refine k_callV (rv := (some (.int r_3))) (Wc := (gMR T aM (aA) z rw)) (W2 := (gMR T aM (aA) z rw)) (Wn := (gMR T aM aA z rw)) (As := [.ref aA, .int x2]) (rest := []) F G (mX11_placeOf l D T aM (aA) z rw x2 hc) (cwV 2 F.2.2.2.2 (kg_c kl944 (kg_c kl945 (kg_c kl946 (kg_c kl788 (kg_c kl942 kg_a))))) rfl rfl rfl (by decide +kernel) ⟨Nat.le_of_ble_eq_true rfl, Nat.le_of_ble_eq_true rfl⟩) 0 rfl (q := (RX11, TX11, 35)) rfl rfl (kCut_F G) rfl hl.1 rfl (Nat.le_of_ble_eq_true rfl) dX11_isAhead_43 ⟨Nat.le_of_ble_eq_true rfl, Nat.le_of_ble_eq_true rfl⟩ (cN := 0) (sN := 0) ⟨rfl, rfl⟩ (fun H locs G => ?_)
    refine lv_istore (lv' := [(4, .int r_3), (0, .ref (aM 0)), (1, .ref aA), (2, .int x2), (3, .int x3)]) F.1 F.2.1 dX11_isAhead_46 hl (by decide) rfl (fun ls hl => ?_)
    refine lv_aload_n F.1 F.2.1 dX11_isAhead_48 rfl (lv_at hl 1 rfl) ?_
    refine lv_aload_n F.1 F.2.1 dX11_isAhead_49 rfl (lv_at hl 2 rfl) ?_
    refine lv_iload_n F.1 F.2.1 dX11_isAhead_50 rfl (lv_at hl 4 rfl) ?_
    obtain ⟨r_4, hc, h⟩ := op_b h
    refine k_callV (rv := (some (.int r_4))) (Wc := (gMR T aM (aA) z rw)) (W2 := (gMR T aM (aA) z rw)) (Wn := (gMR T aM aA z rw)) (As := [.ref aA, .int x3]) (rest := []) F G (mX11_placeOf l D T aM (aA) z rw x3 hc) (cwV 2 F.2.2.2.2 (kg_c kl944 (kg_c kl945 (kg_c kl946 (kg_c kl788 (kg_c kl942 kg_a))))) rfl rfl rfl (by decide +kernel) ⟨Nat.le_of_ble_eq_true rfl, Nat.le_of_ble_eq_true rfl⟩) 0 rfl (q := (RX11, TX11, 35)) rfl rfl (kCut_F G) rfl hl.1 rfl (Nat.le_of_ble_eq_true rfl) dX11_isAhead_51 ⟨Nat.le_of_ble_eq_true rfl, Nat.le_of_ble_eq_true rfl⟩ (cN := 0) (sN := 0) ⟨rfl, rfl⟩ (fun H locs G => ?_)
    refine lv_istore (lv' := [(5, .int r_4), (4, .int r_3), (0, .ref (aM 0)), (1, .ref aA), (2, .int x2), (3, .int x3)]) F.1 F.2.1 dX11_isAhead_54 hl (by decide) rfl (fun ls hl => ?_)
    refine lv_iload F.1 F.2.1 dX11_isAhead_56 (lv_at hl 1 rfl) ?_
    refine lv_iload F.1 F.2.1 dX11_isAhead_58 (lv_at hl 0 rfl) ?_
    refine lv_icmp_eq (tgt := 88) F.1 F.2.1 dX11_isAhead_60 (by decide) (fun c => ?_) (fun c => ?_)
    · have h := op_t h c
      refine lv_iload_n F.1 F.2.1 dX11_isAhead_88 rfl (lv_at hl 4 rfl) ?_
      refine lv_iload_n F.1 F.2.1 dX11_isAhead_89 rfl (lv_at hl 5 rfl) ?_
      refine lv_icmp_ge (tgt := 97) F.1 F.2.1 dX11_isAhead_90 (by decide) (fun c => ?_) (fun c => ?_)
      · have h := op_t h c
        refine lv_iconst (v := 0) F.1 F.2.1 dX11_isAhead_97 (by decide) ?_
        obtain rfl := op_1 h
        exact k_zret F hr rfl hlk G dX11_isAhead_98
      · have h := op_f h c
        refine lv_iconst (v := 1) F.1 F.2.1 dX11_isAhead_93 (by decide) ?_
        refine lv_goto (tgt := 98) F.1 F.2.1 dX11_isAhead_94 (by decide) ?_
        obtain rfl := op_1 h
        exact k_zret F hr rfl hlk G dX11_isAhead_98
    · have h := op_f h c
      refine lv_iload F.1 F.2.1 dX11_isAhead_63 (lv_at hl 1 rfl) ?_
      refine lv_iconst (v := (-1)) F.1 F.2.1 dX11_isAhead_65 (by decide) ?_
      refine lv_icmp_eq (tgt := 86) F.1 F.2.1 dX11_isAhead_66 (by decide) (fun c => ?_) (fun c => ?_)
      · have h := op_t h c
        refine lv_iconst (v := 0) F.1 F.2.1 dX11_isAhead_86 (by decide) ?_
        obtain rfl := op_1 h
        exact k_zret F hr rfl hlk G dX11_isAhead_87
      · have h := op_f h c
        refine lv_iload F.1 F.2.1 dX11_isAhead_69 (lv_at hl 0 rfl) ?_
        refine lv_iconst (v := (-1)) F.1 F.2.1 dX11_isAhead_71 (by decide) ?_
        refine lv_icmp_eq (tgt := 82) F.1 F.2.1 dX11_isAhead_72 (by decide) (fun c => ?_) (fun c => ?_)
        · have h := op_t h c
          refine lv_iconst (v := 1) F.1 F.2.1 dX11_isAhead_82 (by decide) ?_
          refine lv_goto (tgt := 87) F.1 F.2.1 dX11_isAhead_83 (by decide) ?_
          obtain rfl := op_1 h
          exact k_zret F hr rfl hlk G dX11_isAhead_87
        · have h := op_f h c
          refine lv_iload F.1 F.2.1 dX11_isAhead_75 (lv_at hl 1 rfl) ?_
          refine lv_iload F.1 F.2.1 dX11_isAhead_77 (lv_at hl 0 rfl) ?_
          refine lv_icmp_ge (tgt := 86) F.1 F.2.1 dX11_isAhead_79 (by decide) (fun c => ?_) (fun c => ?_)
          · have h := op_t h c
            refine lv_iconst (v := 0) F.1 F.2.1 dX11_isAhead_86 (by decide) ?_
            obtain rfl := op_1 h
            exact k_zret F hr rfl hlk G dX11_isAhead_87
          · have h := op_f h c
            refine lv_iconst (v := 1) F.1 F.2.1 dX11_isAhead_82 (by decide) ?_
            refine lv_goto (tgt := 87) F.1 F.2.1 dX11_isAhead_83 (by decide) ?_
            obtain rfl := op_1 h
            exact k_zret F hr rfl hlk G dX11_isAhead_87
  · have h := op_f h c
    refine lv_aload_n F.1 F.2.1 dX11_isAhead_17 rfl (lv_at hl 1 rfl) ?_
    refine lv_iload_n F.1 F.2.1 dX11_isAhead_18 rfl (lv_at hl 2 rfl) ?_
    refine lv_iconst (v := 0) F.1 F.2.1 dX11_isAhead_19 (by decide) ?_
    obtain ⟨r_5, hc, h⟩ := op_b h
    refine k_callS (rv := (some (.int r_5))) (Wc := ([] : va_W)) (W2 := ([] : va_W)) (Wn := (gMR T aM aA z rw)) (As := [.int x2, .int 0]) (rest := [.ref aA]) F G (mX11_at l D T x2 0 hc) (va_cwS 2 F.2.2.2.2 (kg_c kl786 (kg_c kl787 (kg_c kl788 (kg_c kl767 kg_a)))) rfl rfl rfl (by decide +kernel) ⟨Nat.le_of_ble_eq_true rfl, Nat.le_of_ble_eq_true rfl⟩) (kCut_0 G) rfl hl.1 rfl (Nat.le_of_ble_eq_true rfl) dX11_isAhead_20 ⟨Nat.le_of_ble_eq_true rfl, Nat.le_of_ble_eq_true rfl⟩ (cN := 0) (sN := 0) ⟨rfl, rfl⟩ (fun H locs G => ?_)
    obtain ⟨c, h⟩ := op_g h
    refine k_iald F G 5 rfl c dX11_isAhead_23 ?_
    refine lv_aload_n F.1 F.2.1 dX11_isAhead_24 rfl (lv_at hl 1 rfl) ?_
    refine lv_iload_n F.1 F.2.1 dX11_isAhead_25 rfl (lv_at hl 3 rfl) ?_
    refine lv_iconst (v := 0) F.1 F.2.1 dX11_isAhead_26 (by decide) ?_
    obtain ⟨r_6, hc, h⟩ := op_b h
    refine k_callS (rv := (some (.int r_6))) (Wc := ([] : va_W)) (W2 := ([] : va_W)) (Wn := (gMR T aM aA z rw)) (As := [.int x3, .int 0]) (rest := [.ref aA, .int (rw r_5.toNatClampNeg)]) F G (mX11_at l D T x3 0 hc) (va_cwS 2 F.2.2.2.2 (kg_c kl786 (kg_c kl787 (kg_c kl788 (kg_c kl767 kg_a)))) rfl rfl rfl (by decide +kernel) ⟨Nat.le_of_ble_eq_true rfl, Nat.le_of_ble_eq_true rfl⟩) (kCut_0 G) rfl hl.1 rfl (Nat.le_of_ble_eq_true rfl) dX11_isAhead_27 ⟨Nat.le_of_ble_eq_true rfl, Nat.le_of_ble_eq_true rfl⟩ (cN := 0) (sN := 0) ⟨rfl, rfl⟩ (fun H locs G => ?_)
    obtain ⟨c, h⟩ := op_g h
    refine k_iald F G 5 rfl c dX11_isAhead_30 ?_
    refine lv_icmp_le (tgt := 38) F.1 F.2.1 dX11_isAhead_31 (by decide) (fun c => ?_) (fun c => ?_)
    · have h := op_t h c
      refine lv_iconst (v := 0) F.1 F.2.1 dX11_isAhead_38 (by decide) ?_
      obtain rfl := op_1 h
      exact k_zret F hr rfl hlk G dX11_isAhead_39
    · have h := op_f h c
      refine lv_iconst (v := 1) F.1 F.2.1 dX11_isAhead_34 (by decide) ?_
      refine lv_goto (tgt := 39) F.1 F.2.1 dX11_isAhead_35 (by decide) ?_
      obtain rfl := op_1 h
      exact k_zret F hr rfl hlk G dX11_isAhead_39
abbrev rmX11_lacks : Room := ({ frames := 2, cells := 0, slots := 0, locals := 46 } : Room)
noncomputable def qX11_lacks (z : Nat → Nat → Int32) (rw : Nat → Int32) (x2 : Int32) : Option (Int32) :=
  gd (vp_in x2 12) (bd (qX11_withState z rw 9 3) fun r_1 => if (((z 6) x2.toNatClampNeg) &&& (r_1 ^^^ (-1))) = 0 then some 0 else some 1)

set_option maxHeartbeats 4000000 in
set_option maxRecDepth 100000 in
theorem mX11_lacks (l : Launch) (D : va_G) (T : Nat → ClassId) (aM : Nat → Nat) (aA : Nat) (z : Nat → Nat → Int32) (rw : Nat → Int32) (x2 : Int32) {rR : Int32} (hres : qX11_lacks z rw x2 = some (rR)) : Ct l yX11_lacks (Cond.code yX11_lacks cX11_lacks 3 (some .boolean) :: kAll) rmX11_lacks D T [.ref (aM 0), .ref aA, .int x2] (gMR T aM aA z rw) (some (.int rR)) (gMR T aM aA z rw) := by
  refine Ct.of (cc := cX11_lacks) (maxL := 3) (ret := (some .boolean)) (by decide +kernel) rfl (Nat.le_of_ble_eq_true rfl) ?_
  intro pr en st mi ag bl me co A ls F hr hlk hnm G hl
  have hl : lv_has ls 3 [(0, .ref (aM 0)), (1, .ref aA), (2, .int x2)] := hl
  have h := hres
  unfold qX11_lacks at h
  refine lv_aload_n F.1 F.2.1 dX11_lacks_0 rfl (lv_at hl 0 rfl) ?_
  refine k_get F G 0 rfl (N := 35) (Tt := TX11) rfl kf11 6 (by decide) kl775 (v := .ref (aM 2)) rfl dX11_lacks_1 ?_
  refine lv_iload_n F.1 F.2.1 dX11_lacks_4 rfl (lv_at hl 2 rfl) ?_
  obtain ⟨c, h⟩ := op_g h
  refine k_iald F G 2 rfl c dX11_lacks_5 ?_
  refine lv_aload_n F.1 F.2.1 dX11_lacks_6 rfl (lv_at hl 0 rfl) ?_
  refine lv_aload_n F.1 F.2.1 dX11_lacks_7 rfl (lv_at hl 1 rfl) ?_
  refine lv_bipush (v := 9) F.1 F.2.1 dX11_lacks_8 (by decide) ?_
  refine lv_iconst (v := 3) F.1 F.2.1 dX11_lacks_10 (by decide) ?_
  obtain ⟨r_1, hc, h⟩ := op_b h
  refine k_callV (rv := (some (.int r_1))) (Wc := (gMR T aM (aA) z rw)) (W2 := (gMR T aM (aA) z rw)) (Wn := (gMR T aM aA z rw)) (As := [.ref aA, .int 9, .int 3]) (rest := [.int ((z 6) x2.toNatClampNeg)]) F G (mX11_withState l D T aM (aA) z rw 9 3 hc) (cwV 3 F.2.2.2.2 (kg_c kl935 (kg_c kl936 (kg_c kl937 (kg_c kl788 (kg_c kl922 kg_a))))) rfl rfl rfl (by decide +kernel) ⟨Nat.le_of_ble_eq_true rfl, Nat.le_of_ble_eq_true rfl⟩) 0 rfl (q := (RX11, TX11, 35)) rfl rfl (kCut_F G) rfl hl.1 rfl (Nat.le_of_ble_eq_true rfl) dX11_lacks_11 ⟨Nat.le_of_ble_eq_true rfl, Nat.le_of_ble_eq_true rfl⟩ (cN := 0) (sN := 0) ⟨rfl, rfl⟩ (fun H locs G => ?_)
  refine lv_iconst (v := (-1)) F.1 F.2.1 dX11_lacks_14 (by decide) ?_
  refine lv_ixor F.1 F.2.1 dX11_lacks_15 ?_
  refine lv_iand F.1 F.2.1 dX11_lacks_16 ?_
  refine lv_if_eq (tgt := 24) F.1 F.2.1 dX11_lacks_17 (by decide) (fun c => ?_) (fun c => ?_)
  · have h := op_t h c
    refine lv_iconst (v := 0) F.1 F.2.1 dX11_lacks_24 (by decide) ?_
    obtain rfl := op_1 h
    exact k_zret F hr rfl hlk G dX11_lacks_25
  · have h := op_f h c
    refine lv_iconst (v := 1) F.1 F.2.1 dX11_lacks_20 (by decide) ?_
    refine lv_goto (tgt := 25) F.1 F.2.1 dX11_lacks_21 (by decide) ?_
    obtain rfl := op_1 h
    exact k_zret F hr rfl hlk G dX11_lacks_25
abbrev rmX11_grantsOf : Room := ({ frames := 4, cells := 0, slots := 0, locals := 89 } : Room)
noncomputable def qX11_grantsOf_L35 (z : Nat → Nat → Int32) (rw_16 : Nat → Int32) (x2_10 : Int32) (x3_11 : Int32) (x4_12 : Int32) (x5_13 : Int32) (K : Int32 → Option (Int32 × (Nat → Int32))) : Nat → Int32 → Int32 → Option (Int32 × (Nat → Int32))
  | 0, _, _ => none
  | n + 1, x6_14, x7_15 =>
    if (z 1 0) ≤ x7_15 then (K x6_14) else (jn (fun (x6_18 : Int32) => (qX11_grantsOf_L35 z rw_16 x2_10 x3_11 x4_12 x5_13 K n x6_18 (x7_15 + 1))) fun j77 => if ((x4_12 >>> (x7_15 &&& 31)) &&& 1) = 1 then (jn (fun (_ : Unit) => (j77 x7_15)) fun j73 => if x6_14 = (-1) then (j73 ()) else bd (qX11_isAhead z rw_16 x7_15 x6_14) fun r_19 => if r_19 = 0 then (j77 x6_14) else (j73 ())) else (j77 x6_14))

noncomputable def qX11_grantsOf_L24 (z : Nat → Nat → Int32) (x2_3 : Int32) (K : Int32 → (Nat → Int32) → Option (Int32 × (Nat → Int32))) : Nat → Int32 → Int32 → Int32 → (Nat → Int32) → Option (Int32 × (Nat → Int32))
  | 0, _, _, _, _ => none
  | n + 1, x3_4, x4_5, x5_6, rw_7 =>
    if x4_5 = 0 then (K x3_4 rw_7) else (qX11_grantsOf_L35 z rw_7 x2_3 x3_4 x4_5 x5_6 (fun (x6_17 : Int32) => bd (qX11_lacks z rw_7 x6_17) fun r_20 => if r_20 = 0 then bd (qX11_expected z rw_7 x6_17) fun r_21 => if r_21 ≤ x5_6 then bd (qX11_expected z rw_7 x6_17) fun r_22 => if x2_3 = 0 then (qX11_grantsOf_L24 z x2_3 K n (x3_4 ||| (1 <<< (x6_17 &&& 31))) (x4_5 &&& ((1 <<< (x6_17 &&& 31)) ^^^ (-1))) (x5_6 - r_22) rw_7) else bd (qX11_sends z rw_7 4 x6_17 (-1)) fun rw_23 => bd (qX11_marks z rw_23 x6_17 2) fun rw_24 => (qX11_grantsOf_L24 z x2_3 K n (x3_4 ||| (1 <<< (x6_17 &&& 31))) (x4_5 &&& ((1 <<< (x6_17 &&& 31)) ^^^ (-1))) (x5_6 - r_22) rw_24) else if (rw_7 9) = 1 then some (x3_4, rw_7) else (qX11_grantsOf_L24 z x2_3 K n x3_4 (x4_5 &&& ((1 <<< (x6_17 &&& 31)) ^^^ (-1))) x5_6 rw_7) else (qX11_grantsOf_L24 z x2_3 K n x3_4 (x4_5 &&& ((1 <<< (x6_17 &&& 31)) ^^^ (-1))) x5_6 rw_7)) fu (-1) 0 )

noncomputable def qX11_grantsOf (z : Nat → Nat → Int32) (rw : Nat → Int32) (x2 : Int32) : Option (Int32 × (Nat → Int32)) :=
  bd (qX11_withState z rw 9 1) fun r_1 => bd (qX11_reservedAll z rw) fun r_2 => (qX11_grantsOf_L24 z x2 (fun (x3_8 : Int32) (rw_9 : Nat → Int32) => some (x3_8, rw_9)) fu 0 r_1 ((rw 6) - r_2) rw)

set_option maxHeartbeats 4000000 in
set_option maxRecDepth 100000 in
theorem mX11_grantsOf (l : Launch) (D : va_G) (T : Nat → ClassId) (aM : Nat → Nat) (aA : Nat) (z : Nat → Nat → Int32) (rw : Nat → Int32) (x2 : Int32) {rR : Int32} {rwR : Nat → Int32} (hres : qX11_grantsOf z rw x2 = some (rR, rwR)) : Ct l yX11_grantsOf (Cond.code yX11_grantsOf cX11_grantsOf 8 (some .int) :: kAll) rmX11_grantsOf D T [.ref (aM 0), .ref aA, .int x2] (gMR T aM aA z rw) (some (.int rR)) (gMR T aM aA z rwR) := by
  refine Ct.of (cc := cX11_grantsOf) (maxL := 8) (ret := (some .int)) (by decide +kernel) rfl (Nat.le_of_ble_eq_true rfl) ?_
  intro pr en st mi ag bl me co A ls F hr hlk hnm G hl
  have hl : lv_has ls 8 [(0, .ref (aM 0)), (1, .ref aA), (2, .int x2)] := hl
  have h := hres
  unfold qX11_grantsOf at h
  refine lv_iconst (v := 0) F.1 F.2.1 dX11_grantsOf_0 (by decide) ?_
  refine lv_istore_n (lv' := [(3, .int 0), (0, .ref (aM 0)), (1, .ref aA), (2, .int x2)]) F.1 F.2.1 dX11_grantsOf_1 rfl hl (by decide) rfl (fun ls hl => ?_)
  refine lv_aload_n F.1 F.2.1 dX11_grantsOf_2 rfl (lv_at hl 1 rfl) ?_
  refine lv_aload_n F.1 F.2.1 dX11_grantsOf_3 rfl (lv_at hl 2 rfl) ?_
  refine lv_bipush (v := 9) F.1 F.2.1 dX11_grantsOf_4 (by decide) ?_
  refine lv_iconst (v := 1) F.1 F.2.1 dX11_grantsOf_6 (by decide) ?_
  obtain ⟨r_1, hc, h⟩ := op_b h
  refine k_callV (rv := (some (.int r_1))) (Wc := (gMR T aM (aA) z rw)) (W2 := (gMR T aM (aA) z rw)) (Wn := (gMR T aM aA z rw)) (As := [.ref aA, .int 9, .int 1]) (rest := []) F G (mX11_withState l D T aM (aA) z rw 9 1 hc) (cwV 3 F.2.2.2.2 (kg_c kl935 (kg_c kl936 (kg_c kl937 (kg_c kl788 (kg_c kl922 kg_a))))) rfl rfl rfl (by decide +kernel) ⟨Nat.le_of_ble_eq_true rfl, Nat.le_of_ble_eq_true rfl⟩) 0 rfl (q := (RX11, TX11, 35)) rfl rfl (kCut_F G) rfl hl.1 rfl (Nat.le_of_ble_eq_true rfl) dX11_grantsOf_7 ⟨Nat.le_of_ble_eq_true rfl, Nat.le_of_ble_eq_true rfl⟩ (cN := 0) (sN := 0) ⟨rfl, rfl⟩ (fun H locs G => ?_)
  refine lv_istore (lv' := [(4, .int r_1), (3, .int 0), (0, .ref (aM 0)), (1, .ref aA), (2, .int x2)]) F.1 F.2.1 dX11_grantsOf_10 hl (by decide) rfl (fun ls hl => ?_)
  refine lv_aload_n F.1 F.2.1 dX11_grantsOf_12 rfl (lv_at hl 3 rfl) ?_
  refine lv_bipush (v := 6) F.1 F.2.1 dX11_grantsOf_13 (by decide) ?_
  refine k_ialdN F G 5 rfl (kin (by decide +kernel)) 6 (by decide +kernel) dX11_grantsOf_15 ?_
  refine lv_aload_n F.1 F.2.1 dX11_grantsOf_16 rfl (lv_at hl 2 rfl) ?_
  refine lv_aload_n F.1 F.2.1 dX11_grantsOf_17 rfl (lv_at hl 3 rfl) ?_
  obtain ⟨r_2, hc, h⟩ := op_b h
  refine k_callV (rv := (some (.int r_2))) (Wc := (gMR T aM (aA) z rw)) (W2 := (gMR T aM (aA) z rw)) (Wn := (gMR T aM aA z rw)) (As := [.ref aA]) (rest := [.int (rw 6)]) F G (mX11_reservedAll l D T aM (aA) z rw hc) (cwV 1 F.2.2.2.2 (kg_c kl949 (kg_c kl950 (kg_c kl951 (kg_c kl788 (kg_c kl917 kg_a))))) rfl rfl rfl (by decide +kernel) ⟨Nat.le_of_ble_eq_true rfl, Nat.le_of_ble_eq_true rfl⟩) 0 rfl (q := (RX11, TX11, 35)) rfl rfl (kCut_F G) rfl hl.1 rfl (Nat.le_of_ble_eq_true rfl) dX11_grantsOf_18 ⟨Nat.le_of_ble_eq_true rfl, Nat.le_of_ble_eq_true rfl⟩ (cN := 0) (sN := 0) ⟨rfl, rfl⟩ (fun H locs G => ?_)
  refine lv_isub F.1 F.2.1 dX11_grantsOf_21 ?_
  refine lv_istore (lv' := [(5, .int ((rw 6) - r_2)), (4, .int r_1), (3, .int 0), (0, .ref (aM 0)), (1, .ref aA), (2, .int x2)]) F.1 F.2.1 dX11_grantsOf_22 hl (by decide) rfl (fun ls hl => ?_)
  have L24 : ∀ (z : Nat → Nat → Int32) (x2_3 : Int32) (K : Int32 → (Nat → Int32) → Option (Int32 × (Nat → Int32))) (hK : ∀ (x3_8 : Int32) (rw_9 : Nat → Int32) (H : Heap) (locs : List Loc) (ls : Array Slot), K x3_8 rw_9 = some (rR, rwR) → Rg D T A st (gMR T aM aA z rw_9) H locs → lv_has ls 8 [(3, .int x3_8)] → W pr l en rmX11_grantsOf st mi ag bl me co H locs 0 0 (MQ bl (kQ (some (.int rR)) D (gMR T aM aA z rwR) A) ag st rmX11_grantsOf.cells rmX11_grantsOf.slots A) (F0 mi 175 ls [])) (n : Nat) (x3_4 : Int32) (x4_5 : Int32) (x5_6 : Int32) (rw_7 : Nat → Int32) (H : Heap) (locs : List Loc) (ls : Array Slot), qX11_grantsOf_L24 z x2_3 K n x3_4 x4_5 x5_6 rw_7 = some (rR, rwR) → Rg D T A st (gMR T aM aA z rw_7) H locs → lv_has ls 8 [(0, .ref (aM 0)), (1, .ref aA), (2, .int x2_3), (3, .int x3_4), (4, .int x4_5), (5, .int x5_6)] → W pr l en rmX11_grantsOf st mi ag bl me co H locs 0 0 (MQ bl (kQ (some (.int rR)) D (gMR T aM aA z rwR) A) ag st rmX11_grantsOf.cells rmX11_grantsOf.slots A) (F0 mi 24 ls []) := by
    intro z x2_3 K hK n
    induction n with
    | zero => intro x3_4 x4_5 x5_6 rw_7 H locs ls h; exact op_n h
    | succ n ih =>
      intro x3_4 x4_5 x5_6 rw_7 H locs ls h G hl
      rw [qX11_grantsOf_L24] at h
      refine lv_iload F.1 F.2.1 dX11_grantsOf_24 (lv_at hl 4 rfl) ?_
      refine lv_if_eq (tgt := 175) F.1 F.2.1 dX11_grantsOf_26 (by decide) (fun c => ?_) (fun c => ?_)
      · have h := op_t h c
        exact hK x3_4 rw_7 _ _ _ h G (lv_sub hl [3] rfl)
      · have h := op_f h c
        refine lv_iconst (v := (-1)) F.1 F.2.1 dX11_grantsOf_29 (by decide) ?_
        refine lv_istore (lv' := [(6, .int (-1)), (0, .ref (aM 0)), (1, .ref aA), (2, .int x2_3), (3, .int x3_4), (4, .int x4_5), (5, .int x5_6)]) F.1 F.2.1 dX11_grantsOf_30 hl (by decide) rfl (fun ls hl => ?_)
        refine lv_iconst (v := 0) F.1 F.2.1 dX11_grantsOf_32 (by decide) ?_
        refine lv_istore (lv' := [(7, .int 0), (6, .int (-1)), (0, .ref (aM 0)), (1, .ref aA), (2, .int x2_3), (3, .int x3_4), (4, .int x4_5), (5, .int x5_6)]) F.1 F.2.1 dX11_grantsOf_33 hl (by decide) rfl (fun ls hl => ?_)
        have L35 : ∀ (z : Nat → Nat → Int32) (rw_16 : Nat → Int32) (x2_10 : Int32) (x3_11 : Int32) (x4_12 : Int32) (x5_13 : Int32) (K : Int32 → Option (Int32 × (Nat → Int32))) (hK : ∀ (x6_17 : Int32) (H : Heap) (locs : List Loc) (ls : Array Slot), K x6_17 = some (rR, rwR) → Rg D T A st (gMR T aM aA z rw_16) H locs → lv_has ls 8 [(0, .ref (aM 0)), (1, .ref aA), (2, .int x2_10), (3, .int x3_11), (4, .int x4_12), (5, .int x5_13), (6, .int x6_17)] → W pr l en rmX11_grantsOf st mi ag bl me co H locs 0 0 (MQ bl (kQ (some (.int rR)) D (gMR T aM aA z rwR) A) ag st rmX11_grantsOf.cells rmX11_grantsOf.slots A) (F0 mi 83 ls [])) (n : Nat) (x6_14 : Int32) (x7_15 : Int32) (H : Heap) (locs : List Loc) (ls : Array Slot), qX11_grantsOf_L35 z rw_16 x2_10 x3_11 x4_12 x5_13 K n x6_14 x7_15 = some (rR, rwR) → Rg D T A st (gMR T aM aA z rw_16) H locs → lv_has ls 8 [(0, .ref (aM 0)), (1, .ref aA), (2, .int x2_10), (3, .int x3_11), (4, .int x4_12), (5, .int x5_13), (6, .int x6_14), (7, .int x7_15)] → W pr l en rmX11_grantsOf st mi ag bl me co H locs 0 0 (MQ bl (kQ (some (.int rR)) D (gMR T aM aA z rwR) A) ag st rmX11_grantsOf.cells rmX11_grantsOf.slots A) (F0 mi 35 ls []) := by
          intro z rw_16 x2_10 x3_11 x4_12 x5_13 K hK n
          induction n with
          | zero => intro x6_14 x7_15 H locs ls h; exact op_n h
          | succ n ih =>
            intro x6_14 x7_15 H locs ls h G hl
            rw [qX11_grantsOf_L35] at h
            refine lv_iload F.1 F.2.1 dX11_grantsOf_35 (lv_at hl 7 rfl) ?_
            refine lv_aload_n F.1 F.2.1 dX11_grantsOf_37 rfl (lv_at hl 0 rfl) ?_
            refine k_get F G 0 rfl (N := 35) (Tt := TX11) rfl kf11 1 (by decide) kl769 (v := .int (z 1 0)) rfl dX11_grantsOf_38 ?_
            refine lv_icmp_ge (tgt := 83) F.1 F.2.1 dX11_grantsOf_41 (by decide) (fun c => ?_) (fun c => ?_)
            · have h := op_t h c
              exact hK x6_14 _ _ _ h G (lv_sub hl [0, 1, 2, 3, 4, 5, 6] rfl)
            · have h := op_f h c
              refine lv_iload F.1 F.2.1 dX11_grantsOf_44 (lv_at hl 4 rfl) ?_
              refine lv_iload F.1 F.2.1 dX11_grantsOf_46 (lv_at hl 7 rfl) ?_
              refine lv_ishr F.1 F.2.1 dX11_grantsOf_48 ?_
              refine lv_iconst (v := 1) F.1 F.2.1 dX11_grantsOf_49 (by decide) ?_
              refine lv_iand F.1 F.2.1 dX11_grantsOf_50 ?_
              refine lv_iconst (v := 1) F.1 F.2.1 dX11_grantsOf_51 (by decide) ?_
              obtain ⟨j77, hj77, h⟩ := op_j h
              have J77 : ∀ (x6_18 : Int32) (H : Heap) (locs : List Loc) (ls : Array Slot), j77 x6_18 = some (rR, rwR) → Rg D T A st (gMR T aM aA z rw_16) H locs → lv_has ls 8 [(0, .ref (aM 0)), (1, .ref aA), (2, .int x2_10), (3, .int x3_11), (4, .int x4_12), (5, .int x5_13), (6, .int x6_18), (7, .int x7_15)] → W pr l en rmX11_grantsOf st mi ag bl me co H locs 0 0 (MQ bl (kQ (some (.int rR)) D (gMR T aM aA z rwR) A) ag st rmX11_grantsOf.cells rmX11_grantsOf.slots A) (F0 mi 77 ls []) := by
                intro x6_18 H locs ls h G hl
                rw [hj77] at h
                refine lv_iinc (v := (x7_15 + 1)) (lv' := [(7, .int (x7_15 + 1)), (0, .ref (aM 0)), (1, .ref aA), (2, .int x2_10), (3, .int x3_11), (4, .int x4_12), (5, .int x5_13), (6, .int x6_18)]) F.1 F.2.1 dX11_grantsOf_77 hl (k := 7) rfl rfl (by decide) rfl (fun ls hl => ?_)
                refine lv_goto (tgt := 35) F.1 F.2.1 dX11_grantsOf_80 (by decide) ?_
                exact ih x6_18 (x7_15 + 1) _ _ _ h G (lv_sub hl [1, 2, 3, 4, 5, 6, 7, 0] rfl)
              clear hj77
              refine lv_icmp_ne (tgt := 77) F.1 F.2.1 dX11_grantsOf_52 (by decide) (fun c => ?_) (fun c => ?_)
              · have h := op_f h c
                exact J77 x6_14 _ _ _ h G hl
              · have h := op_t h c
                refine lv_iload F.1 F.2.1 dX11_grantsOf_55 (lv_at hl 6 rfl) ?_
                refine lv_iconst (v := (-1)) F.1 F.2.1 dX11_grantsOf_57 (by decide) ?_
                obtain ⟨j73, hj73, h⟩ := op_j h
                have J73 : ∀ (H : Heap) (locs : List Loc) (ls : Array Slot), j73 () = some (rR, rwR) → Rg D T A st (gMR T aM aA z rw_16) H locs → lv_has ls 8 [(0, .ref (aM 0)), (1, .ref aA), (2, .int x2_10), (3, .int x3_11), (4, .int x4_12), (5, .int x5_13), (7, .int x7_15)] → W pr l en rmX11_grantsOf st mi ag bl me co H locs 0 0 (MQ bl (kQ (some (.int rR)) D (gMR T aM aA z rwR) A) ag st rmX11_grantsOf.cells rmX11_grantsOf.slots A) (F0 mi 73 ls []) := by
                  intro H locs ls h G hl
                  rw [hj73] at h
                  refine lv_iload F.1 F.2.1 dX11_grantsOf_73 (lv_at hl 6 rfl) ?_
                  refine lv_istore (lv' := [(6, .int x7_15), (0, .ref (aM 0)), (1, .ref aA), (2, .int x2_10), (3, .int x3_11), (4, .int x4_12), (5, .int x5_13), (7, .int x7_15)]) F.1 F.2.1 dX11_grantsOf_75 hl (by decide) rfl (fun ls hl => ?_)
                  exact J77 x7_15 _ _ _ h G (lv_sub hl [1, 2, 3, 4, 5, 6, 0, 7] rfl)
                clear hj73
                refine lv_icmp_eq (tgt := 73) F.1 F.2.1 dX11_grantsOf_58 (by decide) (fun c => ?_) (fun c => ?_)
                · have h := op_t h c
                  exact J73 _ _ _ h G (lv_sub hl [0, 1, 2, 3, 4, 5, 7] rfl)
                · have h := op_f h c
                  refine lv_aload_n F.1 F.2.1 dX11_grantsOf_61 rfl (lv_at hl 0 rfl) ?_
                  refine lv_aload_n F.1 F.2.1 dX11_grantsOf_62 rfl (lv_at hl 1 rfl) ?_
                  refine lv_iload F.1 F.2.1 dX11_grantsOf_63 (lv_at hl 7 rfl) ?_
                  refine lv_iload F.1 F.2.1 dX11_grantsOf_65 (lv_at hl 6 rfl) ?_
                  obtain ⟨r_19, hc, h⟩ := op_b h
                  refine k_callV (rv := (some (.int r_19))) (Wc := (gMR T aM (aA) z rw_16)) (W2 := (gMR T aM (aA) z rw_16)) (Wn := (gMR T aM aA z rw_16)) (As := [.ref aA, .int x7_15, .int x6_14]) (rest := []) F G (mX11_isAhead l D T aM (aA) z rw_16 x7_15 x6_14 hc) (cwV 3 F.2.2.2.2 (kg_c kl952 (kg_c kl953 (kg_c kl954 (kg_c kl788 (kg_c kl943 kg_a))))) rfl rfl rfl (by decide +kernel) ⟨Nat.le_of_ble_eq_true rfl, Nat.le_of_ble_eq_true rfl⟩) 0 rfl (q := (RX11, TX11, 35)) rfl rfl (kCut_F G) rfl hl.1 rfl (Nat.le_of_ble_eq_true rfl) dX11_grantsOf_67 ⟨Nat.le_of_ble_eq_true rfl, Nat.le_of_ble_eq_true rfl⟩ (cN := 0) (sN := 0) ⟨rfl, rfl⟩ (fun H locs G => ?_)
                  refine lv_if_eq (tgt := 77) F.1 F.2.1 dX11_grantsOf_70 (by decide) (fun c => ?_) (fun c => ?_)
                  · have h := op_t h c
                    exact J77 x6_14 _ _ _ h G hl
                  · have h := op_f h c
                    exact J73 _ _ _ h G (lv_sub hl [0, 1, 2, 3, 4, 5, 7] rfl)
        refine L35 z rw_7 x2_3 x3_4 x4_5 x5_6 _ (fun x6_17 H locs ls h G hl => ?_) fu (-1) 0  _ _ _ h G (lv_sub hl [2, 3, 4, 5, 6, 7, 1, 0] rfl)
        clear L35
        refine lv_iload F.1 F.2.1 dX11_grantsOf_83 (lv_at hl 4 rfl) ?_
        refine lv_iconst (v := 1) F.1 F.2.1 dX11_grantsOf_85 (by decide) ?_
        refine lv_iload F.1 F.2.1 dX11_grantsOf_86 (lv_at hl 6 rfl) ?_
        refine lv_ishl F.1 F.2.1 dX11_grantsOf_88 ?_
        refine lv_iconst (v := (-1)) F.1 F.2.1 dX11_grantsOf_89 (by decide) ?_
        refine lv_ixor F.1 F.2.1 dX11_grantsOf_90 ?_
        refine lv_iand F.1 F.2.1 dX11_grantsOf_91 ?_
        refine lv_istore (lv' := [(4, .int (x4_5 &&& ((1 <<< (x6_17 &&& 31)) ^^^ (-1)))), (0, .ref (aM 0)), (1, .ref aA), (2, .int x2_3), (3, .int x3_4), (5, .int x5_6), (6, .int x6_17)]) F.1 F.2.1 dX11_grantsOf_92 hl (by decide) rfl (fun ls hl => ?_)
        refine lv_aload_n F.1 F.2.1 dX11_grantsOf_94 rfl (lv_at hl 1 rfl) ?_
        refine lv_aload_n F.1 F.2.1 dX11_grantsOf_95 rfl (lv_at hl 2 rfl) ?_
        refine lv_iload F.1 F.2.1 dX11_grantsOf_96 (lv_at hl 6 rfl) ?_
        obtain ⟨r_20, hc, h⟩ := op_b h
        refine k_callV (rv := (some (.int r_20))) (Wc := (gMR T aM (aA) z rw_7)) (W2 := (gMR T aM (aA) z rw_7)) (Wn := (gMR T aM aA z rw_7)) (As := [.ref aA, .int x6_17]) (rest := []) F G (mX11_lacks l D T aM (aA) z rw_7 x6_17 hc) (cwV 2 F.2.2.2.2 (kg_c kl955 (kg_c kl956 (kg_c kl957 (kg_c kl788 (kg_c kl947 kg_a))))) rfl rfl rfl (by decide +kernel) ⟨Nat.le_of_ble_eq_true rfl, Nat.le_of_ble_eq_true rfl⟩) 0 rfl (q := (RX11, TX11, 35)) rfl rfl (kCut_F G) rfl hl.1 rfl (Nat.le_of_ble_eq_true rfl) dX11_grantsOf_98 ⟨Nat.le_of_ble_eq_true rfl, Nat.le_of_ble_eq_true rfl⟩ (cN := 0) (sN := 0) ⟨rfl, rfl⟩ (fun H locs G => ?_)
        refine lv_if_eq (tgt := 107) F.1 F.2.1 dX11_grantsOf_101 (by decide) (fun c => ?_) (fun c => ?_)
        · have h := op_t h c
          refine lv_aload_n F.1 F.2.1 dX11_grantsOf_107 rfl (lv_at hl 1 rfl) ?_
          refine lv_aload_n F.1 F.2.1 dX11_grantsOf_108 rfl (lv_at hl 2 rfl) ?_
          refine lv_iload F.1 F.2.1 dX11_grantsOf_109 (lv_at hl 6 rfl) ?_
          obtain ⟨r_21, hc, h⟩ := op_b h
          refine k_callV (rv := (some (.int r_21))) (Wc := (gMR T aM (aA) z rw_7)) (W2 := (gMR T aM (aA) z rw_7)) (Wn := (gMR T aM aA z rw_7)) (As := [.ref aA, .int x6_17]) (rest := []) F G (mX11_expected l D T aM (aA) z rw_7 x6_17 hc) (cwV 2 F.2.2.2.2 (kg_c kl914 (kg_c kl915 (kg_c kl916 (kg_c kl788 (kg_c kl909 kg_a))))) rfl rfl rfl (by decide +kernel) ⟨Nat.le_of_ble_eq_true rfl, Nat.le_of_ble_eq_true rfl⟩) 0 rfl (q := (RX11, TX11, 35)) rfl rfl (kCut_F G) rfl hl.1 rfl (Nat.le_of_ble_eq_true rfl) dX11_grantsOf_111 ⟨Nat.le_of_ble_eq_true rfl, Nat.le_of_ble_eq_true rfl⟩ (cN := 0) (sN := 0) ⟨rfl, rfl⟩ (fun H locs G => ?_)
          refine lv_iload F.1 F.2.1 dX11_grantsOf_114 (lv_at hl 5 rfl) ?_
          refine lv_icmp_le (tgt := 129) F.1 F.2.1 dX11_grantsOf_116 (by decide) (fun c => ?_) (fun c => ?_)
          · have h := op_t h c
            refine lv_iload F.1 F.2.1 dX11_grantsOf_129 (lv_at hl 5 rfl) ?_
            refine lv_aload_n F.1 F.2.1 dX11_grantsOf_131 rfl (lv_at hl 1 rfl) ?_
            refine lv_aload_n F.1 F.2.1 dX11_grantsOf_132 rfl (lv_at hl 2 rfl) ?_
            refine lv_iload F.1 F.2.1 dX11_grantsOf_133 (lv_at hl 6 rfl) ?_
            obtain ⟨r_22, hc, h⟩ := op_b h
            refine k_callV (rv := (some (.int r_22))) (Wc := (gMR T aM (aA) z rw_7)) (W2 := (gMR T aM (aA) z rw_7)) (Wn := (gMR T aM aA z rw_7)) (As := [.ref aA, .int x6_17]) (rest := [.int x5_6]) F G (mX11_expected l D T aM (aA) z rw_7 x6_17 hc) (cwV 2 F.2.2.2.2 (kg_c kl914 (kg_c kl915 (kg_c kl916 (kg_c kl788 (kg_c kl909 kg_a))))) rfl rfl rfl (by decide +kernel) ⟨Nat.le_of_ble_eq_true rfl, Nat.le_of_ble_eq_true rfl⟩) 0 rfl (q := (RX11, TX11, 35)) rfl rfl (kCut_F G) rfl hl.1 rfl (Nat.le_of_ble_eq_true rfl) dX11_grantsOf_135 ⟨Nat.le_of_ble_eq_true rfl, Nat.le_of_ble_eq_true rfl⟩ (cN := 0) (sN := 0) ⟨rfl, rfl⟩ (fun H locs G => ?_)
            refine lv_isub F.1 F.2.1 dX11_grantsOf_138 ?_
            refine lv_istore (lv' := [(5, .int (x5_6 - r_22)), (4, .int (x4_5 &&& ((1 <<< (x6_17 &&& 31)) ^^^ (-1)))), (0, .ref (aM 0)), (1, .ref aA), (2, .int x2_3), (3, .int x3_4), (6, .int x6_17)]) F.1 F.2.1 dX11_grantsOf_139 hl (by decide) rfl (fun ls hl => ?_)
            refine lv_iload_n F.1 F.2.1 dX11_grantsOf_141 rfl (lv_at hl 5 rfl) ?_
            refine lv_iconst (v := 1) F.1 F.2.1 dX11_grantsOf_142 (by decide) ?_
            refine lv_iload F.1 F.2.1 dX11_grantsOf_143 (lv_at hl 6 rfl) ?_
            refine lv_ishl F.1 F.2.1 dX11_grantsOf_145 ?_
            refine lv_ior F.1 F.2.1 dX11_grantsOf_146 ?_
            refine lv_istore_n (lv' := [(3, .int (x3_4 ||| (1 <<< (x6_17 &&& 31)))), (5, .int (x5_6 - r_22)), (4, .int (x4_5 &&& ((1 <<< (x6_17 &&& 31)) ^^^ (-1)))), (0, .ref (aM 0)), (1, .ref aA), (2, .int x2_3), (6, .int x6_17)]) F.1 F.2.1 dX11_grantsOf_147 rfl hl (by decide) rfl (fun ls hl => ?_)
            refine lv_iload_n F.1 F.2.1 dX11_grantsOf_148 rfl (lv_at hl 5 rfl) ?_
            refine lv_if_ne (tgt := 155) F.1 F.2.1 dX11_grantsOf_149 (by decide) (fun c => ?_) (fun c => ?_)
            · have h := op_f h c
              refine lv_aload_n F.1 F.2.1 dX11_grantsOf_155 rfl (lv_at hl 3 rfl) ?_
              refine lv_aload_n F.1 F.2.1 dX11_grantsOf_156 rfl (lv_at hl 4 rfl) ?_
              refine lv_iconst (v := 4) F.1 F.2.1 dX11_grantsOf_157 (by decide) ?_
              refine lv_iload F.1 F.2.1 dX11_grantsOf_158 (lv_at hl 6 rfl) ?_
              refine lv_iconst (v := (-1)) F.1 F.2.1 dX11_grantsOf_160 (by decide) ?_
              obtain ⟨rw_23, hc, h⟩ := op_b h
              refine k_callV (rv := none) (Wc := (gMR T aM (aA) z rw_7)) (W2 := (gMR T aM (aA) z rw_23)) (Wn := (gMR T aM aA z rw_23)) (As := [.ref aA, .int 4, .int x6_17, .int (-1)]) (rest := []) F G (mX11_sends l D T aM (aA) z rw_7 4 x6_17 (-1) hc) (cwV 4 F.2.2.2.2 (kg_c kl939 (kg_c kl940 (kg_c kl941 (kg_c kl788 (kg_c kl924 kg_a))))) rfl rfl rfl (by decide +kernel) ⟨Nat.le_of_ble_eq_true rfl, Nat.le_of_ble_eq_true rfl⟩) 0 rfl (q := (RX11, TX11, 35)) rfl rfl (kCut_F G) rfl hl.1 rfl (Nat.le_of_ble_eq_true rfl) dX11_grantsOf_161 ⟨Nat.le_of_ble_eq_true rfl, Nat.le_of_ble_eq_true rfl⟩ (cN := 0) (sN := 0) ⟨rfl, rfl⟩ (fun H locs G => ?_)
              refine lv_aload_n F.1 F.2.1 dX11_grantsOf_164 rfl (lv_at hl 3 rfl) ?_
              refine lv_aload_n F.1 F.2.1 dX11_grantsOf_165 rfl (lv_at hl 4 rfl) ?_
              refine lv_iload F.1 F.2.1 dX11_grantsOf_166 (lv_at hl 6 rfl) ?_
              refine lv_iconst (v := 2) F.1 F.2.1 dX11_grantsOf_168 (by decide) ?_
              obtain ⟨rw_24, hc, h⟩ := op_b h
              refine k_callV (rv := none) (Wc := (gMR T aM (aA) z rw_23)) (W2 := (gMR T aM (aA) z rw_24)) (Wn := (gMR T aM aA z rw_24)) (As := [.ref aA, .int x6_17, .int 2]) (rest := []) F G (mX11_marks l D T aM (aA) z rw_23 x6_17 2 hc) (cwV 3 F.2.2.2.2 (kg_c kl928 (kg_c kl929 (kg_c kl930 (kg_c kl788 (kg_c kl926 kg_a))))) rfl rfl rfl (by decide +kernel) ⟨Nat.le_of_ble_eq_true rfl, Nat.le_of_ble_eq_true rfl⟩) 0 rfl (q := (RX11, TX11, 35)) rfl rfl (kCut_F G) rfl hl.1 rfl (Nat.le_of_ble_eq_true rfl) dX11_grantsOf_169 ⟨Nat.le_of_ble_eq_true rfl, Nat.le_of_ble_eq_true rfl⟩ (cN := 0) (sN := 0) ⟨rfl, rfl⟩ (fun H locs G => ?_)
              refine lv_goto (tgt := 24) F.1 F.2.1 dX11_grantsOf_172 (by decide) ?_
              exact ih (x3_4 ||| (1 <<< (x6_17 &&& 31))) (x4_5 &&& ((1 <<< (x6_17 &&& 31)) ^^^ (-1))) (x5_6 - r_22) rw_24 _ _ _ h G (lv_sub hl [3, 4, 5, 0, 2, 1] rfl)
            · have h := op_t h c
              refine lv_goto (tgt := 24) F.1 F.2.1 dX11_grantsOf_152 (by decide) ?_
              exact ih (x3_4 ||| (1 <<< (x6_17 &&& 31))) (x4_5 &&& ((1 <<< (x6_17 &&& 31)) ^^^ (-1))) (x5_6 - r_22) rw_7 _ _ _ h G (lv_sub hl [3, 4, 5, 0, 2, 1] rfl)
          · have h := op_f h c
            refine lv_aload_n F.1 F.2.1 dX11_grantsOf_119 rfl (lv_at hl 2 rfl) ?_
            refine lv_bipush (v := 9) F.1 F.2.1 dX11_grantsOf_120 (by decide) ?_
            refine k_ialdN F G 5 rfl (kin (by decide +kernel)) 9 (by decide +kernel) dX11_grantsOf_122 ?_
            refine lv_iconst (v := 1) F.1 F.2.1 dX11_grantsOf_123 (by decide) ?_
            refine lv_icmp_ne (tgt := 24) F.1 F.2.1 dX11_grantsOf_124 (by decide) (fun c => ?_) (fun c => ?_)
            · have h := op_f h c
              exact ih x3_4 (x4_5 &&& ((1 <<< (x6_17 &&& 31)) ^^^ (-1))) x5_6 rw_7 _ _ _ h G (lv_sub hl [1, 2, 3, 4, 0, 5] rfl)
            · have h := op_t h c
              refine lv_iload_n F.1 F.2.1 dX11_grantsOf_127 rfl (lv_at hl 4 rfl) ?_
              obtain ⟨rfl, rfl⟩ := op_2 h
              exact k_iret F hr hlk G dX11_grantsOf_128
        · have h := op_f h c
          refine lv_goto (tgt := 24) F.1 F.2.1 dX11_grantsOf_104 (by decide) ?_
          exact ih x3_4 (x4_5 &&& ((1 <<< (x6_17 &&& 31)) ^^^ (-1))) x5_6 rw_7 _ _ _ h G (lv_sub hl [1, 2, 3, 4, 0, 5] rfl)
  refine L24 z x2 _ (fun x3_8 rw_9 H locs ls h G hl => ?_) fu 0 r_1 ((rw 6) - r_2) rw _ _ _ h G (lv_sub hl [3, 4, 5, 2, 1, 0] rfl)
  clear L24
  refine lv_iload_n F.1 F.2.1 dX11_grantsOf_175 rfl (lv_at hl 0 rfl) ?_
  obtain ⟨rfl, rfl⟩ := op_2 h
  exact k_iret F hr hlk G dX11_grantsOf_176
abbrev rmX11_polls : Room := ({ frames := 1, cells := 0, slots := 0, locals := 26 } : Room)
noncomputable def qX11_polls_L2 (z : Nat → Nat → Int32) (K : (Nat → Int32) → Option ((Nat → Int32))) : Nat → Int32 → (Nat → Int32) → Option ((Nat → Int32))
  | 0, _, _ => none
  | n + 1, x2_1, rw_2 =>
    if (z 1 0) ≤ x2_1 then (K rw_2) else bd (qX11_at x2_1 9) fun r_4 => gd (vp_in r_4 411) (bd (qX11_at x2_1 10) fun r_5 => gd (vp_in r_5 411) ((jn (fun (rw_6 : Nat → Int32) => (qX11_polls_L2 z K n (x2_1 + 1) rw_6)) fun j83 => if (rw_2 r_4.toNatClampNeg) < 2 then (j83 rw_2) else (jn (fun (y_7 : Int32) => if y_7 ≤ ((rw_2 0) - (rw_2 r_5.toNatClampNeg)) then bd (qX11_sends z rw_2 5 x2_1 (-1)) fun rw_8 => bd (qX11_at x2_1 10) fun r_9 => gd (vp_in r_9 411) (bs (upd rw_8 r_9.toNatClampNeg (rw_8 0)) fun rw_10 => (j83 rw_10)) else (j83 rw_2)) fun j58 => if (rw_2 r_4.toNatClampNeg) = 2 then (j58 (rw_2 8)) else (j58 (5 * (rw_2 8)))))))

noncomputable def qX11_polls (z : Nat → Nat → Int32) (rw : Nat → Int32) : Option ((Nat → Int32)) :=
  (qX11_polls_L2 z  (fun (rw_3 : Nat → Int32) => some rw_3) fu 0 rw)

set_option maxHeartbeats 4000000 in
set_option maxRecDepth 100000 in
theorem mX11_polls (l : Launch) (D : va_G) (T : Nat → ClassId) (aM : Nat → Nat) (aA : Nat) (z : Nat → Nat → Int32) (rw : Nat → Int32) {rwR : Nat → Int32} (hres : qX11_polls z rw = some (rwR)) : Ct l yX11_polls (Cond.code yX11_polls cX11_polls 5 none :: kAll) rmX11_polls D T [.ref (aM 0), .ref aA] (gMR T aM aA z rw) none (gMR T aM aA z rwR) := by
  refine Ct.of (cc := cX11_polls) (maxL := 5) (ret := none) (by decide +kernel) rfl (Nat.le_of_ble_eq_true rfl) ?_
  intro pr en st mi ag bl me co A ls F hr hlk hnm G hl
  have hl : lv_has ls 5 [(0, .ref (aM 0)), (1, .ref aA)] := hl
  have h := hres
  unfold qX11_polls at h
  refine lv_iconst (v := 0) F.1 F.2.1 dX11_polls_0 (by decide) ?_
  refine lv_istore_n (lv' := [(2, .int 0), (0, .ref (aM 0)), (1, .ref aA)]) F.1 F.2.1 dX11_polls_1 rfl hl (by decide) rfl (fun ls hl => ?_)
  have L2 : ∀ (z : Nat → Nat → Int32) (K : (Nat → Int32) → Option ((Nat → Int32))) (hK : ∀ (rw_3 : Nat → Int32) (H : Heap) (locs : List Loc) (ls : Array Slot), K rw_3 = some (rwR) → Rg D T A st (gMR T aM aA z rw_3) H locs → lv_has ls 5 [] → W pr l en rmX11_polls st mi ag bl me co H locs 0 0 (MQ bl (kQ none D (gMR T aM aA z rwR) A) ag st rmX11_polls.cells rmX11_polls.slots A) (F0 mi 89 ls [])) (n : Nat) (x2_1 : Int32) (rw_2 : Nat → Int32) (H : Heap) (locs : List Loc) (ls : Array Slot), qX11_polls_L2 z K n x2_1 rw_2 = some (rwR) → Rg D T A st (gMR T aM aA z rw_2) H locs → lv_has ls 5 [(0, .ref (aM 0)), (1, .ref aA), (2, .int x2_1)] → W pr l en rmX11_polls st mi ag bl me co H locs 0 0 (MQ bl (kQ none D (gMR T aM aA z rwR) A) ag st rmX11_polls.cells rmX11_polls.slots A) (F0 mi 2 ls []) := by
    intro z K hK n
    induction n with
    | zero => intro x2_1 rw_2 H locs ls h; exact op_n h
    | succ n ih =>
      intro x2_1 rw_2 H locs ls h G hl
      rw [qX11_polls_L2] at h
      refine lv_iload_n F.1 F.2.1 dX11_polls_2 rfl (lv_at hl 2 rfl) ?_
      refine lv_aload_n F.1 F.2.1 dX11_polls_3 rfl (lv_at hl 0 rfl) ?_
      refine k_get F G 0 rfl (N := 35) (Tt := TX11) rfl kf11 1 (by decide) kl769 (v := .int (z 1 0)) rfl dX11_polls_4 ?_
      refine lv_icmp_ge (tgt := 89) F.1 F.2.1 dX11_polls_7 (by decide) (fun c => ?_) (fun c => ?_)
      · have h := op_t h c
        exact hK rw_2 _ _ _ h G (lv_sub hl [] rfl)
      · have h := op_f h c
        refine lv_aload_n F.1 F.2.1 dX11_polls_10 rfl (lv_at hl 1 rfl) ?_
        refine lv_iload_n F.1 F.2.1 dX11_polls_11 rfl (lv_at hl 2 rfl) ?_
        refine lv_bipush (v := 9) F.1 F.2.1 dX11_polls_12 (by decide) ?_
        obtain ⟨r_4, hc, h⟩ := op_b h
        refine k_callS (rv := (some (.int r_4))) (Wc := ([] : va_W)) (W2 := ([] : va_W)) (Wn := (gMR T aM aA z rw_2)) (As := [.int x2_1, .int 9]) (rest := [.ref aA]) F G (mX11_at l D T x2_1 9 hc) (va_cwS 2 F.2.2.2.2 (kg_c kl786 (kg_c kl787 (kg_c kl788 (kg_c kl767 kg_a)))) rfl rfl rfl (by decide +kernel) ⟨Nat.le_of_ble_eq_true rfl, Nat.le_of_ble_eq_true rfl⟩) (kCut_0 G) rfl hl.1 rfl (Nat.le_of_ble_eq_true rfl) dX11_polls_14 ⟨Nat.le_of_ble_eq_true rfl, Nat.le_of_ble_eq_true rfl⟩ (cN := 0) (sN := 0) ⟨rfl, rfl⟩ (fun H locs G => ?_)
        obtain ⟨c, h⟩ := op_g h
        refine k_iald F G 5 rfl c dX11_polls_17 ?_
        refine lv_istore_n (lv' := [(3, .int (rw_2 r_4.toNatClampNeg)), (0, .ref (aM 0)), (1, .ref aA), (2, .int x2_1)]) F.1 F.2.1 dX11_polls_18 rfl hl (by decide) rfl (fun ls hl => ?_)
        refine lv_aload_n F.1 F.2.1 dX11_polls_19 rfl (lv_at hl 2 rfl) ?_
        refine lv_iconst (v := 0) F.1 F.2.1 dX11_polls_20 (by decide) ?_
        refine k_ialdN F G 5 rfl (kin (by decide +kernel)) 0 (by decide +kernel) dX11_polls_21 ?_
        refine lv_aload_n F.1 F.2.1 dX11_polls_22 rfl (lv_at hl 2 rfl) ?_
        refine lv_iload_n F.1 F.2.1 dX11_polls_23 rfl (lv_at hl 3 rfl) ?_
        refine lv_bipush (v := 10) F.1 F.2.1 dX11_polls_24 (by decide) ?_
        obtain ⟨r_5, hc, h⟩ := op_b h
        refine k_callS (rv := (some (.int r_5))) (Wc := ([] : va_W)) (W2 := ([] : va_W)) (Wn := (gMR T aM aA z rw_2)) (As := [.int x2_1, .int 10]) (rest := [.ref aA, .int (rw_2 0)]) F G (mX11_at l D T x2_1 10 hc) (va_cwS 2 F.2.2.2.2 (kg_c kl786 (kg_c kl787 (kg_c kl788 (kg_c kl767 kg_a)))) rfl rfl rfl (by decide +kernel) ⟨Nat.le_of_ble_eq_true rfl, Nat.le_of_ble_eq_true rfl⟩) (kCut_0 G) rfl hl.1 rfl (Nat.le_of_ble_eq_true rfl) dX11_polls_26 ⟨Nat.le_of_ble_eq_true rfl, Nat.le_of_ble_eq_true rfl⟩ (cN := 0) (sN := 0) ⟨rfl, rfl⟩ (fun H locs G => ?_)
        obtain ⟨c, h⟩ := op_g h
        refine k_iald F G 5 rfl c dX11_polls_29 ?_
        refine lv_isub F.1 F.2.1 dX11_polls_30 ?_
        refine lv_istore (lv' := [(4, .int ((rw_2 0) - (rw_2 r_5.toNatClampNeg))), (3, .int (rw_2 r_4.toNatClampNeg)), (0, .ref (aM 0)), (1, .ref aA), (2, .int x2_1)]) F.1 F.2.1 dX11_polls_31 hl (by decide) rfl (fun ls hl => ?_)
        refine lv_iload_n F.1 F.2.1 dX11_polls_33 rfl (lv_at hl 1 rfl) ?_
        refine lv_iconst (v := 2) F.1 F.2.1 dX11_polls_34 (by decide) ?_
        obtain ⟨j83, hj83, h⟩ := op_j h
        have J83 : ∀ (rw_6 : Nat → Int32) (H : Heap) (locs : List Loc) (ls : Array Slot), j83 rw_6 = some (rwR) → Rg D T A st (gMR T aM aA z rw_6) H locs → lv_has ls 5 [(0, .ref (aM 0)), (1, .ref aA), (2, .int x2_1)] → W pr l en rmX11_polls st mi ag bl me co H locs 0 0 (MQ bl (kQ none D (gMR T aM aA z rwR) A) ag st rmX11_polls.cells rmX11_polls.slots A) (F0 mi 83 ls []) := by
          intro rw_6 H locs ls h G hl
          rw [hj83] at h
          refine lv_iinc (v := (x2_1 + 1)) (lv' := [(2, .int (x2_1 + 1)), (0, .ref (aM 0)), (1, .ref aA)]) F.1 F.2.1 dX11_polls_83 hl (k := 2) rfl rfl (by decide) rfl (fun ls hl => ?_)
          refine lv_goto (tgt := 2) F.1 F.2.1 dX11_polls_86 (by decide) ?_
          exact ih (x2_1 + 1) rw_6 _ _ _ h G (lv_sub hl [1, 2, 0] rfl)
        clear hj83
        refine lv_icmp_lt (tgt := 83) F.1 F.2.1 dX11_polls_35 (by decide) (fun c => ?_) (fun c => ?_)
        · have h := op_t h c
          exact J83 rw_2 _ _ _ h G (lv_sub hl [2, 3, 4] rfl)
        · have h := op_f h c
          refine lv_iload F.1 F.2.1 dX11_polls_38 (lv_at hl 0 rfl) ?_
          refine lv_iload_n F.1 F.2.1 dX11_polls_40 rfl (lv_at hl 1 rfl) ?_
          refine lv_iconst (v := 2) F.1 F.2.1 dX11_polls_41 (by decide) ?_
          obtain ⟨j58, hj58, h⟩ := op_j h
          have J58 : ∀ (y_7 : Int32) (H : Heap) (locs : List Loc) (ls : Array Slot), j58 y_7 = some (rwR) → Rg D T A st (gMR T aM aA z rw_2) H locs → lv_has ls 5 [(0, .ref (aM 0)), (1, .ref aA), (2, .int x2_1)] → W pr l en rmX11_polls st mi ag bl me co H locs 0 0 (MQ bl (kQ none D (gMR T aM aA z rwR) A) ag st rmX11_polls.cells rmX11_polls.slots A) (F0 mi 58 ls [.int y_7, .int ((rw_2 0) - (rw_2 r_5.toNatClampNeg))]) := by
            intro y_7 H locs ls h G hl
            rw [hj58] at h
            refine lv_icmp_ge (tgt := 64) F.1 F.2.1 dX11_polls_58 (by decide) (fun c => ?_) (fun c => ?_)
            · have h := op_t h c
              refine lv_aload_n F.1 F.2.1 dX11_polls_64 rfl (lv_at hl 0 rfl) ?_
              refine lv_aload_n F.1 F.2.1 dX11_polls_65 rfl (lv_at hl 1 rfl) ?_
              refine lv_iconst (v := 5) F.1 F.2.1 dX11_polls_66 (by decide) ?_
              refine lv_iload_n F.1 F.2.1 dX11_polls_67 rfl (lv_at hl 2 rfl) ?_
              refine lv_iconst (v := (-1)) F.1 F.2.1 dX11_polls_68 (by decide) ?_
              obtain ⟨rw_8, hc, h⟩ := op_b h
              refine k_callV (rv := none) (Wc := (gMR T aM (aA) z rw_2)) (W2 := (gMR T aM (aA) z rw_8)) (Wn := (gMR T aM aA z rw_8)) (As := [.ref aA, .int 5, .int x2_1, .int (-1)]) (rest := []) F G (mX11_sends l D T aM (aA) z rw_2 5 x2_1 (-1) hc) (cwV 4 F.2.2.2.2 (kg_c kl939 (kg_c kl940 (kg_c kl941 (kg_c kl788 (kg_c kl924 kg_a))))) rfl rfl rfl (by decide +kernel) ⟨Nat.le_of_ble_eq_true rfl, Nat.le_of_ble_eq_true rfl⟩) 0 rfl (q := (RX11, TX11, 35)) rfl rfl (kCut_F G) rfl hl.1 rfl (Nat.le_of_ble_eq_true rfl) dX11_polls_69 ⟨Nat.le_of_ble_eq_true rfl, Nat.le_of_ble_eq_true rfl⟩ (cN := 0) (sN := 0) ⟨rfl, rfl⟩ (fun H locs G => ?_)
              refine lv_aload_n F.1 F.2.1 dX11_polls_72 rfl (lv_at hl 1 rfl) ?_
              refine lv_iload_n F.1 F.2.1 dX11_polls_73 rfl (lv_at hl 2 rfl) ?_
              refine lv_bipush (v := 10) F.1 F.2.1 dX11_polls_74 (by decide) ?_
              obtain ⟨r_9, hc, h⟩ := op_b h
              refine k_callS (rv := (some (.int r_9))) (Wc := ([] : va_W)) (W2 := ([] : va_W)) (Wn := (gMR T aM aA z rw_8)) (As := [.int x2_1, .int 10]) (rest := [.ref aA]) F G (mX11_at l D T x2_1 10 hc) (va_cwS 2 F.2.2.2.2 (kg_c kl786 (kg_c kl787 (kg_c kl788 (kg_c kl767 kg_a)))) rfl rfl rfl (by decide +kernel) ⟨Nat.le_of_ble_eq_true rfl, Nat.le_of_ble_eq_true rfl⟩) (kCut_0 G) rfl hl.1 rfl (Nat.le_of_ble_eq_true rfl) dX11_polls_76 ⟨Nat.le_of_ble_eq_true rfl, Nat.le_of_ble_eq_true rfl⟩ (cN := 0) (sN := 0) ⟨rfl, rfl⟩ (fun H locs G => ?_)
              refine lv_aload_n F.1 F.2.1 dX11_polls_79 rfl (lv_at hl 1 rfl) ?_
              refine lv_iconst (v := 0) F.1 F.2.1 dX11_polls_80 (by decide) ?_
              refine k_ialdN F G 5 rfl (kin (by decide +kernel)) 0 (by decide +kernel) dX11_polls_81 ?_
              obtain ⟨c, h⟩ := op_g h
              obtain ⟨rw_10, e9, h⟩ := op_st h
              refine k_iast F G 5 rfl c dX11_polls_82 (Wn := (gMR T aM aA z rw_10)) (by subst e9; rfl) (fun H locs G => ?_)
              clear e9
              exact J83 rw_10 _ _ _ h G hl
            · have h := op_f h c
              refine lv_goto (tgt := 83) F.1 F.2.1 dX11_polls_61 (by decide) ?_
              exact J83 rw_2 _ _ _ h G hl
          clear hj58
          refine lv_icmp_ne (tgt := 52) F.1 F.2.1 dX11_polls_42 (by decide) (fun c => ?_) (fun c => ?_)
          · have h := op_f h c
            refine lv_iconst (v := 5) F.1 F.2.1 dX11_polls_52 (by decide) ?_
            refine lv_aload_n F.1 F.2.1 dX11_polls_53 rfl (lv_at hl 3 rfl) ?_
            refine lv_bipush (v := 8) F.1 F.2.1 dX11_polls_54 (by decide) ?_
            refine k_ialdN F G 5 rfl (kin (by decide +kernel)) 8 (by decide +kernel) dX11_polls_56 ?_
            refine lv_imul F.1 F.2.1 dX11_polls_57 ?_
            exact J58 (5 * (rw_2 8)) _ _ _ h G (lv_sub hl [2, 3, 4] rfl)
          · have h := op_t h c
            refine lv_aload_n F.1 F.2.1 dX11_polls_45 rfl (lv_at hl 3 rfl) ?_
            refine lv_bipush (v := 8) F.1 F.2.1 dX11_polls_46 (by decide) ?_
            refine k_ialdN F G 5 rfl (kin (by decide +kernel)) 8 (by decide +kernel) dX11_polls_48 ?_
            refine lv_goto (tgt := 58) F.1 F.2.1 dX11_polls_49 (by decide) ?_
            exact J58 (rw_2 8) _ _ _ h G (lv_sub hl [2, 3, 4] rfl)
  refine L2 z  _ (fun rw_3 H locs ls h G hl => ?_) fu 0 rw _ _ _ h G (lv_sub hl [1, 2, 0] rfl)
  clear L2
  obtain rfl := op_1 h
  exact k_vret F hr hlk G dX11_polls_89
abbrev rmX11_ticks : Room := ({ frames := 5, cells := 0, slots := 0, locals := 116 } : Room)
noncomputable def qX11_ticks_L2 (z : Nat → Nat → Int32) (K : (Nat → Int32) → Option (Int32 × (Nat → Int32))) : Nat → Int32 → (Nat → Int32) → Option (Int32 × (Nat → Int32))
  | 0, _, _ => none
  | n + 1, x2_1, rw_2 =>
    if (z 4 0) ≤ x2_1 then (K rw_2) else gd (vp_in (2 * x2_1) 8) ((jn (fun (rw_4 : Nat → Int32) => (qX11_ticks_L2 z K n (x2_1 + 1) rw_4)) fun j39 => if ((z 8) (2 * x2_1).toNatClampNeg) = (rw_2 0) then gd (vp_in ((2 * x2_1) + 1) 8) (bd (qX11_darkens z rw_2 ((z 8) ((2 * x2_1) + 1).toNatClampNeg)) fun rw_5 => (j39 rw_5)) else (j39 rw_2)))

noncomputable def qX11_ticks_L69 (z : Nat → Nat → Int32) (x2_7 : Int32) (K : (Nat → Int32) → Option (Int32 × (Nat → Int32))) : Nat → Int32 → (Nat → Int32) → Option (Int32 × (Nat → Int32))
  | 0, _, _ => none
  | n + 1, x3_8, rw_9 =>
    if x2_7 ≤ x3_8 then (K rw_9) else bd (qX11_receives z rw_9 (195 + (3 * x3_8))) fun rw_11 => (qX11_ticks_L69 z x2_7 K n (x3_8 + 1) rw_11)

noncomputable def qX11_ticks_L104 (z : Nat → Nat → Int32) (K : (Nat → Int32) → Option (Int32 × (Nat → Int32))) : Nat → Int32 → (Nat → Int32) → Option (Int32 × (Nat → Int32))
  | 0, _, _ => none
  | n + 1, x3_14, rw_15 =>
    if (z 1 0) ≤ x3_14 then (K rw_15) else bd (qX11_acts z rw_15 x3_14) fun rw_17 => (qX11_ticks_L104 z K n (x3_14 + 1) rw_17)

noncomputable def qX11_ticks_L168 (z : Nat → Nat → Int32) (x4_24 : Int32) (K : (Nat → Int32) → Option (Int32 × (Nat → Int32))) : Nat → Int32 → (Nat → Int32) → Option (Int32 × (Nat → Int32))
  | 0, _, _ => none
  | n + 1, x5_25, rw_26 =>
    if (z 1 0) ≤ x5_25 then (K rw_26) else bd (qX11_at x5_25 2) fun r_28 => gd (vp_in r_28 411) ((jn (fun (rw_29 : Nat → Int32) => (qX11_ticks_L168 z x4_24 K n (x5_25 + 1) rw_29)) fun j201 => if (rw_26 r_28.toNatClampNeg) = 2 then bd (qX11_at x5_25 3) fun r_30 => gd (vp_in r_30 411) (gd (vp_in r_30 411) (bs (upd rw_26 r_30.toNatClampNeg ((rw_26 r_30.toNatClampNeg) - 1)) fun rw_31 => (j201 rw_31))) else (j201 rw_26)))

noncomputable def qX11_ticks (z : Nat → Nat → Int32) (rw : Nat → Int32) : Option (Int32 × (Nat → Int32)) :=
  (qX11_ticks_L2 z  (fun (rw_3 : Nat → Int32) => bd (qX11_isDark z rw_3) fun r_6 => if r_6 = 0 then (qX11_ticks_L69 z (rw_3 11) (fun (rw_10 : Nat → Int32) => (bs (upd rw_10 11 0) fun rw_12 => bd (qX11_learns z rw_12) fun rw_13 => (qX11_ticks_L104 z  (fun (rw_16 : Nat → Int32) => bd (qX11_polls z rw_16) fun rw_18 => bd2 (qX11_grantsOf z rw_18 1) fun r_19 rw_20 => bd (qX11_drawn z rw_20) fun r_21 => (jn (fun (y_22 : Int32) => (bs (upd rw_20 10 y_22) fun rw_23 => (qX11_ticks_L168 z r_21 (fun (rw_27 : Nat → Int32) => (bs (upd rw_27 0 ((rw_27 0) + 1)) fun rw_32 => if r_21 ≤ (rw_32 6) then some (r_21, rw_32) else (bs (upd rw_32 3 ((rw_32 3) + 1)) fun rw_33 => bd (qX11_darkens z rw_33 5) fun rw_34 => some (r_21, rw_34)))) fu 0 rw_23))) fun j164 => if r_21 ≤ (rw_20 10) then (j164 (rw_20 10)) else (j164 r_21))) fu 0 rw_13))) fu 0 rw_3) else (bs (upd rw_3 0 ((rw_3 0) + 1)) fun rw_35 => some (0, rw_35))) fu 0 rw)

set_option maxHeartbeats 4000000 in
set_option maxRecDepth 100000 in
theorem mX11_ticks (l : Launch) (D : va_G) (T : Nat → ClassId) (aM : Nat → Nat) (aA : Nat) (z : Nat → Nat → Int32) (rw : Nat → Int32) {rR : Int32} {rwR : Nat → Int32} (hres : qX11_ticks z rw = some (rR, rwR)) : Ct l yX11_ticks (Cond.code yX11_ticks cX11_ticks 6 (some .int) :: kAll) rmX11_ticks D T [.ref (aM 0), .ref aA] (gMR T aM aA z rw) (some (.int rR)) (gMR T aM aA z rwR) := by
  refine Ct.of (cc := cX11_ticks) (maxL := 6) (ret := (some .int)) (by decide +kernel) rfl (Nat.le_of_ble_eq_true rfl) ?_
  intro pr en st mi ag bl me co A ls F hr hlk hnm G hl
  have hl : lv_has ls 6 [(0, .ref (aM 0)), (1, .ref aA)] := hl
  have h := hres
  unfold qX11_ticks at h
  refine lv_iconst (v := 0) F.1 F.2.1 dX11_ticks_0 (by decide) ?_
  refine lv_istore_n (lv' := [(2, .int 0), (0, .ref (aM 0)), (1, .ref aA)]) F.1 F.2.1 dX11_ticks_1 rfl hl (by decide) rfl (fun ls hl => ?_)
  have L2 : ∀ (z : Nat → Nat → Int32) (K : (Nat → Int32) → Option (Int32 × (Nat → Int32))) (hK : ∀ (rw_3 : Nat → Int32) (H : Heap) (locs : List Loc) (ls : Array Slot), K rw_3 = some (rR, rwR) → Rg D T A st (gMR T aM aA z rw_3) H locs → lv_has ls 6 [(0, .ref (aM 0)), (1, .ref aA)] → W pr l en rmX11_ticks st mi ag bl me co H locs 0 0 (MQ bl (kQ (some (.int rR)) D (gMR T aM aA z rwR) A) ag st rmX11_ticks.cells rmX11_ticks.slots A) (F0 mi 45 ls [])) (n : Nat) (x2_1 : Int32) (rw_2 : Nat → Int32) (H : Heap) (locs : List Loc) (ls : Array Slot), qX11_ticks_L2 z K n x2_1 rw_2 = some (rR, rwR) → Rg D T A st (gMR T aM aA z rw_2) H locs → lv_has ls 6 [(0, .ref (aM 0)), (1, .ref aA), (2, .int x2_1)] → W pr l en rmX11_ticks st mi ag bl me co H locs 0 0 (MQ bl (kQ (some (.int rR)) D (gMR T aM aA z rwR) A) ag st rmX11_ticks.cells rmX11_ticks.slots A) (F0 mi 2 ls []) := by
    intro z K hK n
    induction n with
    | zero => intro x2_1 rw_2 H locs ls h; exact op_n h
    | succ n ih =>
      intro x2_1 rw_2 H locs ls h G hl
      rw [qX11_ticks_L2] at h
      refine lv_iload_n F.1 F.2.1 dX11_ticks_2 rfl (lv_at hl 2 rfl) ?_
      refine lv_aload_n F.1 F.2.1 dX11_ticks_3 rfl (lv_at hl 0 rfl) ?_
      refine k_get F G 0 rfl (N := 35) (Tt := TX11) rfl kf11 4 (by decide) kl772 (v := .int (z 4 0)) rfl dX11_ticks_4 ?_
      refine lv_icmp_ge (tgt := 45) F.1 F.2.1 dX11_ticks_7 (by decide) (fun c => ?_) (fun c => ?_)
      · have h := op_t h c
        exact hK rw_2 _ _ _ h G (lv_sub hl [0, 1] rfl)
      · have h := op_f h c
        refine lv_aload_n F.1 F.2.1 dX11_ticks_10 rfl (lv_at hl 0 rfl) ?_
        refine k_get F G 0 rfl (N := 35) (Tt := TX11) rfl kf11 8 (by decide) kl779 (v := .ref (aM 4)) rfl dX11_ticks_11 ?_
        refine lv_iconst (v := 2) F.1 F.2.1 dX11_ticks_14 (by decide) ?_
        refine lv_iload_n F.1 F.2.1 dX11_ticks_15 rfl (lv_at hl 2 rfl) ?_
        refine lv_imul F.1 F.2.1 dX11_ticks_16 ?_
        obtain ⟨c, h⟩ := op_g h
        refine k_iald F G 4 rfl c dX11_ticks_17 ?_
        refine lv_aload_n F.1 F.2.1 dX11_ticks_18 rfl (lv_at hl 1 rfl) ?_
        refine lv_iconst (v := 0) F.1 F.2.1 dX11_ticks_19 (by decide) ?_
        refine k_ialdN F G 5 rfl (kin (by decide +kernel)) 0 (by decide +kernel) dX11_ticks_20 ?_
        obtain ⟨j39, hj39, h⟩ := op_j h
        have J39 : ∀ (rw_4 : Nat → Int32) (H : Heap) (locs : List Loc) (ls : Array Slot), j39 rw_4 = some (rR, rwR) → Rg D T A st (gMR T aM aA z rw_4) H locs → lv_has ls 6 [(0, .ref (aM 0)), (1, .ref aA), (2, .int x2_1)] → W pr l en rmX11_ticks st mi ag bl me co H locs 0 0 (MQ bl (kQ (some (.int rR)) D (gMR T aM aA z rwR) A) ag st rmX11_ticks.cells rmX11_ticks.slots A) (F0 mi 39 ls []) := by
          intro rw_4 H locs ls h G hl
          rw [hj39] at h
          refine lv_iinc (v := (x2_1 + 1)) (lv' := [(2, .int (x2_1 + 1)), (0, .ref (aM 0)), (1, .ref aA)]) F.1 F.2.1 dX11_ticks_39 hl (k := 2) rfl rfl (by decide) rfl (fun ls hl => ?_)
          refine lv_goto (tgt := 2) F.1 F.2.1 dX11_ticks_42 (by decide) ?_
          exact ih (x2_1 + 1) rw_4 _ _ _ h G (lv_sub hl [1, 2, 0] rfl)
        clear hj39
        refine lv_icmp_ne (tgt := 39) F.1 F.2.1 dX11_ticks_21 (by decide) (fun c => ?_) (fun c => ?_)
        · have h := op_f h c
          exact J39 rw_2 _ _ _ h G hl
        · have h := op_t h c
          refine lv_aload_n F.1 F.2.1 dX11_ticks_24 rfl (lv_at hl 0 rfl) ?_
          refine lv_aload_n F.1 F.2.1 dX11_ticks_25 rfl (lv_at hl 1 rfl) ?_
          refine lv_aload_n F.1 F.2.1 dX11_ticks_26 rfl (lv_at hl 0 rfl) ?_
          refine k_get F G 0 rfl (N := 35) (Tt := TX11) rfl kf11 8 (by decide) kl779 (v := .ref (aM 4)) rfl dX11_ticks_27 ?_
          refine lv_iconst (v := 2) F.1 F.2.1 dX11_ticks_30 (by decide) ?_
          refine lv_iload_n F.1 F.2.1 dX11_ticks_31 rfl (lv_at hl 2 rfl) ?_
          refine lv_imul F.1 F.2.1 dX11_ticks_32 ?_
          refine lv_iconst (v := 1) F.1 F.2.1 dX11_ticks_33 (by decide) ?_
          refine lv_iadd F.1 F.2.1 dX11_ticks_34 ?_
          obtain ⟨c, h⟩ := op_g h
          refine k_iald F G 4 rfl c dX11_ticks_35 ?_
          obtain ⟨rw_5, hc, h⟩ := op_b h
          refine k_callV (rv := none) (Wc := (gMR T aM (aA) z rw_2)) (W2 := (gMR T aM (aA) z rw_5)) (Wn := (gMR T aM aA z rw_5)) (As := [.ref aA, .int ((z 8) ((2 * x2_1) + 1).toNatClampNeg)]) (rest := []) F G (mX11_darkens l D T aM (aA) z rw_2 ((z 8) ((2 * x2_1) + 1).toNatClampNeg) hc) (cwV 2 F.2.2.2.2 (kg_c kl960 (kg_c kl961 (kg_c kl962 (kg_c kl788 (kg_c kl925 kg_a))))) rfl rfl rfl (by decide +kernel) ⟨Nat.le_of_ble_eq_true rfl, Nat.le_of_ble_eq_true rfl⟩) 0 rfl (q := (RX11, TX11, 35)) rfl rfl (kCut_F G) rfl hl.1 rfl (Nat.le_of_ble_eq_true rfl) dX11_ticks_36 ⟨Nat.le_of_ble_eq_true rfl, Nat.le_of_ble_eq_true rfl⟩ (cN := 0) (sN := 0) ⟨rfl, rfl⟩ (fun H locs G => ?_)
          exact J39 rw_5 _ _ _ h G hl
  refine L2 z  _ (fun rw_3 H locs ls h G hl => ?_) fu 0 rw _ _ _ h G (lv_sub hl [1, 2, 0] rfl)
  clear L2
  refine lv_aload_n F.1 F.2.1 dX11_ticks_45 rfl (lv_at hl 0 rfl) ?_
  refine lv_aload_n F.1 F.2.1 dX11_ticks_46 rfl (lv_at hl 1 rfl) ?_
  obtain ⟨r_6, hc, h⟩ := op_b h
  refine k_callV (rv := (some (.int r_6))) (Wc := (gMR T aM (aA) z rw_3)) (W2 := (gMR T aM (aA) z rw_3)) (Wn := (gMR T aM aA z rw_3)) (As := [.ref aA]) (rest := []) F G (mX11_isDark l D T aM (aA) z rw_3 hc) (cwV 1 F.2.2.2.2 (kg_c kl963 (kg_c kl964 (kg_c kl965 (kg_c kl788 (kg_c kl923 kg_a))))) rfl rfl rfl (by decide +kernel) ⟨Nat.le_of_ble_eq_true rfl, Nat.le_of_ble_eq_true rfl⟩) 0 rfl (q := (RX11, TX11, 35)) rfl rfl (kCut_F G) rfl hl.1 rfl (Nat.le_of_ble_eq_true rfl) dX11_ticks_47 ⟨Nat.le_of_ble_eq_true rfl, Nat.le_of_ble_eq_true rfl⟩ (cN := 0) (sN := 0) ⟨rfl, rfl⟩ (fun H locs G => ?_)
  refine lv_if_eq (tgt := 62) F.1 F.2.1 dX11_ticks_50 (by decide) (fun c => ?_) (fun c => ?_)
  · have h := op_t h c
    refine lv_aload_n F.1 F.2.1 dX11_ticks_62 rfl (lv_at hl 1 rfl) ?_
    refine lv_bipush (v := 11) F.1 F.2.1 dX11_ticks_63 (by decide) ?_
    refine k_ialdN F G 5 rfl (kin (by decide +kernel)) 11 (by decide +kernel) dX11_ticks_65 ?_
    refine lv_istore_n (lv' := [(2, .int (rw_3 11)), (0, .ref (aM 0)), (1, .ref aA)]) F.1 F.2.1 dX11_ticks_66 rfl hl (by decide) rfl (fun ls hl => ?_)
    refine lv_iconst (v := 0) F.1 F.2.1 dX11_ticks_67 (by decide) ?_
    refine lv_istore_n (lv' := [(3, .int 0), (2, .int (rw_3 11)), (0, .ref (aM 0)), (1, .ref aA)]) F.1 F.2.1 dX11_ticks_68 rfl hl (by decide) rfl (fun ls hl => ?_)
    have L69 : ∀ (z : Nat → Nat → Int32) (x2_7 : Int32) (K : (Nat → Int32) → Option (Int32 × (Nat → Int32))) (hK : ∀ (rw_10 : Nat → Int32) (H : Heap) (locs : List Loc) (ls : Array Slot), K rw_10 = some (rR, rwR) → Rg D T A st (gMR T aM aA z rw_10) H locs → lv_has ls 6 [(0, .ref (aM 0)), (1, .ref aA)] → W pr l en rmX11_ticks st mi ag bl me co H locs 0 0 (MQ bl (kQ (some (.int rR)) D (gMR T aM aA z rwR) A) ag st rmX11_ticks.cells rmX11_ticks.slots A) (F0 mi 92 ls [])) (n : Nat) (x3_8 : Int32) (rw_9 : Nat → Int32) (H : Heap) (locs : List Loc) (ls : Array Slot), qX11_ticks_L69 z x2_7 K n x3_8 rw_9 = some (rR, rwR) → Rg D T A st (gMR T aM aA z rw_9) H locs → lv_has ls 6 [(0, .ref (aM 0)), (1, .ref aA), (2, .int x2_7), (3, .int x3_8)] → W pr l en rmX11_ticks st mi ag bl me co H locs 0 0 (MQ bl (kQ (some (.int rR)) D (gMR T aM aA z rwR) A) ag st rmX11_ticks.cells rmX11_ticks.slots A) (F0 mi 69 ls []) := by
      intro z x2_7 K hK n
      induction n with
      | zero => intro x3_8 rw_9 H locs ls h; exact op_n h
      | succ n ih =>
        intro x3_8 rw_9 H locs ls h G hl
        rw [qX11_ticks_L69] at h
        refine lv_iload_n F.1 F.2.1 dX11_ticks_69 rfl (lv_at hl 3 rfl) ?_
        refine lv_iload_n F.1 F.2.1 dX11_ticks_70 rfl (lv_at hl 2 rfl) ?_
        refine lv_icmp_ge (tgt := 92) F.1 F.2.1 dX11_ticks_71 (by decide) (fun c => ?_) (fun c => ?_)
        · have h := op_t h c
          exact hK rw_9 _ _ _ h G (lv_sub hl [0, 1] rfl)
        · have h := op_f h c
          refine lv_aload_n F.1 F.2.1 dX11_ticks_74 rfl (lv_at hl 0 rfl) ?_
          refine lv_aload_n F.1 F.2.1 dX11_ticks_75 rfl (lv_at hl 1 rfl) ?_
          refine lv_sipush (v := 195) F.1 F.2.1 dX11_ticks_76 (by decide) ?_
          refine lv_iconst (v := 3) F.1 F.2.1 dX11_ticks_79 (by decide) ?_
          refine lv_iload_n F.1 F.2.1 dX11_ticks_80 rfl (lv_at hl 3 rfl) ?_
          refine lv_imul F.1 F.2.1 dX11_ticks_81 ?_
          refine lv_iadd F.1 F.2.1 dX11_ticks_82 ?_
          obtain ⟨rw_11, hc, h⟩ := op_b h
          refine k_callV (rv := none) (Wc := (gMR T aM (aA) z rw_9)) (W2 := (gMR T aM (aA) z rw_11)) (Wn := (gMR T aM aA z rw_11)) (As := [.ref aA, .int (195 + (3 * x3_8))]) (rest := []) F G (mX11_receives l D T aM (aA) z rw_9 (195 + (3 * x3_8)) hc) (cwV 2 F.2.2.2.2 (kg_c kl966 (kg_c kl967 (kg_c kl968 (kg_c kl788 (kg_c kl927 kg_a))))) rfl rfl rfl (by decide +kernel) ⟨Nat.le_of_ble_eq_true rfl, Nat.le_of_ble_eq_true rfl⟩) 0 rfl (q := (RX11, TX11, 35)) rfl rfl (kCut_F G) rfl hl.1 rfl (Nat.le_of_ble_eq_true rfl) dX11_ticks_83 ⟨Nat.le_of_ble_eq_true rfl, Nat.le_of_ble_eq_true rfl⟩ (cN := 0) (sN := 0) ⟨rfl, rfl⟩ (fun H locs G => ?_)
          refine lv_iinc (v := (x3_8 + 1)) (lv' := [(3, .int (x3_8 + 1)), (0, .ref (aM 0)), (1, .ref aA), (2, .int x2_7)]) F.1 F.2.1 dX11_ticks_86 hl (k := 3) rfl rfl (by decide) rfl (fun ls hl => ?_)
          refine lv_goto (tgt := 69) F.1 F.2.1 dX11_ticks_89 (by decide) ?_
          exact ih (x3_8 + 1) rw_11 _ _ _ h G (lv_sub hl [1, 2, 3, 0] rfl)
    refine L69 z (rw_3 11) _ (fun rw_10 H locs ls h G hl => ?_) fu 0 rw_3 _ _ _ h G (lv_sub hl [2, 3, 1, 0] rfl)
    clear L69
    refine lv_aload_n F.1 F.2.1 dX11_ticks_92 rfl (lv_at hl 1 rfl) ?_
    refine lv_bipush (v := 11) F.1 F.2.1 dX11_ticks_93 (by decide) ?_
    refine lv_iconst (v := 0) F.1 F.2.1 dX11_ticks_95 (by decide) ?_
    obtain ⟨rw_12, e9, h⟩ := op_st h
    refine k_iastN F G 5 rfl (kin (by decide +kernel)) 11 (by decide +kernel) dX11_ticks_96 (Wn := (gMR T aM aA z rw_12)) (by subst e9; rfl) (fun H locs G => ?_)
    clear e9
    refine lv_aload_n F.1 F.2.1 dX11_ticks_97 rfl (lv_at hl 0 rfl) ?_
    refine lv_aload_n F.1 F.2.1 dX11_ticks_98 rfl (lv_at hl 1 rfl) ?_
    obtain ⟨rw_13, hc, h⟩ := op_b h
    refine k_callV (rv := none) (Wc := (gMR T aM (aA) z rw_12)) (W2 := (gMR T aM (aA) z rw_13)) (Wn := (gMR T aM aA z rw_13)) (As := [.ref aA]) (rest := []) F G (mX11_learns l D T aM (aA) z rw_12 hc) (cwV 1 F.2.2.2.2 (kg_c kl969 (kg_c kl970 (kg_c kl971 (kg_c kl788 (kg_c kl931 kg_a))))) rfl rfl rfl (by decide +kernel) ⟨Nat.le_of_ble_eq_true rfl, Nat.le_of_ble_eq_true rfl⟩) 0 rfl (q := (RX11, TX11, 35)) rfl rfl (kCut_F G) rfl hl.1 rfl (Nat.le_of_ble_eq_true rfl) dX11_ticks_99 ⟨Nat.le_of_ble_eq_true rfl, Nat.le_of_ble_eq_true rfl⟩ (cN := 0) (sN := 0) ⟨rfl, rfl⟩ (fun H locs G => ?_)
    refine lv_iconst (v := 0) F.1 F.2.1 dX11_ticks_102 (by decide) ?_
    refine lv_istore_n (lv' := [(3, .int 0), (0, .ref (aM 0)), (1, .ref aA)]) F.1 F.2.1 dX11_ticks_103 rfl hl (by decide) rfl (fun ls hl => ?_)
    have L104 : ∀ (z : Nat → Nat → Int32) (K : (Nat → Int32) → Option (Int32 × (Nat → Int32))) (hK : ∀ (rw_16 : Nat → Int32) (H : Heap) (locs : List Loc) (ls : Array Slot), K rw_16 = some (rR, rwR) → Rg D T A st (gMR T aM aA z rw_16) H locs → lv_has ls 6 [(0, .ref (aM 0)), (1, .ref aA)] → W pr l en rmX11_ticks st mi ag bl me co H locs 0 0 (MQ bl (kQ (some (.int rR)) D (gMR T aM aA z rwR) A) ag st rmX11_ticks.cells rmX11_ticks.slots A) (F0 mi 124 ls [])) (n : Nat) (x3_14 : Int32) (rw_15 : Nat → Int32) (H : Heap) (locs : List Loc) (ls : Array Slot), qX11_ticks_L104 z K n x3_14 rw_15 = some (rR, rwR) → Rg D T A st (gMR T aM aA z rw_15) H locs → lv_has ls 6 [(0, .ref (aM 0)), (1, .ref aA), (3, .int x3_14)] → W pr l en rmX11_ticks st mi ag bl me co H locs 0 0 (MQ bl (kQ (some (.int rR)) D (gMR T aM aA z rwR) A) ag st rmX11_ticks.cells rmX11_ticks.slots A) (F0 mi 104 ls []) := by
      intro z K hK n
      induction n with
      | zero => intro x3_14 rw_15 H locs ls h; exact op_n h
      | succ n ih =>
        intro x3_14 rw_15 H locs ls h G hl
        rw [qX11_ticks_L104] at h
        refine lv_iload_n F.1 F.2.1 dX11_ticks_104 rfl (lv_at hl 2 rfl) ?_
        refine lv_aload_n F.1 F.2.1 dX11_ticks_105 rfl (lv_at hl 0 rfl) ?_
        refine k_get F G 0 rfl (N := 35) (Tt := TX11) rfl kf11 1 (by decide) kl769 (v := .int (z 1 0)) rfl dX11_ticks_106 ?_
        refine lv_icmp_ge (tgt := 124) F.1 F.2.1 dX11_ticks_109 (by decide) (fun c => ?_) (fun c => ?_)
        · have h := op_t h c
          exact hK rw_15 _ _ _ h G (lv_sub hl [0, 1] rfl)
        · have h := op_f h c
          refine lv_aload_n F.1 F.2.1 dX11_ticks_112 rfl (lv_at hl 0 rfl) ?_
          refine lv_aload_n F.1 F.2.1 dX11_ticks_113 rfl (lv_at hl 1 rfl) ?_
          refine lv_iload_n F.1 F.2.1 dX11_ticks_114 rfl (lv_at hl 2 rfl) ?_
          obtain ⟨rw_17, hc, h⟩ := op_b h
          refine k_callV (rv := none) (Wc := (gMR T aM (aA) z rw_15)) (W2 := (gMR T aM (aA) z rw_17)) (Wn := (gMR T aM aA z rw_17)) (As := [.ref aA, .int x3_14]) (rest := []) F G (mX11_acts l D T aM (aA) z rw_15 x3_14 hc) (cwV 2 F.2.2.2.2 (kg_c kl972 (kg_c kl973 (kg_c kl974 (kg_c kl788 (kg_c kl938 kg_a))))) rfl rfl rfl (by decide +kernel) ⟨Nat.le_of_ble_eq_true rfl, Nat.le_of_ble_eq_true rfl⟩) 0 rfl (q := (RX11, TX11, 35)) rfl rfl (kCut_F G) rfl hl.1 rfl (Nat.le_of_ble_eq_true rfl) dX11_ticks_115 ⟨Nat.le_of_ble_eq_true rfl, Nat.le_of_ble_eq_true rfl⟩ (cN := 0) (sN := 0) ⟨rfl, rfl⟩ (fun H locs G => ?_)
          refine lv_iinc (v := (x3_14 + 1)) (lv' := [(3, .int (x3_14 + 1)), (0, .ref (aM 0)), (1, .ref aA)]) F.1 F.2.1 dX11_ticks_118 hl (k := 2) rfl rfl (by decide) rfl (fun ls hl => ?_)
          refine lv_goto (tgt := 104) F.1 F.2.1 dX11_ticks_121 (by decide) ?_
          exact ih (x3_14 + 1) rw_17 _ _ _ h G (lv_sub hl [1, 2, 0] rfl)
    refine L104 z  _ (fun rw_16 H locs ls h G hl => ?_) fu 0 rw_13 _ _ _ h G (lv_sub hl [1, 2, 0] rfl)
    clear L104
    refine lv_aload_n F.1 F.2.1 dX11_ticks_124 rfl (lv_at hl 0 rfl) ?_
    refine lv_aload_n F.1 F.2.1 dX11_ticks_125 rfl (lv_at hl 1 rfl) ?_
    obtain ⟨rw_18, hc, h⟩ := op_b h
    refine k_callV (rv := none) (Wc := (gMR T aM (aA) z rw_16)) (W2 := (gMR T aM (aA) z rw_18)) (Wn := (gMR T aM aA z rw_18)) (As := [.ref aA]) (rest := []) F G (mX11_polls l D T aM (aA) z rw_16 hc) (cwV 1 F.2.2.2.2 (kg_c kl975 (kg_c kl976 (kg_c kl977 (kg_c kl788 (kg_c kl958 kg_a))))) rfl rfl rfl (by decide +kernel) ⟨Nat.le_of_ble_eq_true rfl, Nat.le_of_ble_eq_true rfl⟩) 0 rfl (q := (RX11, TX11, 35)) rfl rfl (kCut_F G) rfl hl.1 rfl (Nat.le_of_ble_eq_true rfl) dX11_ticks_126 ⟨Nat.le_of_ble_eq_true rfl, Nat.le_of_ble_eq_true rfl⟩ (cN := 0) (sN := 0) ⟨rfl, rfl⟩ (fun H locs G => ?_)
    refine lv_aload_n F.1 F.2.1 dX11_ticks_129 rfl (lv_at hl 0 rfl) ?_
    refine lv_aload_n F.1 F.2.1 dX11_ticks_130 rfl (lv_at hl 1 rfl) ?_
    refine lv_iconst (v := 1) F.1 F.2.1 dX11_ticks_131 (by decide) ?_
    obtain ⟨r_19, rw_20, hc, h⟩ := op_b2 h
    refine k_callV (rv := (some (.int r_19))) (Wc := (gMR T aM (aA) z rw_18)) (W2 := (gMR T aM (aA) z rw_20)) (Wn := (gMR T aM aA z rw_20)) (As := [.ref aA, .int 1]) (rest := []) F G (mX11_grantsOf l D T aM (aA) z rw_18 1 hc) (cwV 2 F.2.2.2.2 (kg_c kl978 (kg_c kl979 (kg_c kl980 (kg_c kl788 (kg_c kl948 kg_a))))) rfl rfl rfl (by decide +kernel) ⟨Nat.le_of_ble_eq_true rfl, Nat.le_of_ble_eq_true rfl⟩) 0 rfl (q := (RX11, TX11, 35)) rfl rfl (kCut_F G) rfl hl.1 rfl (Nat.le_of_ble_eq_true rfl) dX11_ticks_132 ⟨Nat.le_of_ble_eq_true rfl, Nat.le_of_ble_eq_true rfl⟩ (cN := 0) (sN := 0) ⟨rfl, rfl⟩ (fun H locs G => ?_)
    refine lv_istore_n (lv' := [(3, .int r_19), (0, .ref (aM 0)), (1, .ref aA)]) F.1 F.2.1 dX11_ticks_135 rfl hl (by decide) rfl (fun ls hl => ?_)
    refine lv_aload_n F.1 F.2.1 dX11_ticks_136 rfl (lv_at hl 1 rfl) ?_
    refine lv_aload_n F.1 F.2.1 dX11_ticks_137 rfl (lv_at hl 2 rfl) ?_
    obtain ⟨r_21, hc, h⟩ := op_b h
    refine k_callV (rv := (some (.int r_21))) (Wc := (gMR T aM (aA) z rw_20)) (W2 := (gMR T aM (aA) z rw_20)) (Wn := (gMR T aM aA z rw_20)) (As := [.ref aA]) (rest := []) F G (mX11_drawn l D T aM (aA) z rw_20 hc) (cwV 1 F.2.2.2.2 (kg_c kl981 (kg_c kl982 (kg_c kl983 (kg_c kl788 (kg_c kl905 kg_a))))) rfl rfl rfl (by decide +kernel) ⟨Nat.le_of_ble_eq_true rfl, Nat.le_of_ble_eq_true rfl⟩) 0 rfl (q := (RX11, TX11, 35)) rfl rfl (kCut_F G) rfl hl.1 rfl (Nat.le_of_ble_eq_true rfl) dX11_ticks_138 ⟨Nat.le_of_ble_eq_true rfl, Nat.le_of_ble_eq_true rfl⟩ (cN := 0) (sN := 0) ⟨rfl, rfl⟩ (fun H locs G => ?_)
    refine lv_istore (lv' := [(4, .int r_21), (3, .int r_19), (0, .ref (aM 0)), (1, .ref aA)]) F.1 F.2.1 dX11_ticks_141 hl (by decide) rfl (fun ls hl => ?_)
    refine lv_aload_n F.1 F.2.1 dX11_ticks_143 rfl (lv_at hl 3 rfl) ?_
    refine lv_bipush (v := 10) F.1 F.2.1 dX11_ticks_144 (by decide) ?_
    refine lv_iload F.1 F.2.1 dX11_ticks_146 (lv_at hl 0 rfl) ?_
    refine lv_aload_n F.1 F.2.1 dX11_ticks_148 rfl (lv_at hl 3 rfl) ?_
    refine lv_bipush (v := 10) F.1 F.2.1 dX11_ticks_149 (by decide) ?_
    refine k_ialdN F G 5 rfl (kin (by decide +kernel)) 10 (by decide +kernel) dX11_ticks_151 ?_
    obtain ⟨j164, hj164, h⟩ := op_j h
    have J164 : ∀ (y_22 : Int32) (H : Heap) (locs : List Loc) (ls : Array Slot), j164 y_22 = some (rR, rwR) → Rg D T A st (gMR T aM aA z rw_20) H locs → lv_has ls 6 [(0, .ref (aM 0)), (1, .ref aA), (4, .int r_21)] → W pr l en rmX11_ticks st mi ag bl me co H locs 0 0 (MQ bl (kQ (some (.int rR)) D (gMR T aM aA z rwR) A) ag st rmX11_ticks.cells rmX11_ticks.slots A) (F0 mi 164 ls [.int y_22, .int 10, .ref aA]) := by
      intro y_22 H locs ls h G hl
      rw [hj164] at h
      obtain ⟨rw_23, e9, h⟩ := op_st h
      refine k_iastN F G 5 rfl (kin (by decide +kernel)) 10 (by decide +kernel) dX11_ticks_164 (Wn := (gMR T aM aA z rw_23)) (by subst e9; rfl) (fun H locs G => ?_)
      clear e9
      refine lv_iconst (v := 0) F.1 F.2.1 dX11_ticks_165 (by decide) ?_
      refine lv_istore (lv' := [(5, .int 0), (0, .ref (aM 0)), (1, .ref aA), (4, .int r_21)]) F.1 F.2.1 dX11_ticks_166 hl (by decide) rfl (fun ls hl => ?_)
      have L168 : ∀ (z : Nat → Nat → Int32) (x4_24 : Int32) (K : (Nat → Int32) → Option (Int32 × (Nat → Int32))) (hK : ∀ (rw_27 : Nat → Int32) (H : Heap) (locs : List Loc) (ls : Array Slot), K rw_27 = some (rR, rwR) → Rg D T A st (gMR T aM aA z rw_27) H locs → lv_has ls 6 [(0, .ref (aM 0)), (1, .ref aA), (4, .int x4_24)] → W pr l en rmX11_ticks st mi ag bl me co H locs 0 0 (MQ bl (kQ (some (.int rR)) D (gMR T aM aA z rwR) A) ag st rmX11_ticks.cells rmX11_ticks.slots A) (F0 mi 207 ls [])) (n : Nat) (x5_25 : Int32) (rw_26 : Nat → Int32) (H : Heap) (locs : List Loc) (ls : Array Slot), qX11_ticks_L168 z x4_24 K n x5_25 rw_26 = some (rR, rwR) → Rg D T A st (gMR T aM aA z rw_26) H locs → lv_has ls 6 [(0, .ref (aM 0)), (1, .ref aA), (4, .int x4_24), (5, .int x5_25)] → W pr l en rmX11_ticks st mi ag bl me co H locs 0 0 (MQ bl (kQ (some (.int rR)) D (gMR T aM aA z rwR) A) ag st rmX11_ticks.cells rmX11_ticks.slots A) (F0 mi 168 ls []) := by
        intro z x4_24 K hK n
        induction n with
        | zero => intro x5_25 rw_26 H locs ls h; exact op_n h
        | succ n ih =>
          intro x5_25 rw_26 H locs ls h G hl
          rw [qX11_ticks_L168] at h
          refine lv_iload F.1 F.2.1 dX11_ticks_168 (lv_at hl 3 rfl) ?_
          refine lv_aload_n F.1 F.2.1 dX11_ticks_170 rfl (lv_at hl 0 rfl) ?_
          refine k_get F G 0 rfl (N := 35) (Tt := TX11) rfl kf11 1 (by decide) kl769 (v := .int (z 1 0)) rfl dX11_ticks_171 ?_
          refine lv_icmp_ge (tgt := 207) F.1 F.2.1 dX11_ticks_174 (by decide) (fun c => ?_) (fun c => ?_)
          · have h := op_t h c
            exact hK rw_26 _ _ _ h G (lv_sub hl [0, 1, 2] rfl)
          · have h := op_f h c
            refine lv_aload_n F.1 F.2.1 dX11_ticks_177 rfl (lv_at hl 1 rfl) ?_
            refine lv_iload F.1 F.2.1 dX11_ticks_178 (lv_at hl 3 rfl) ?_
            refine lv_iconst (v := 2) F.1 F.2.1 dX11_ticks_180 (by decide) ?_
            obtain ⟨r_28, hc, h⟩ := op_b h
            refine k_callS (rv := (some (.int r_28))) (Wc := ([] : va_W)) (W2 := ([] : va_W)) (Wn := (gMR T aM aA z rw_26)) (As := [.int x5_25, .int 2]) (rest := [.ref aA]) F G (mX11_at l D T x5_25 2 hc) (va_cwS 2 F.2.2.2.2 (kg_c kl786 (kg_c kl787 (kg_c kl788 (kg_c kl767 kg_a)))) rfl rfl rfl (by decide +kernel) ⟨Nat.le_of_ble_eq_true rfl, Nat.le_of_ble_eq_true rfl⟩) (kCut_0 G) rfl hl.1 rfl (Nat.le_of_ble_eq_true rfl) dX11_ticks_181 ⟨Nat.le_of_ble_eq_true rfl, Nat.le_of_ble_eq_true rfl⟩ (cN := 0) (sN := 0) ⟨rfl, rfl⟩ (fun H locs G => ?_)
            obtain ⟨c, h⟩ := op_g h
            refine k_iald F G 5 rfl c dX11_ticks_184 ?_
            refine lv_iconst (v := 2) F.1 F.2.1 dX11_ticks_185 (by decide) ?_
            obtain ⟨j201, hj201, h⟩ := op_j h
            have J201 : ∀ (rw_29 : Nat → Int32) (H : Heap) (locs : List Loc) (ls : Array Slot), j201 rw_29 = some (rR, rwR) → Rg D T A st (gMR T aM aA z rw_29) H locs → lv_has ls 6 [(0, .ref (aM 0)), (1, .ref aA), (4, .int x4_24), (5, .int x5_25)] → W pr l en rmX11_ticks st mi ag bl me co H locs 0 0 (MQ bl (kQ (some (.int rR)) D (gMR T aM aA z rwR) A) ag st rmX11_ticks.cells rmX11_ticks.slots A) (F0 mi 201 ls []) := by
              intro rw_29 H locs ls h G hl
              rw [hj201] at h
              refine lv_iinc (v := (x5_25 + 1)) (lv' := [(5, .int (x5_25 + 1)), (0, .ref (aM 0)), (1, .ref aA), (4, .int x4_24)]) F.1 F.2.1 dX11_ticks_201 hl (k := 3) rfl rfl (by decide) rfl (fun ls hl => ?_)
              refine lv_goto (tgt := 168) F.1 F.2.1 dX11_ticks_204 (by decide) ?_
              exact ih (x5_25 + 1) rw_29 _ _ _ h G (lv_sub hl [1, 2, 3, 0] rfl)
            clear hj201
            refine lv_icmp_ne (tgt := 201) F.1 F.2.1 dX11_ticks_186 (by decide) (fun c => ?_) (fun c => ?_)
            · have h := op_f h c
              exact J201 rw_26 _ _ _ h G hl
            · have h := op_t h c
              refine lv_aload_n F.1 F.2.1 dX11_ticks_189 rfl (lv_at hl 1 rfl) ?_
              refine lv_iload F.1 F.2.1 dX11_ticks_190 (lv_at hl 3 rfl) ?_
              refine lv_iconst (v := 3) F.1 F.2.1 dX11_ticks_192 (by decide) ?_
              obtain ⟨r_30, hc, h⟩ := op_b h
              refine k_callS (rv := (some (.int r_30))) (Wc := ([] : va_W)) (W2 := ([] : va_W)) (Wn := (gMR T aM aA z rw_26)) (As := [.int x5_25, .int 3]) (rest := [.ref aA]) F G (mX11_at l D T x5_25 3 hc) (va_cwS 2 F.2.2.2.2 (kg_c kl786 (kg_c kl787 (kg_c kl788 (kg_c kl767 kg_a)))) rfl rfl rfl (by decide +kernel) ⟨Nat.le_of_ble_eq_true rfl, Nat.le_of_ble_eq_true rfl⟩) (kCut_0 G) rfl hl.1 rfl (Nat.le_of_ble_eq_true rfl) dX11_ticks_193 ⟨Nat.le_of_ble_eq_true rfl, Nat.le_of_ble_eq_true rfl⟩ (cN := 0) (sN := 0) ⟨rfl, rfl⟩ (fun H locs G => ?_)
              refine lv_dup2_11 F.1 F.2.1 dX11_ticks_196 rfl rfl ?_
              obtain ⟨c, h⟩ := op_g h
              refine k_iald F G 5 rfl c dX11_ticks_197 ?_
              refine lv_iconst (v := 1) F.1 F.2.1 dX11_ticks_198 (by decide) ?_
              refine lv_isub F.1 F.2.1 dX11_ticks_199 ?_
              obtain ⟨c, h⟩ := op_g h
              obtain ⟨rw_31, e9, h⟩ := op_st h
              refine k_iast F G 5 rfl c dX11_ticks_200 (Wn := (gMR T aM aA z rw_31)) (by subst e9; rfl) (fun H locs G => ?_)
              clear e9
              exact J201 rw_31 _ _ _ h G hl
      refine L168 z r_21 _ (fun rw_27 H locs ls h G hl => ?_) fu 0 rw_23 _ _ _ h G (lv_sub hl [1, 2, 3, 0] rfl)
      clear L168
      refine lv_aload_n F.1 F.2.1 dX11_ticks_207 rfl (lv_at hl 1 rfl) ?_
      refine lv_iconst (v := 0) F.1 F.2.1 dX11_ticks_208 (by decide) ?_
      refine lv_dup2_11 F.1 F.2.1 dX11_ticks_209 rfl rfl ?_
      refine k_ialdN F G 5 rfl (kin (by decide +kernel)) 0 (by decide +kernel) dX11_ticks_210 ?_
      refine lv_iconst (v := 1) F.1 F.2.1 dX11_ticks_211 (by decide) ?_
      refine lv_iadd F.1 F.2.1 dX11_ticks_212 ?_
      obtain ⟨rw_32, e9, h⟩ := op_st h
      refine k_iastN F G 5 rfl (kin (by decide +kernel)) 0 (by decide +kernel) dX11_ticks_213 (Wn := (gMR T aM aA z rw_32)) (by subst e9; rfl) (fun H locs G => ?_)
      clear e9
      refine lv_iload F.1 F.2.1 dX11_ticks_214 (lv_at hl 2 rfl) ?_
      refine lv_aload_n F.1 F.2.1 dX11_ticks_216 rfl (lv_at hl 1 rfl) ?_
      refine lv_bipush (v := 6) F.1 F.2.1 dX11_ticks_217 (by decide) ?_
      refine k_ialdN F G 5 rfl (kin (by decide +kernel)) 6 (by decide +kernel) dX11_ticks_219 ?_
      refine lv_icmp_le (tgt := 236) F.1 F.2.1 dX11_ticks_220 (by decide) (fun c => ?_) (fun c => ?_)
      · have h := op_t h c
        refine lv_iload F.1 F.2.1 dX11_ticks_236 (lv_at hl 2 rfl) ?_
        obtain ⟨rfl, rfl⟩ := op_2 h
        exact k_iret F hr hlk G dX11_ticks_238
      · have h := op_f h c
        refine lv_aload_n F.1 F.2.1 dX11_ticks_223 rfl (lv_at hl 1 rfl) ?_
        refine lv_iconst (v := 3) F.1 F.2.1 dX11_ticks_224 (by decide) ?_
        refine lv_dup2_11 F.1 F.2.1 dX11_ticks_225 rfl rfl ?_
        refine k_ialdN F G 5 rfl (kin (by decide +kernel)) 3 (by decide +kernel) dX11_ticks_226 ?_
        refine lv_iconst (v := 1) F.1 F.2.1 dX11_ticks_227 (by decide) ?_
        refine lv_iadd F.1 F.2.1 dX11_ticks_228 ?_
        obtain ⟨rw_33, e9, h⟩ := op_st h
        refine k_iastN F G 5 rfl (kin (by decide +kernel)) 3 (by decide +kernel) dX11_ticks_229 (Wn := (gMR T aM aA z rw_33)) (by subst e9; rfl) (fun H locs G => ?_)
        clear e9
        refine lv_aload_n F.1 F.2.1 dX11_ticks_230 rfl (lv_at hl 0 rfl) ?_
        refine lv_aload_n F.1 F.2.1 dX11_ticks_231 rfl (lv_at hl 1 rfl) ?_
        refine lv_iconst (v := 5) F.1 F.2.1 dX11_ticks_232 (by decide) ?_
        obtain ⟨rw_34, hc, h⟩ := op_b h
        refine k_callV (rv := none) (Wc := (gMR T aM (aA) z rw_33)) (W2 := (gMR T aM (aA) z rw_34)) (Wn := (gMR T aM aA z rw_34)) (As := [.ref aA, .int 5]) (rest := []) F G (mX11_darkens l D T aM (aA) z rw_33 5 hc) (cwV 2 F.2.2.2.2 (kg_c kl960 (kg_c kl961 (kg_c kl962 (kg_c kl788 (kg_c kl925 kg_a))))) rfl rfl rfl (by decide +kernel) ⟨Nat.le_of_ble_eq_true rfl, Nat.le_of_ble_eq_true rfl⟩) 0 rfl (q := (RX11, TX11, 35)) rfl rfl (kCut_F G) rfl hl.1 rfl (Nat.le_of_ble_eq_true rfl) dX11_ticks_233 ⟨Nat.le_of_ble_eq_true rfl, Nat.le_of_ble_eq_true rfl⟩ (cN := 0) (sN := 0) ⟨rfl, rfl⟩ (fun H locs G => ?_)
        refine lv_iload F.1 F.2.1 dX11_ticks_236 (lv_at hl 2 rfl) ?_
        obtain ⟨rfl, rfl⟩ := op_2 h
        exact k_iret F hr hlk G dX11_ticks_238
    clear hj164
    refine lv_icmp_le (tgt := 160) F.1 F.2.1 dX11_ticks_152 (by decide) (fun c => ?_) (fun c => ?_)
    · have h := op_t h c
      refine lv_aload_n F.1 F.2.1 dX11_ticks_160 rfl (lv_at hl 3 rfl) ?_
      refine lv_bipush (v := 10) F.1 F.2.1 dX11_ticks_161 (by decide) ?_
      refine k_ialdN F G 5 rfl (kin (by decide +kernel)) 10 (by decide +kernel) dX11_ticks_163 ?_
      exact J164 (rw_20 10) _ _ _ h G (lv_sub hl [2, 3, 0] rfl)
    · have h := op_f h c
      refine lv_iload F.1 F.2.1 dX11_ticks_155 (lv_at hl 0 rfl) ?_
      refine lv_goto (tgt := 164) F.1 F.2.1 dX11_ticks_157 (by decide) ?_
      exact J164 r_21 _ _ _ h G (lv_sub hl [2, 3, 0] rfl)
  · have h := op_f h c
    refine lv_aload_n F.1 F.2.1 dX11_ticks_53 rfl (lv_at hl 1 rfl) ?_
    refine lv_iconst (v := 0) F.1 F.2.1 dX11_ticks_54 (by decide) ?_
    refine lv_dup2_11 F.1 F.2.1 dX11_ticks_55 rfl rfl ?_
    refine k_ialdN F G 5 rfl (kin (by decide +kernel)) 0 (by decide +kernel) dX11_ticks_56 ?_
    refine lv_iconst (v := 1) F.1 F.2.1 dX11_ticks_57 (by decide) ?_
    refine lv_iadd F.1 F.2.1 dX11_ticks_58 ?_
    obtain ⟨rw_35, e9, h⟩ := op_st h
    refine k_iastN F G 5 rfl (kin (by decide +kernel)) 0 (by decide +kernel) dX11_ticks_59 (Wn := (gMR T aM aA z rw_35)) (by subst e9; rfl) (fun H locs G => ?_)
    clear e9
    refine lv_iconst (v := 0) F.1 F.2.1 dX11_ticks_60 (by decide) ?_
    obtain ⟨rfl, rfl⟩ := op_2 h
    exact k_iret F hr hlk G dX11_ticks_61
abbrev rmX11_forgets : Room := ({ frames := 1, cells := 0, slots := 0, locals := 21 } : Room)
noncomputable def qX11_forgets_L4 (K : Int32 → (Nat → Int32) → Option (Int32 × (Nat → Int32))) : Nat → Int32 → Int32 → (Nat → Int32) → Option (Int32 × (Nat → Int32))
  | 0, _, _, _ => none
  | n + 1, x1_1, x2_2, rw_3 =>
    if 12 ≤ x2_2 then (K x1_1 rw_3) else bd (qX11_at x2_2 11) fun r_6 => gd (vp_in r_6 411) (bd (qX11_at x2_2 11) fun r_7 => gd (vp_in r_7 411) (bs (upd rw_3 r_7.toNatClampNeg 0) fun rw_8 => (qX11_forgets_L4 K n (x1_1 + (rw_3 r_6.toNatClampNeg)) (x2_2 + 1) rw_8)))

noncomputable def qX11_forgets (rw : Nat → Int32) : Option (Int32 × (Nat → Int32)) :=
  (qX11_forgets_L4   (fun (x1_4 : Int32) (rw_5 : Nat → Int32) => (bs (upd rw_5 13 0) fun rw_9 => some (x1_4, rw_9))) fu 0 0 rw)

set_option maxHeartbeats 4000000 in
set_option maxRecDepth 100000 in
theorem mX11_forgets (l : Launch) (D : va_G) (T : Nat → ClassId) (aA : Nat) (rw : Nat → Int32) {rR : Int32} {rwR : Nat → Int32} (hres : qX11_forgets rw = some (rR, rwR)) : Ct l yX11_forgets (Cond.code yX11_forgets cX11_forgets 3 (some .int) :: kAll) rmX11_forgets D T [.ref aA] (gFR T aA rw) (some (.int rR)) (gFR T aA rwR) := by
  refine Ct.of (cc := cX11_forgets) (maxL := 3) (ret := (some .int)) (by decide +kernel) rfl (Nat.le_of_ble_eq_true rfl) ?_
  intro pr en st mi ag bl me co A ls F hr hlk hnm G hl
  have hl : lv_has ls 3 [(0, .ref aA)] := hl
  have h := hres
  unfold qX11_forgets at h
  refine lv_iconst (v := 0) F.1 F.2.1 dX11_forgets_0 (by decide) ?_
  refine lv_istore_n (lv' := [(1, .int 0), (0, .ref aA)]) F.1 F.2.1 dX11_forgets_1 rfl hl (by decide) rfl (fun ls hl => ?_)
  refine lv_iconst (v := 0) F.1 F.2.1 dX11_forgets_2 (by decide) ?_
  refine lv_istore_n (lv' := [(2, .int 0), (1, .int 0), (0, .ref aA)]) F.1 F.2.1 dX11_forgets_3 rfl hl (by decide) rfl (fun ls hl => ?_)
  have L4 : ∀ (K : Int32 → (Nat → Int32) → Option (Int32 × (Nat → Int32))) (hK : ∀ (x1_4 : Int32) (rw_5 : Nat → Int32) (H : Heap) (locs : List Loc) (ls : Array Slot), K x1_4 rw_5 = some (rR, rwR) → Rg D T A st (gFR T aA rw_5) H locs → lv_has ls 3 [(0, .ref aA), (1, .int x1_4)] → W pr l en rmX11_forgets st mi ag bl me co H locs 0 0 (MQ bl (kQ (some (.int rR)) D (gFR T aA rwR) A) ag st rmX11_forgets.cells rmX11_forgets.slots A) (F0 mi 36 ls [])) (n : Nat) (x1_1 : Int32) (x2_2 : Int32) (rw_3 : Nat → Int32) (H : Heap) (locs : List Loc) (ls : Array Slot), qX11_forgets_L4 K n x1_1 x2_2 rw_3 = some (rR, rwR) → Rg D T A st (gFR T aA rw_3) H locs → lv_has ls 3 [(0, .ref aA), (1, .int x1_1), (2, .int x2_2)] → W pr l en rmX11_forgets st mi ag bl me co H locs 0 0 (MQ bl (kQ (some (.int rR)) D (gFR T aA rwR) A) ag st rmX11_forgets.cells rmX11_forgets.slots A) (F0 mi 4 ls []) := by
    intro K hK n
    induction n with
    | zero => intro x1_1 x2_2 rw_3 H locs ls h; exact op_n h
    | succ n ih =>
      intro x1_1 x2_2 rw_3 H locs ls h G hl
      rw [qX11_forgets_L4] at h
      refine lv_iload_n F.1 F.2.1 dX11_forgets_4 rfl (lv_at hl 2 rfl) ?_
      refine lv_bipush (v := 12) F.1 F.2.1 dX11_forgets_5 (by decide) ?_
      refine lv_icmp_ge (tgt := 36) F.1 F.2.1 dX11_forgets_7 (by decide) (fun c => ?_) (fun c => ?_)
      · have h := op_t h c
        exact hK x1_1 rw_3 _ _ _ h G (lv_sub hl [0, 1] rfl)
      · have h := op_f h c
        refine lv_iload_n F.1 F.2.1 dX11_forgets_10 rfl (lv_at hl 1 rfl) ?_
        refine lv_aload_n F.1 F.2.1 dX11_forgets_11 rfl (lv_at hl 0 rfl) ?_
        refine lv_iload_n F.1 F.2.1 dX11_forgets_12 rfl (lv_at hl 2 rfl) ?_
        refine lv_bipush (v := 11) F.1 F.2.1 dX11_forgets_13 (by decide) ?_
        obtain ⟨r_6, hc, h⟩ := op_b h
        refine k_callS (rv := (some (.int r_6))) (Wc := ([] : va_W)) (W2 := ([] : va_W)) (Wn := (gFR T aA rw_3)) (As := [.int x2_2, .int 11]) (rest := [.ref aA, .int x1_1]) F G (mX11_at l D T x2_2 11 hc) (va_cwS 2 F.2.2.2.2 (kg_c kl786 (kg_c kl787 (kg_c kl788 (kg_c kl767 kg_a)))) rfl rfl rfl (by decide +kernel) ⟨Nat.le_of_ble_eq_true rfl, Nat.le_of_ble_eq_true rfl⟩) (kCut_0 G) rfl hl.1 rfl (Nat.le_of_ble_eq_true rfl) dX11_forgets_15 ⟨Nat.le_of_ble_eq_true rfl, Nat.le_of_ble_eq_true rfl⟩ (cN := 0) (sN := 0) ⟨rfl, rfl⟩ (fun H locs G => ?_)
        obtain ⟨c, h⟩ := op_g h
        refine k_iald F G 0 rfl c dX11_forgets_18 ?_
        refine lv_iadd F.1 F.2.1 dX11_forgets_19 ?_
        refine lv_istore_n (lv' := [(1, .int (x1_1 + (rw_3 r_6.toNatClampNeg))), (0, .ref aA), (2, .int x2_2)]) F.1 F.2.1 dX11_forgets_20 rfl hl (by decide) rfl (fun ls hl => ?_)
        refine lv_aload_n F.1 F.2.1 dX11_forgets_21 rfl (lv_at hl 1 rfl) ?_
        refine lv_iload_n F.1 F.2.1 dX11_forgets_22 rfl (lv_at hl 2 rfl) ?_
        refine lv_bipush (v := 11) F.1 F.2.1 dX11_forgets_23 (by decide) ?_
        obtain ⟨r_7, hc, h⟩ := op_b h
        refine k_callS (rv := (some (.int r_7))) (Wc := ([] : va_W)) (W2 := ([] : va_W)) (Wn := (gFR T aA rw_3)) (As := [.int x2_2, .int 11]) (rest := [.ref aA]) F G (mX11_at l D T x2_2 11 hc) (va_cwS 2 F.2.2.2.2 (kg_c kl786 (kg_c kl787 (kg_c kl788 (kg_c kl767 kg_a)))) rfl rfl rfl (by decide +kernel) ⟨Nat.le_of_ble_eq_true rfl, Nat.le_of_ble_eq_true rfl⟩) (kCut_0 G) rfl hl.1 rfl (Nat.le_of_ble_eq_true rfl) dX11_forgets_25 ⟨Nat.le_of_ble_eq_true rfl, Nat.le_of_ble_eq_true rfl⟩ (cN := 0) (sN := 0) ⟨rfl, rfl⟩ (fun H locs G => ?_)
        refine lv_iconst (v := 0) F.1 F.2.1 dX11_forgets_28 (by decide) ?_
        obtain ⟨c, h⟩ := op_g h
        obtain ⟨rw_8, e9, h⟩ := op_st h
        refine k_iast F G 0 rfl c dX11_forgets_29 (Wn := (gFR T aA rw_8)) (by subst e9; rfl) (fun H locs G => ?_)
        clear e9
        refine lv_iinc (v := (x2_2 + 1)) (lv' := [(2, .int (x2_2 + 1)), (1, .int (x1_1 + (rw_3 r_6.toNatClampNeg))), (0, .ref aA)]) F.1 F.2.1 dX11_forgets_30 hl (k := 2) rfl rfl (by decide) rfl (fun ls hl => ?_)
        refine lv_goto (tgt := 4) F.1 F.2.1 dX11_forgets_33 (by decide) ?_
        exact ih (x1_1 + (rw_3 r_6.toNatClampNeg)) (x2_2 + 1) rw_8 _ _ _ h G (lv_sub hl [2, 1, 0] rfl)
  refine L4   _ (fun x1_4 rw_5 H locs ls h G hl => ?_) fu 0 0 rw _ _ _ h G (lv_sub hl [2, 1, 0] rfl)
  clear L4
  refine lv_aload_n F.1 F.2.1 dX11_forgets_36 rfl (lv_at hl 0 rfl) ?_
  refine lv_bipush (v := 13) F.1 F.2.1 dX11_forgets_37 (by decide) ?_
  refine lv_iconst (v := 0) F.1 F.2.1 dX11_forgets_39 (by decide) ?_
  obtain ⟨rw_9, e9, h⟩ := op_st h
  refine k_iastN F G 0 rfl (kin (by decide +kernel)) 13 (by decide +kernel) dX11_forgets_40 (Wn := (gFR T aA rw_9)) (by subst e9; rfl) (fun H locs G => ?_)
  clear e9
  refine lv_iload_n F.1 F.2.1 dX11_forgets_41 rfl (lv_at hl 1 rfl) ?_
  obtain ⟨rfl, rfl⟩ := op_2 h
  exact k_iret F hr hlk G dX11_forgets_42
