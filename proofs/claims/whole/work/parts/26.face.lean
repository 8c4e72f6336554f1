-- the face
abbrev rmX10_checkSlot : Room := ({ frames := 6, cells := 1, slots := 6, locals := 90 } : Room)
noncomputable def qX10_checkSlot (x0 : Int32) : Option (Nat) :=
  (jn (fun (_ : Unit) => some 2) fun j9 => if x0 < 0 then (j9 ()) else if x0 < 2 then some 0 else (j9 ()))

set_option maxHeartbeats 8000000 in
set_option maxRecDepth 100000 in
theorem mX10_checkSlot (l : Launch) (hst : l.stackTraces = false) (D : va_G) (T : Nat → ClassId) (x0 : Int32) {eR : Nat} (hres : qX10_checkSlot x0 = some (eR)) : Cx l yX10_checkSlot (Cond.code yX10_checkSlot cX10_checkSlot 1 none :: kAll) rmX10_checkSlot D T [.int x0] ([] : va_W) eR none ([] : va_W) := by
  refine Cx.of (cc := cX10_checkSlot) (maxL := 1) (ret := none) (by decide +kernel) rfl (Nat.le_of_ble_eq_true rfl) ?_
  intro pr en st mi ag bl me co A ls F hr hlk hex G hl
  have hl : lv_has ls 1 [(0, .int x0)] := hl
  have h := hres
  unfold qX10_checkSlot at h
  refine lv_iload_n F.1 F.2.1 dX10_checkSlot_0 rfl (lv_at hl 0 rfl) ?_
  obtain ⟨j9, hj9, h⟩ := op_j h
  have J9 : ∀ (H : Heap) (locs : List Loc) (ls : Array Slot), j9 () = some (eR) → Rg D T A st ([] : va_W) H locs → lv_has ls 1 [] → W pr l en rmX10_checkSlot st mi ag bl me co H locs 0 0 (vx_MQ bl (kQx eR none D ([] : va_W) A) (kXx eR D ([] : va_W) A) ag st rmX10_checkSlot.cells rmX10_checkSlot.slots A) (F0 mi 9 ls []) := by
    intro H locs ls h G hl
    rw [hj9] at h
    obtain rfl := op_1 h
    obtain ⟨sa, hsa⟩ := kx_msg G 13 rfl
    exact vx_throwSW (own := RX10) (cls := "java/lang/IndexOutOfBoundsException") (text := "no such slot") (names := kNms) (ik := 69) (is := 362) (ic := 73) (mc := rmX10_checkSlot.cells) (ms := rmX10_checkSlot.slots) F.1 F.2.1 hst F.2.2.2.1 kx_f2 kx_nms (F.2.2.2.2 _ kl615) (F.2.2.2.2 _ kl616) hsa (kx_hat F G kxi1 kx_b2 (by decide +kernel)) kx_g2 G.2.2.2.2.1.2.2.2.2.1 G.2.2.2.2.1.2.2.2.2.2.1 G.2.2.2.1 (hl.1.trans F.2.2.1.symm) dX10_checkSlot_9 dX10_checkSlot_12 dX10_checkSlot_13 dX10_checkSlot_16 dX10_checkSlot_19 (fun x hx => (hex x hx).elim) (Nat.le_of_ble_eq_true rfl) (Nat.le_of_ble_eq_true rfl) (Nat.le_of_ble_eq_true rfl) (Nat.le_of_ble_eq_true rfl) hlk (kx_after G (by decide)) G.2.2.2.1.2.2 (Nat.le_of_ble_eq_true rfl) (Nat.le_of_ble_eq_true rfl)
  clear hj9
  refine lv_if_lt (tgt := 9) F.1 F.2.1 dX10_checkSlot_1 (by decide) (fun c => ?_) (fun c => ?_)
  · have h := op_t h c
    exact J9 _ _ _ h G (lv_sub hl [] rfl)
  · have h := op_f h c
    refine lv_iload_n F.1 F.2.1 dX10_checkSlot_4 rfl (lv_at hl 0 rfl) ?_
    refine lv_iconst (v := 2) F.1 F.2.1 dX10_checkSlot_5 (by decide) ?_
    refine lv_icmp_lt (tgt := 20) F.1 F.2.1 dX10_checkSlot_6 (by decide) (fun c => ?_) (fun c => ?_)
    · have h := op_t h c
      obtain rfl := op_1 h
      refine W.widen (k := 1) (n := 6) (Nat.le_of_ble_eq_true rfl) (Nat.le_of_ble_eq_true rfl) ?_
      exact kx_ret (k_vret F hr hlk G dX10_checkSlot_20)
    · have h := op_f h c
      exact J9 _ _ _ h G (lv_sub hl [] rfl)
abbrev rmX10_checkRange : Room := ({ frames := 6, cells := 1, slots := 6, locals := 90 } : Room)
noncomputable def qX10_checkRange (x0 : Int32) (x1 : Int32) (x2 : Int32) : Option (Nat) :=
  (jn (fun (_ : Unit) => some 3) fun j10 => if x0 < x1 then (j10 ()) else if x0 ≤ x2 then some 0 else (j10 ()))

set_option maxHeartbeats 8000000 in
set_option maxRecDepth 100000 in
theorem mX10_checkRange (l : Launch) (hst : l.stackTraces = false) (D : va_G) (T : Nat → ClassId) (x0 : Int32) (x1 : Int32) (x2 : Int32) {eR : Nat} (hres : qX10_checkRange x0 x1 x2 = some (eR)) : Cx l yX10_checkRange (Cond.code yX10_checkRange cX10_checkRange 3 none :: kAll) rmX10_checkRange D T [.int x0, .int x1, .int x2] ([] : va_W) eR none ([] : va_W) := by
  refine Cx.of (cc := cX10_checkRange) (maxL := 3) (ret := none) (by decide +kernel) rfl (Nat.le_of_ble_eq_true rfl) ?_
  intro pr en st mi ag bl me co A ls F hr hlk hex G hl
  have hl : lv_has ls 3 [(0, .int x0), (1, .int x1), (2, .int x2)] := hl
  have h := hres
  unfold qX10_checkRange at h
  refine lv_iload_n F.1 F.2.1 dX10_checkRange_0 rfl (lv_at hl 0 rfl) ?_
  refine lv_iload_n F.1 F.2.1 dX10_checkRange_1 rfl (lv_at hl 1 rfl) ?_
  obtain ⟨j10, hj10, h⟩ := op_j h
  have J10 : ∀ (H : Heap) (locs : List Loc) (ls : Array Slot), j10 () = some (eR) → Rg D T A st ([] : va_W) H locs → lv_has ls 3 [] → W pr l en rmX10_checkRange st mi ag bl me co H locs 0 0 (vx_MQ bl (kQx eR none D ([] : va_W) A) (kXx eR D ([] : va_W) A) ag st rmX10_checkRange.cells rmX10_checkRange.slots A) (F0 mi 10 ls []) := by
    intro H locs ls h G hl
    rw [hj10] at h
    obtain rfl := op_1 h
    obtain ⟨sa, hsa⟩ := kx_msg G 14 rfl
    exact vx_throwSW (own := RX10) (cls := "java/lang/IllegalArgumentException") (text := "out of range") (names := kNms) (ik := 78) (is := 364) (ic := 82) (mc := rmX10_checkRange.cells) (ms := rmX10_checkRange.slots) F.1 F.2.1 hst F.2.2.2.1 kx_f3 kx_nms (F.2.2.2.2 _ kl618) (F.2.2.2.2 _ kl619) hsa (kx_hat F G kxi2 kx_b3 (by decide +kernel)) kx_g3 G.2.2.2.2.1.2.2.2.2.1 G.2.2.2.2.1.2.2.2.2.2.1 G.2.2.2.1 (hl.1.trans F.2.2.1.symm) dX10_checkRange_10 dX10_checkRange_13 dX10_checkRange_14 dX10_checkRange_17 dX10_checkRange_20 (fun x hx => (hex x hx).elim) (Nat.le_of_ble_eq_true rfl) (Nat.le_of_ble_eq_true rfl) (Nat.le_of_ble_eq_true rfl) (Nat.le_of_ble_eq_true rfl) hlk (kx_after G (by decide)) G.2.2.2.1.2.2 (Nat.le_of_ble_eq_true rfl) (Nat.le_of_ble_eq_true rfl)
  clear hj10
  refine lv_icmp_lt (tgt := 10) F.1 F.2.1 dX10_checkRange_2 (by decide) (fun c => ?_) (fun c => ?_)
  · have h := op_t h c
    exact J10 _ _ _ h G (lv_sub hl [] rfl)
  · have h := op_f h c
    refine lv_iload_n F.1 F.2.1 dX10_checkRange_5 rfl (lv_at hl 0 rfl) ?_
    refine lv_iload_n F.1 F.2.1 dX10_checkRange_6 rfl (lv_at hl 2 rfl) ?_
    refine lv_icmp_le (tgt := 21) F.1 F.2.1 dX10_checkRange_7 (by decide) (fun c => ?_) (fun c => ?_)
    · have h := op_t h c
      obtain rfl := op_1 h
      refine W.widen (k := 1) (n := 6) (Nat.le_of_ble_eq_true rfl) (Nat.le_of_ble_eq_true rfl) ?_
      exact kx_ret (k_vret F hr hlk G dX10_checkRange_21)
    · have h := op_f h c
      exact J10 _ _ _ h G (lv_sub hl [] rfl)
abbrev rmX10_checkOutlet : Room := ({ frames := 6, cells := 1, slots := 6, locals := 90 } : Room)
noncomputable def qX10_checkOutlet (tx : Nat → Nat → Int32) (ps : Nat → Nat → Int32) (nm : Nat → Int64) (v : Nat → Nat → Int32) (vn : Nat → Int64) (hs : Nat → Nat → Int32) (ww : Nat → Nat → Nat → Int32) (x1 : Int32) : Option (Nat) :=
  (jn (fun (_ : Unit) => some 2) fun j15 => if x1 < 0 then (j15 ()) else if x1 < (v 0 0) then some 0 else (j15 ()))

set_option maxHeartbeats 8000000 in
set_option maxRecDepth 100000 in
theorem mX10_checkOutlet (l : Launch) (hst : l.stackTraces = false) (D : va_G) (T : Nat → ClassId) (aF : Nat → Nat) (aR : Nat → Nat) (aD : Nat → Nat) (aP : Nat → Nat) (aH : Nat → Nat) (aW : Nat → Nat → Nat) (tx : Nat → Nat → Int32) (ps : Nat → Nat → Int32) (nm : Nat → Int64) (v : Nat → Nat → Int32) (vn : Nat → Int64) (hs : Nat → Nat → Int32) (ww : Nat → Nat → Nat → Int32) (x1 : Int32) {eR : Nat} (hres : qX10_checkOutlet tx ps nm v vn hs ww x1 = some (eR)) : Cx l yX10_checkOutlet (Cond.code yX10_checkOutlet cX10_checkOutlet 2 none :: kAll) rmX10_checkOutlet D T [.ref (aF 0), .int x1] (gU T aF aR aD aP aH aW tx ps nm v vn hs ww) eR none (gU T aF aR aD aP aH aW tx ps nm v vn hs ww) := by
  refine Cx.of (cc := cX10_checkOutlet) (maxL := 2) (ret := none) (by decide +kernel) rfl (Nat.le_of_ble_eq_true rfl) ?_
  intro pr en st mi ag bl me co A ls F hr hlk hex G hl
  have hl : lv_has ls 2 [(0, .ref (aF 0)), (1, .int x1)] := hl
  have h := hres
  unfold qX10_checkOutlet at h
  refine lv_iload_n F.1 F.2.1 dX10_checkOutlet_0 rfl (lv_at hl 1 rfl) ?_
  obtain ⟨j15, hj15, h⟩ := op_j h
  have J15 : ∀ (H : Heap) (locs : List Loc) (ls : Array Slot), j15 () = some (eR) → Rg D T A st (gU T aF aR aD aP aH aW tx ps nm v vn hs ww) H locs → lv_has ls 2 [] → W pr l en rmX10_checkOutlet st mi ag bl me co H locs 0 0 (vx_MQ bl (kQx eR none D (gU T aF aR aD aP aH aW tx ps nm v vn hs ww) A) (kXx eR D (gU T aF aR aD aP aH aW tx ps nm v vn hs ww) A) ag st rmX10_checkOutlet.cells rmX10_checkOutlet.slots A) (F0 mi 15 ls []) := by
    intro H locs ls h G hl
    rw [hj15] at h
    obtain rfl := op_1 h
    obtain ⟨sa, hsa⟩ := kx_msg G 12 rfl
    exact vx_throwSW (own := RX10) (cls := "java/lang/IndexOutOfBoundsException") (text := "no such outlet") (names := kNms) (ik := 69) (is := 360) (ic := 73) (mc := rmX10_checkOutlet.cells) (ms := rmX10_checkOutlet.slots) F.1 F.2.1 hst F.2.2.2.1 kx_f2 kx_nms (F.2.2.2.2 _ kl615) (F.2.2.2.2 _ kl616) hsa (kx_hat F G kxi1 kx_b2 (by decide +kernel)) kx_g2 G.2.2.2.2.1.2.2.2.2.1 G.2.2.2.2.1.2.2.2.2.2.1 G.2.2.2.1 (hl.1.trans F.2.2.1.symm) dX10_checkOutlet_15 dX10_checkOutlet_18 dX10_checkOutlet_19 dX10_checkOutlet_22 dX10_checkOutlet_25 (fun x hx => (hex x hx).elim) (Nat.le_of_ble_eq_true rfl) (Nat.le_of_ble_eq_true rfl) (Nat.le_of_ble_eq_true rfl) (Nat.le_of_ble_eq_true rfl) hlk (kx_after G (by decide)) G.2.2.2.1.2.2 (Nat.le_of_ble_eq_true rfl) (Nat.le_of_ble_eq_true rfl)
  clear hj15
  refine lv_if_lt (tgt := 15) F.1 F.2.1 dX10_checkOutlet_1 (by decide) (fun c => ?_) (fun c => ?_)
  · have h := op_t h c
    exact J15 _ _ _ h G (lv_sub hl [] rfl)
  · have h := op_f h c
    refine lv_iload_n F.1 F.2.1 dX10_checkOutlet_4 rfl (lv_at hl 1 rfl) ?_
    refine lv_aload_n F.1 F.2.1 dX10_checkOutlet_5 rfl (lv_at hl 0 rfl) ?_
    refine kg_get F G 0 0 (by decide) rfl (N := 6) (Tt := TX10) rfl kf10 2 (by decide) kl589 (v := .ref (aP 0)) rfl dX10_checkOutlet_6 ?_
    refine kg_get F G 4 0 (by decide) rfl (N := 18) (Tt := TX5) rfl kf5 0 (by decide) kl621 (v := .int (v 0 0)) rfl dX10_checkOutlet_9 ?_
    refine lv_icmp_lt (tgt := 26) F.1 F.2.1 dX10_checkOutlet_12 (by decide) (fun c => ?_) (fun c => ?_)
    · have h := op_t h c
      obtain rfl := op_1 h
      refine W.widen (k := 1) (n := 6) (Nat.le_of_ble_eq_true rfl) (Nat.le_of_ble_eq_true rfl) ?_
      exact kx_ret (k_vret F hr hlk G dX10_checkOutlet_26)
    · have h := op_f h c
      exact J15 _ _ _ h G (lv_sub hl [] rfl)
abbrev rmX10_ticksUntilRunning : Room := ({ frames := 6, cells := 1, slots := 6, locals := 127 } : Room)
noncomputable def qX10_ticksUntilRunning_L2 (tx : Nat → Nat → Int32) (ps : Nat → Nat → Int32) (nm : Nat → Int64) (v : Nat → Nat → Int32) (vn : Nat → Int64) (hs : Nat → Nat → Int32) (x1_1 : Int32) (K : (Nat → Nat → Nat → Int32) → Option (Nat × Int32 × (Nat → Nat → Nat → Int32))) : Nat → Int32 → (Nat → Nat → Nat → Int32) → Option (Nat × Int32 × (Nat → Nat → Nat → Int32))
  | 0, _, _ => none
  | n + 1, x2_2, ww_3 =>
    if 500 < x2_2 then (K ww_3) else bd (qX2_inState v (ww_3 1) 3) fun r_5 => if (x1_1 &&& (r_5 ^^^ (-1))) = 0 then some (0, x2_2, ww_3) else bd (qX9_passTick v (ww_3 1)) fun w_6 => (bs (va_up ww_3 1 w_6) fun ww_7 => (qX10_ticksUntilRunning_L2 tx ps nm v vn hs x1_1 K n (x2_2 + 1) ww_7))

noncomputable def qX10_ticksUntilRunning (tx : Nat → Nat → Int32) (ps : Nat → Nat → Int32) (nm : Nat → Int64) (v : Nat → Nat → Int32) (vn : Nat → Int64) (hs : Nat → Nat → Int32) (ww : Nat → Nat → Nat → Int32) (x1 : Int32) : Option (Nat × Int32 × (Nat → Nat → Nat → Int32)) :=
  (qX10_ticksUntilRunning_L2 tx ps nm v vn hs x1 (fun (ww_4 : Nat → Nat → Nat → Int32) => some (4, 0, ww_4)) fu 0 ww)

set_option maxHeartbeats 8000000 in
set_option maxRecDepth 100000 in
theorem mX10_ticksUntilRunning (l : Launch) (hst : l.stackTraces = false) (D : va_G) (T : Nat → ClassId) (aF : Nat → Nat) (aR : Nat → Nat) (aD : Nat → Nat) (aP : Nat → Nat) (aH : Nat → Nat) (aW : Nat → Nat → Nat) (tx : Nat → Nat → Int32) (ps : Nat → Nat → Int32) (nm : Nat → Int64) (v : Nat → Nat → Int32) (vn : Nat → Int64) (hs : Nat → Nat → Int32) (ww : Nat → Nat → Nat → Int32) (x1 : Int32) {eR : Nat} {rR : Int32} {wwR : Nat → Nat → Nat → Int32} (hres : qX10_ticksUntilRunning tx ps nm v vn hs ww x1 = some (eR, rR, wwR)) : Cx l yX10_ticksUntilRunning (Cond.code yX10_ticksUntilRunning cX10_ticksUntilRunning 3 (some .int) :: kAll) rmX10_ticksUntilRunning D T [.ref (aF 0), .int x1] (gU T aF aR aD aP aH aW tx ps nm v vn hs ww) eR (some (.int rR)) (gU T aF aR aD aP aH aW tx ps nm v vn hs wwR) := by
  refine Cx.of (cc := cX10_ticksUntilRunning) (maxL := 3) (ret := (some .int)) (by decide +kernel) rfl (Nat.le_of_ble_eq_true rfl) ?_
  intro pr en st mi ag bl me co A ls F hr hlk hex G hl
  have hl : lv_has ls 3 [(0, .ref (aF 0)), (1, .int x1)] := hl
  have h := hres
  unfold qX10_ticksUntilRunning at h
  refine lv_iconst (v := 0) F.1 F.2.1 dX10_ticksUntilRunning_0 (by decide) ?_
  refine lv_istore_n (lv' := [(2, .int 0), (0, .ref (aF 0)), (1, .int x1)]) F.1 F.2.1 dX10_ticksUntilRunning_1 rfl hl (by decide) rfl (fun ls hl => ?_)
  have L2 : ∀ (tx : Nat → Nat → Int32) (ps : Nat → Nat → Int32) (nm : Nat → Int64) (v : Nat → Nat → Int32) (vn : Nat → Int64) (hs : Nat → Nat → Int32) (x1_1 : Int32) (K : (Nat → Nat → Nat → Int32) → Option (Nat × Int32 × (Nat → Nat → Nat → Int32))) (hK : ∀ (ww_4 : Nat → Nat → Nat → Int32) (H : Heap) (locs : List Loc) (ls : Array Slot), K ww_4 = some (eR, rR, wwR) → Rg D T A st (gU T aF aR aD aP aH aW tx ps nm v vn hs ww_4) H locs → lv_has ls 3 [] → W pr l en rmX10_ticksUntilRunning st mi ag bl me co H locs 0 0 (vx_MQ bl (kQx eR (some (.int rR)) D (gU T aF aR aD aP aH aW tx ps nm v vn hs wwR) A) (kXx eR D (gU T aF aR aD aP aH aW tx ps nm v vn hs wwR) A) ag st rmX10_ticksUntilRunning.cells rmX10_ticksUntilRunning.slots A) (F0 mi 42 ls [])) (n : Nat) (x2_2 : Int32) (ww_3 : Nat → Nat → Nat → Int32) (H : Heap) (locs : List Loc) (ls : Array Slot), qX10_ticksUntilRunning_L2 tx ps nm v vn hs x1_1 K n x2_2 ww_3 = some (eR, rR, wwR) → Rg D T A st (gU T aF aR aD aP aH aW tx ps nm v vn hs ww_3) H locs → lv_has ls 3 [(0, .ref (aF 0)), (1, .int x1_1), (2, .int x2_2)] → W pr l en rmX10_ticksUntilRunning st mi ag bl me co H locs 0 0 (vx_MQ bl (kQx eR (some (.int rR)) D (gU T aF aR aD aP aH aW tx ps nm v vn hs wwR) A) (kXx eR D (gU T aF aR aD aP aH aW tx ps nm v vn hs wwR) A) ag st rmX10_ticksUntilRunning.cells rmX10_ticksUntilRunning.slots A) (F0 mi 2 ls []) := by
    intro tx ps nm v vn hs x1_1 K hK n
    induction n with
    | zero => intro x2_2 ww_3 H locs ls h; exact op_n h
    | succ n ih =>
      intro x2_2 ww_3 H locs ls h G hl
      rw [qX10_ticksUntilRunning_L2] at h
      refine lv_iload_n F.1 F.2.1 dX10_ticksUntilRunning_2 rfl (lv_at hl 2 rfl) ?_
      refine lv_sipush (v := 500) F.1 F.2.1 dX10_ticksUntilRunning_3 (by decide) ?_
      refine lv_icmp_gt (tgt := 42) F.1 F.2.1 dX10_ticksUntilRunning_6 (by decide) (fun c => ?_) (fun c => ?_)
      · have h := op_t h c
        exact hK ww_3 _ _ _ h G (lv_sub hl [] rfl)
      · have h := op_f h c
        refine lv_iload_n F.1 F.2.1 dX10_ticksUntilRunning_9 rfl (lv_at hl 1 rfl) ?_
        refine lv_aload_n F.1 F.2.1 dX10_ticksUntilRunning_10 rfl (lv_at hl 0 rfl) ?_
        refine kg_get F G 0 0 (by decide) rfl (N := 6) (Tt := TX10) rfl kf10 4 (by decide) kl592 (v := .ref (aW 1 0)) rfl dX10_ticksUntilRunning_11 ?_
        refine kg_get F G 8 0 (by decide) rfl (N := 14) (Tt := TX9) rfl kf9 1 (by decide) kl101 (v := .ref (aW 1 2)) rfl dX10_ticksUntilRunning_14 ?_
        refine lv_iconst (v := 3) F.1 F.2.1 dX10_ticksUntilRunning_17 (by decide) ?_
        obtain ⟨r_5, hc, h⟩ := op_b h
        refine k_callVR (rv := (some (.int r_5))) (Wc := (gW T aP (aW 1) v (ww_3 1))) (W2 := (gW T aP (aW 1) v (ww_3 1))) (Wn := (gU T aF aR aD aP aH aW tx ps nm v vn hs ww_3)) (As := [.int 3]) (rest := [.int x1_1]) F G (mX2_inState l D T aP (aW 1) v (ww_3 1) 3 hc) (cwV 1 F.2.2.2.2 (kg_c kl687 (kg_c kl688 (kg_c kl689 (kg_c kl42 (kg_c kl138 kg_a))))) rfl rfl rfl (by decide +kernel) ⟨Nat.le_of_ble_eq_true rfl, Nat.le_of_ble_eq_true rfl⟩) (kg_recv G 8 2 (by decide) rfl (q := (RX2, TX2, 9)) rfl) (kCut_g (g' := (gFc T aF aR aD aP aH aW tx ps nm v vn hs ww_3)) [4, 8] G (by decide) (by decide) (gF_same [4, 8] (Or.inr rfl) (Or.inr ⟨rfl, rfl⟩) (Or.inr ⟨rfl, rfl⟩) (Or.inr rfl) (fun _ => Or.inr rfl)) gF_addr) rfl hl.1 rfl (Nat.le_of_ble_eq_true rfl) dX10_ticksUntilRunning_18 ⟨Nat.le_of_ble_eq_true rfl, Nat.le_of_ble_eq_true rfl⟩ (cN := 0) (sN := 0) ⟨rfl, rfl⟩ (fun H locs G => ?_)
        refine lv_iconst (v := (-1)) F.1 F.2.1 dX10_ticksUntilRunning_21 (by decide) ?_
        refine lv_ixor F.1 F.2.1 dX10_ticksUntilRunning_22 ?_
        refine lv_iand F.1 F.2.1 dX10_ticksUntilRunning_23 ?_
        refine lv_if_ne (tgt := 29) F.1 F.2.1 dX10_ticksUntilRunning_24 (by decide) (fun c => ?_) (fun c => ?_)
        · have h := op_f h c
          refine lv_aload_n F.1 F.2.1 dX10_ticksUntilRunning_29 rfl (lv_at hl 0 rfl) ?_
          refine kg_get F G 0 0 (by decide) rfl (N := 6) (Tt := TX10) rfl kf10 4 (by decide) kl592 (v := .ref (aW 1 0)) rfl dX10_ticksUntilRunning_30 ?_
          obtain ⟨w_6, hc, h⟩ := op_b h
          obtain ⟨ww_7, e9, h⟩ := op_st h
          refine k_callVR (rv := none) (Wc := (gW T aP (aW 1) v (ww_3 1))) (W2 := (gW T aP (aW 1) v w_6)) (Wn := (gU T aF aR aD aP aH aW tx ps nm v vn hs ww_7)) (As := []) (rest := []) F G (mX9_passTick l D T aP (aW 1) v (ww_3 1) hc) (cwV 0 F.2.2.2.2 (kg_c kl713 (kg_c kl577 (kg_c kl578 (kg_c kl64 (kg_c kl547 kg_a))))) rfl rfl rfl (by decide +kernel) ⟨Nat.le_of_ble_eq_true rfl, Nat.le_of_ble_eq_true rfl⟩) (kg_recv G 8 0 (by decide) rfl (q := (RX9, TX9, 14)) rfl) (by subst e9; exact kCut_g (g' := (gFc T aF aR aD aP aH aW tx ps nm v vn hs (va_up ww_3 1 w_6))) [4, 8] G (by decide) (by decide) (gF_same [4, 8] (Or.inr rfl) (Or.inr ⟨rfl, rfl⟩) (Or.inr ⟨rfl, rfl⟩) (Or.inr rfl) (gW_up 1 _ 7 (by simp))) gF_addr) rfl hl.1 rfl (Nat.le_of_ble_eq_true rfl) dX10_ticksUntilRunning_33 ⟨Nat.le_of_ble_eq_true rfl, Nat.le_of_ble_eq_true rfl⟩ (cN := 0) (sN := 0) ⟨rfl, rfl⟩ (fun H locs G => ?_)
          clear e9
          refine lv_iinc (v := (x2_2 + 1)) (lv' := [(2, .int (x2_2 + 1)), (0, .ref (aF 0)), (1, .int x1_1)]) F.1 F.2.1 dX10_ticksUntilRunning_36 hl (k := 2) rfl rfl (by decide) rfl (fun ls hl => ?_)
          refine lv_goto (tgt := 2) F.1 F.2.1 dX10_ticksUntilRunning_39 (by decide) ?_
          exact ih (x2_2 + 1) ww_7 _ _ _ h G (lv_sub hl [1, 2, 0] rfl)
        · have h := op_t h c
          refine lv_iload_n F.1 F.2.1 dX10_ticksUntilRunning_27 rfl (lv_at hl 2 rfl) ?_
          obtain ⟨rfl, rfl, rfl⟩ := op_3 h
          refine W.widen (k := 1) (n := 6) (Nat.le_of_ble_eq_true rfl) (Nat.le_of_ble_eq_true rfl) ?_
          exact kx_ret (k_iret F hr hlk G dX10_ticksUntilRunning_28)
  refine L2 tx ps nm v vn hs x1 _ (fun ww_4 H locs ls h G hl => ?_) fu 0 ww _ _ _ h G (lv_sub hl [1, 2, 0] rfl)
  clear L2
  obtain ⟨rfl, rfl, rfl⟩ := op_3 h
  obtain ⟨sa, hsa⟩ := kx_msg G 15 rfl
  exact vy_throwSW (own := RX10) (cls := "java/util/NoSuchElementException") (text := "not in the ticks that are asked") (YY := "java/lang/RuntimeException") (names := ["java/lang/Exception"]) (ik := 112) (is := 369) (ic := 116) (mc := rmX10_ticksUntilRunning.cells) (ms := rmX10_ticksUntilRunning.slots) F.1 F.2.1 hst F.2.2.2.1 kx_f4 kx_fR kx_nmE (F.2.2.2.2 _ kl639) (F.2.2.2.2 _ kl640) hsa (kx_hat F G kxi3 kx_b4 (by decide +kernel)) kx_g4 G.2.2.2.2.1.2.2.2.2.1 G.2.2.2.2.1.2.2.2.2.2.1 G.2.2.2.1 (hl.1.trans F.2.2.1.symm) dX10_ticksUntilRunning_42 dX10_ticksUntilRunning_45 dX10_ticksUntilRunning_46 dX10_ticksUntilRunning_49 dX10_ticksUntilRunning_52 (fun x hx => (hex x hx).elim) (Nat.le_of_ble_eq_true rfl) (Nat.le_of_ble_eq_true rfl) (Nat.le_of_ble_eq_true rfl) (Nat.le_of_ble_eq_true rfl) hlk (kx_after G (by decide)) G.2.2.2.1.2.2 (Nat.le_of_ble_eq_true rfl) (Nat.le_of_ble_eq_true rfl)
abbrev rmX10_append : Room := ({ frames := 6, cells := 1, slots := 6, locals := 90 } : Room)
noncomputable def qX10_append (tx : Nat → Nat → Int32) (ps : Nat → Nat → Int32) (nm : Nat → Int64) (v : Nat → Nat → Int32) (vn : Nat → Int64) (hs : Nat → Nat → Int32) (ww : Nat → Nat → Nat → Int32) (x1 : Int32) (x2 : Int32) (x3 : Int32) (x4 : Int32) (x5 : Int32) : Option (Nat × Int32 × (Nat → Nat → Int32)) :=
  if ((tx 0 0) + 20) ≤ 900 then bd (qX6_addBytes tx x1) fun tx_1 => bd (qX6_addBytes tx_1 x2) fun tx_2 => bd (qX6_addBytes tx_2 x3) fun tx_3 => bd (qX6_addBytes tx_3 x4) fun tx_4 => bd (qX6_addBytes tx_4 x5) fun tx_5 => some (0, (tx_5 0 0), tx_5) else some (1, 0, tx)

set_option maxHeartbeats 8000000 in
set_option maxRecDepth 100000 in
theorem mX10_append (l : Launch) (hst : l.stackTraces = false) (D : va_G) (T : Nat → ClassId) (aF : Nat → Nat) (aR : Nat → Nat) (aD : Nat → Nat) (aP : Nat → Nat) (aH : Nat → Nat) (aW : Nat → Nat → Nat) (tx : Nat → Nat → Int32) (ps : Nat → Nat → Int32) (nm : Nat → Int64) (v : Nat → Nat → Int32) (vn : Nat → Int64) (hs : Nat → Nat → Int32) (ww : Nat → Nat → Nat → Int32) (x1 : Int32) (x2 : Int32) (x3 : Int32) (x4 : Int32) (x5 : Int32) {eR : Nat} {rR : Int32} {txR : Nat → Nat → Int32} (hres : qX10_append tx ps nm v vn hs ww x1 x2 x3 x4 x5 = some (eR, rR, txR)) : Cx l yX10_append (Cond.code yX10_append cX10_append 6 (some .int) :: kAll) rmX10_append D T [.ref (aF 0), .int x1, .int x2, .int x3, .int x4, .int x5] (gU T aF aR aD aP aH aW tx ps nm v vn hs ww) eR (some (.int rR)) (gU T aF aR aD aP aH aW txR ps nm v vn hs ww) := by
  refine Cx.of (cc := cX10_append) (maxL := 6) (ret := (some .int)) (by decide +kernel) rfl (Nat.le_of_ble_eq_true rfl) ?_
  intro pr en st mi ag bl me co A ls F hr hlk hex G hl
  have hl : lv_has ls 6 [(0, .ref (aF 0)), (1, .int x1), (2, .int x2), (3, .int x3), (4, .int x4), (5, .int x5)] := hl
  have h := hres
  unfold qX10_append at h
  refine lv_aload_n F.1 F.2.1 dX10_append_0 rfl (lv_at hl 0 rfl) ?_
  refine kg_get F G 0 0 (by decide) rfl (N := 6) (Tt := TX10) rfl kf10 0 (by decide) kl584 (v := .ref (aR 0)) rfl dX10_append_1 ?_
  refine kg_get F G 1 0 (by decide) rfl (N := 2) (Tt := TX6) rfl kf6 1 (by decide) kl610 (v := .int (tx 0 0)) rfl dX10_append_4 ?_
  refine lv_bipush (v := 20) F.1 F.2.1 dX10_append_7 (by decide) ?_
  refine lv_iadd F.1 F.2.1 dX10_append_9 ?_
  refine lv_sipush (v := 900) F.1 F.2.1 dX10_append_10 (by decide) ?_
  refine lv_icmp_le (tgt := 26) F.1 F.2.1 dX10_append_13 (by decide) (fun c => ?_) (fun c => ?_)
  · have h := op_t h c
    refine lv_aload_n F.1 F.2.1 dX10_append_26 rfl (lv_at hl 0 rfl) ?_
    refine kg_get F G 0 0 (by decide) rfl (N := 6) (Tt := TX10) rfl kf10 0 (by decide) kl584 (v := .ref (aR 0)) rfl dX10_append_27 ?_
    refine lv_iload_n F.1 F.2.1 dX10_append_30 rfl (lv_at hl 1 rfl) ?_
    obtain ⟨tx_1, hc, h⟩ := op_b h
    refine k_callVR (rv := none) (Wc := (gT T aR tx)) (W2 := (gT T aR tx_1)) (Wn := (gU T aF aR aD aP aH aW tx_1 ps nm v vn hs ww)) (As := [.int x1]) (rest := []) F G (mX6_addBytes l D T aR tx x1 hc) (cwV 1 F.2.2.2.2 (kg_c kl611 (kg_c kl612 (kg_c kl613 (kg_c kl253 (kg_c kl427 kg_a))))) rfl rfl rfl (by decide +kernel) ⟨Nat.le_of_ble_eq_true rfl, Nat.le_of_ble_eq_true rfl⟩) (kg_recv G 1 0 (by decide) rfl (q := (RX6, TX6, 2)) rfl) (kCut_g (g' := (gFc T aF aR aD aP aH aW tx_1 ps nm v vn hs ww)) [1] G (by decide) (by decide) (gF_same [1] (Or.inl (by simp)) (Or.inr ⟨rfl, rfl⟩) (Or.inr ⟨rfl, rfl⟩) (Or.inr rfl) (fun _ => Or.inr rfl)) gF_addr) rfl hl.1 rfl (Nat.le_of_ble_eq_true rfl) dX10_append_31 ⟨Nat.le_of_ble_eq_true rfl, Nat.le_of_ble_eq_true rfl⟩ (cN := 0) (sN := 0) ⟨rfl, rfl⟩ (fun H locs G => ?_)
    refine lv_aload_n F.1 F.2.1 dX10_append_34 rfl (lv_at hl 0 rfl) ?_
    refine kg_get F G 0 0 (by decide) rfl (N := 6) (Tt := TX10) rfl kf10 0 (by decide) kl584 (v := .ref (aR 0)) rfl dX10_append_35 ?_
    refine lv_iload_n F.1 F.2.1 dX10_append_38 rfl (lv_at hl 2 rfl) ?_
    obtain ⟨tx_2, hc, h⟩ := op_b h
    refine k_callVR (rv := none) (Wc := (gT T aR tx_1)) (W2 := (gT T aR tx_2)) (Wn := (gU T aF aR aD aP aH aW tx_2 ps nm v vn hs ww)) (As := [.int x2]) (rest := []) F G (mX6_addBytes l D T aR tx_1 x2 hc) (cwV 1 F.2.2.2.2 (kg_c kl611 (kg_c kl612 (kg_c kl613 (kg_c kl253 (kg_c kl427 kg_a))))) rfl rfl rfl (by decide +kernel) ⟨Nat.le_of_ble_eq_true rfl, Nat.le_of_ble_eq_true rfl⟩) (kg_recv G 1 0 (by decide) rfl (q := (RX6, TX6, 2)) rfl) (kCut_g (g' := (gFc T aF aR aD aP aH aW tx_2 ps nm v vn hs ww)) [1] G (by decide) (by decide) (gF_same [1] (Or.inl (by simp)) (Or.inr ⟨rfl, rfl⟩) (Or.inr ⟨rfl, rfl⟩) (Or.inr rfl) (fun _ => Or.inr rfl)) gF_addr) rfl hl.1 rfl (Nat.le_of_ble_eq_true rfl) dX10_append_39 ⟨Nat.le_of_ble_eq_true rfl, Nat.le_of_ble_eq_true rfl⟩ (cN := 0) (sN := 0) ⟨rfl, rfl⟩ (fun H locs G => ?_)
    refine lv_aload_n F.1 F.2.1 dX10_append_42 rfl (lv_at hl 0 rfl) ?_
    refine kg_get F G 0 0 (by decide) rfl (N := 6) (Tt := TX10) rfl kf10 0 (by decide) kl584 (v := .ref (aR 0)) rfl dX10_append_43 ?_
    refine lv_iload_n F.1 F.2.1 dX10_append_46 rfl (lv_at hl 3 rfl) ?_
    obtain ⟨tx_3, hc, h⟩ := op_b h
    refine k_callVR (rv := none) (Wc := (gT T aR tx_2)) (W2 := (gT T aR tx_3)) (Wn := (gU T aF aR aD aP aH aW tx_3 ps nm v vn hs ww)) (As := [.int x3]) (rest := []) F G (mX6_addBytes l D T aR tx_2 x3 hc) (cwV 1 F.2.2.2.2 (kg_c kl611 (kg_c kl612 (kg_c kl613 (kg_c kl253 (kg_c kl427 kg_a))))) rfl rfl rfl (by decide +kernel) ⟨Nat.le_of_ble_eq_true rfl, Nat.le_of_ble_eq_true rfl⟩) (kg_recv G 1 0 (by decide) rfl (q := (RX6, TX6, 2)) rfl) (kCut_g (g' := (gFc T aF aR aD aP aH aW tx_3 ps nm v vn hs ww)) [1] G (by decide) (by decide) (gF_same [1] (Or.inl (by simp)) (Or.inr ⟨rfl, rfl⟩) (Or.inr ⟨rfl, rfl⟩) (Or.inr rfl) (fun _ => Or.inr rfl)) gF_addr) rfl hl.1 rfl (Nat.le_of_ble_eq_true rfl) dX10_append_47 ⟨Nat.le_of_ble_eq_true rfl, Nat.le_of_ble_eq_true rfl⟩ (cN := 0) (sN := 0) ⟨rfl, rfl⟩ (fun H locs G => ?_)
    refine lv_aload_n F.1 F.2.1 dX10_append_50 rfl (lv_at hl 0 rfl) ?_
    refine kg_get F G 0 0 (by decide) rfl (N := 6) (Tt := TX10) rfl kf10 0 (by decide) kl584 (v := .ref (aR 0)) rfl dX10_append_51 ?_
    refine lv_iload F.1 F.2.1 dX10_append_54 (lv_at hl 4 rfl) ?_
    obtain ⟨tx_4, hc, h⟩ := op_b h
    refine k_callVR (rv := none) (Wc := (gT T aR tx_3)) (W2 := (gT T aR tx_4)) (Wn := (gU T aF aR aD aP aH aW tx_4 ps nm v vn hs ww)) (As := [.int x4]) (rest := []) F G (mX6_addBytes l D T aR tx_3 x4 hc) (cwV 1 F.2.2.2.2 (kg_c kl611 (kg_c kl612 (kg_c kl613 (kg_c kl253 (kg_c kl427 kg_a))))) rfl rfl rfl (by decide +kernel) ⟨Nat.le_of_ble_eq_true rfl, Nat.le_of_ble_eq_true rfl⟩) (kg_recv G 1 0 (by decide) rfl (q := (RX6, TX6, 2)) rfl) (kCut_g (g' := (gFc T aF aR aD aP aH aW tx_4 ps nm v vn hs ww)) [1] G (by decide) (by decide) (gF_same [1] (Or.inl (by simp)) (Or.inr ⟨rfl, rfl⟩) (Or.inr ⟨rfl, rfl⟩) (Or.inr rfl) (fun _ => Or.inr rfl)) gF_addr) rfl hl.1 rfl (Nat.le_of_ble_eq_true rfl) dX10_append_56 ⟨Nat.le_of_ble_eq_true rfl, Nat.le_of_ble_eq_true rfl⟩ (cN := 0) (sN := 0) ⟨rfl, rfl⟩ (fun H locs G => ?_)
    refine lv_aload_n F.1 F.2.1 dX10_append_59 rfl (lv_at hl 0 rfl) ?_
    refine kg_get F G 0 0 (by decide) rfl (N := 6) (Tt := TX10) rfl kf10 0 (by decide) kl584 (v := .ref (aR 0)) rfl dX10_append_60 ?_
    refine lv_iload F.1 F.2.1 dX10_append_63 (lv_at hl 5 rfl) ?_
    obtain ⟨tx_5, hc, h⟩ := op_b h
    refine k_callVR (rv := none) (Wc := (gT T aR tx_4)) (W2 := (gT T aR tx_5)) (Wn := (gU T aF aR aD aP aH aW tx_5 ps nm v vn hs ww)) (As := [.int x5]) (rest := []) F G (mX6_addBytes l D T aR tx_4 x5 hc) (cwV 1 F.2.2.2.2 (kg_c kl611 (kg_c kl612 (kg_c kl613 (kg_c kl253 (kg_c kl427 kg_a))))) rfl rfl rfl (by decide +kernel) ⟨Nat.le_of_ble_eq_true rfl, Nat.le_of_ble_eq_true rfl⟩) (kg_recv G 1 0 (by decide) rfl (q := (RX6, TX6, 2)) rfl) (kCut_g (g' := (gFc T aF aR aD aP aH aW tx_5 ps nm v vn hs ww)) [1] G (by decide) (by decide) (gF_same [1] (Or.inl (by simp)) (Or.inr ⟨rfl, rfl⟩) (Or.inr ⟨rfl, rfl⟩) (Or.inr rfl) (fun _ => Or.inr rfl)) gF_addr) rfl hl.1 rfl (Nat.le_of_ble_eq_true rfl) dX10_append_65 ⟨Nat.le_of_ble_eq_true rfl, Nat.le_of_ble_eq_true rfl⟩ (cN := 0) (sN := 0) ⟨rfl, rfl⟩ (fun H locs G => ?_)
    refine lv_aload_n F.1 F.2.1 dX10_append_68 rfl (lv_at hl 0 rfl) ?_
    refine kg_get F G 0 0 (by decide) rfl (N := 6) (Tt := TX10) rfl kf10 0 (by decide) kl584 (v := .ref (aR 0)) rfl dX10_append_69 ?_
    refine kg_get F G 1 0 (by decide) rfl (N := 2) (Tt := TX6) rfl kf6 1 (by decide) kl610 (v := .int (tx_5 0 0)) rfl dX10_append_72 ?_
    obtain ⟨rfl, rfl, rfl⟩ := op_3 h
    refine W.widen (k := 1) (n := 6) (Nat.le_of_ble_eq_true rfl) (Nat.le_of_ble_eq_true rfl) ?_
    exact kx_ret (k_iret F hr hlk G dX10_append_75)
  · have h := op_f h c
    obtain ⟨rfl, rfl, rfl⟩ := op_3 h
    obtain ⟨sa, hsa⟩ := kx_msg G 0 rfl
    exact vx_throwS (own := RX10) (cls := "java/lang/IllegalStateException") (text := "the text is too long") (names := kNms) (ik := 58) (is := 60) (ic := 62) (mc := rmX10_append.cells) (ms := rmX10_append.slots) F.1 F.2.1 hst F.2.2.2.1 kx_f1 kx_nms (F.2.2.2.2 _ kl608) (F.2.2.2.2 _ kl609) hsa (kx_hat F G kxi0 kx_b1 (by decide +kernel)) kx_g1 G.2.2.2.2.1.2.2.2.2.1 G.2.2.2.2.1.2.2.2.2.2.1 G.2.2.2.1 (hl.1.trans F.2.2.1.symm) dX10_append_16 dX10_append_19 dX10_append_20 dX10_append_22 dX10_append_25 (fun x hx => (hex x hx).elim) (Nat.le_of_ble_eq_true rfl) (Nat.le_of_ble_eq_true rfl) (Nat.le_of_ble_eq_true rfl) (Nat.le_of_ble_eq_true rfl) hlk (kx_after G (by decide)) G.2.2.2.1.2.2 (Nat.le_of_ble_eq_true rfl) (Nat.le_of_ble_eq_true rfl)
abbrev rmX10_truncate : Room := ({ frames := 6, cells := 1, slots := 6, locals := 90 } : Room)
noncomputable def qX10_truncate (tx : Nat → Nat → Int32) (ps : Nat → Nat → Int32) (nm : Nat → Int64) (v : Nat → Nat → Int32) (vn : Nat → Int64) (hs : Nat → Nat → Int32) (ww : Nat → Nat → Nat → Int32) (x1 : Int32) : Option (Nat × Int32 × (Nat → Nat → Int32)) :=
  (jn (fun (_ : Unit) => some (2, 0, tx)) fun j15 => if x1 < 0 then (j15 ()) else if x1 ≤ (tx 0 0) then (bs (va_up tx 0 (fun _ => x1)) fun tx_1 => some (0, x1, tx_1)) else (j15 ()))

set_option maxHeartbeats 8000000 in
set_option maxRecDepth 100000 in
theorem mX10_truncate (l : Launch) (hst : l.stackTraces = false) (D : va_G) (T : Nat → ClassId) (aF : Nat → Nat) (aR : Nat → Nat) (aD : Nat → Nat) (aP : Nat → Nat) (aH : Nat → Nat) (aW : Nat → Nat → Nat) (tx : Nat → Nat → Int32) (ps : Nat → Nat → Int32) (nm : Nat → Int64) (v : Nat → Nat → Int32) (vn : Nat → Int64) (hs : Nat → Nat → Int32) (ww : Nat → Nat → Nat → Int32) (x1 : Int32) {eR : Nat} {rR : Int32} {txR : Nat → Nat → Int32} (hres : qX10_truncate tx ps nm v vn hs ww x1 = some (eR, rR, txR)) : Cx l yX10_truncate (Cond.code yX10_truncate cX10_truncate 2 (some .int) :: kAll) rmX10_truncate D T [.ref (aF 0), .int x1] (gU T aF aR aD aP aH aW tx ps nm v vn hs ww) eR (some (.int rR)) (gU T aF aR aD aP aH aW txR ps nm v vn hs ww) := by
  refine Cx.of (cc := cX10_truncate) (maxL := 2) (ret := (some .int)) (by decide +kernel) rfl (Nat.le_of_ble_eq_true rfl) ?_
  intro pr en st mi ag bl me co A ls F hr hlk hex G hl
  have hl : lv_has ls 2 [(0, .ref (aF 0)), (1, .int x1)] := hl
  have h := hres
  unfold qX10_truncate at h
  refine lv_iload_n F.1 F.2.1 dX10_truncate_0 rfl (lv_at hl 1 rfl) ?_
  obtain ⟨j15, hj15, h⟩ := op_j h
  have J15 : ∀ (H : Heap) (locs : List Loc) (ls : Array Slot), j15 () = some (eR, rR, txR) → Rg D T A st (gU T aF aR aD aP aH aW tx ps nm v vn hs ww) H locs → lv_has ls 2 [] → W pr l en rmX10_truncate st mi ag bl me co H locs 0 0 (vx_MQ bl (kQx eR (some (.int rR)) D (gU T aF aR aD aP aH aW txR ps nm v vn hs ww) A) (kXx eR D (gU T aF aR aD aP aH aW txR ps nm v vn hs ww) A) ag st rmX10_truncate.cells rmX10_truncate.slots A) (F0 mi 15 ls []) := by
    intro H locs ls h G hl
    rw [hj15] at h
    obtain ⟨rfl, rfl, rfl⟩ := op_3 h
    obtain ⟨sa, hsa⟩ := kx_msg G 1 rfl
    exact vx_throwS (own := RX10) (cls := "java/lang/IndexOutOfBoundsException") (text := "no such length") (names := kNms) (ik := 69) (is := 71) (ic := 73) (mc := rmX10_truncate.cells) (ms := rmX10_truncate.slots) F.1 F.2.1 hst F.2.2.2.1 kx_f2 kx_nms (F.2.2.2.2 _ kl615) (F.2.2.2.2 _ kl616) hsa (kx_hat F G kxi1 kx_b2 (by decide +kernel)) kx_g2 G.2.2.2.2.1.2.2.2.2.1 G.2.2.2.2.1.2.2.2.2.2.1 G.2.2.2.1 (hl.1.trans F.2.2.1.symm) dX10_truncate_15 dX10_truncate_18 dX10_truncate_19 dX10_truncate_21 dX10_truncate_24 (fun x hx => (hex x hx).elim) (Nat.le_of_ble_eq_true rfl) (Nat.le_of_ble_eq_true rfl) (Nat.le_of_ble_eq_true rfl) (Nat.le_of_ble_eq_true rfl) hlk (kx_after G (by decide)) G.2.2.2.1.2.2 (Nat.le_of_ble_eq_true rfl) (Nat.le_of_ble_eq_true rfl)
  clear hj15
  refine lv_if_lt (tgt := 15) F.1 F.2.1 dX10_truncate_1 (by decide) (fun c => ?_) (fun c => ?_)
  · have h := op_t h c
    exact J15 _ _ _ h G (lv_sub hl [] rfl)
  · have h := op_f h c
    refine lv_iload_n F.1 F.2.1 dX10_truncate_4 rfl (lv_at hl 1 rfl) ?_
    refine lv_aload_n F.1 F.2.1 dX10_truncate_5 rfl (lv_at hl 0 rfl) ?_
    refine kg_get F G 0 0 (by decide) rfl (N := 6) (Tt := TX10) rfl kf10 0 (by decide) kl584 (v := .ref (aR 0)) rfl dX10_truncate_6 ?_
    refine kg_get F G 1 0 (by decide) rfl (N := 2) (Tt := TX6) rfl kf6 1 (by decide) kl610 (v := .int (tx 0 0)) rfl dX10_truncate_9 ?_
    refine lv_icmp_le (tgt := 25) F.1 F.2.1 dX10_truncate_12 (by decide) (fun c => ?_) (fun c => ?_)
    · have h := op_t h c
      refine lv_aload_n F.1 F.2.1 dX10_truncate_25 rfl (lv_at hl 0 rfl) ?_
      refine kg_get F G 0 0 (by decide) rfl (N := 6) (Tt := TX10) rfl kf10 0 (by decide) kl584 (v := .ref (aR 0)) rfl dX10_truncate_26 ?_
      refine lv_iload_n F.1 F.2.1 dX10_truncate_29 rfl (lv_at hl 1 rfl) ?_
      obtain ⟨tx_1, e9, h⟩ := op_st h
      refine kg_put (g' := (gFc T aF aR aD aP aH aW tx_1 ps nm v vn hs ww)) F G 1 0 (by decide) rfl (N := 2) (Tt := TX6) rfl kf6 tyX6_ok nmX6 1 (by decide) kl610 rfl (v := .int x1) rfl rfl (Nat.le_of_ble_eq_true rfl) dX10_truncate_30 (by subst e9; rfl) (by subst e9; exact fun k hk h9 => (gF_same [1] (Or.inl (by simp)) (Or.inr ⟨rfl, rfl⟩) (Or.inr ⟨rfl, rfl⟩) (Or.inr rfl) (fun _ => Or.inr rfl)) k hk (not_cons h9)) (fun H locs G => ?_)
      clear e9
      refine lv_iload_n F.1 F.2.1 dX10_truncate_33 rfl (lv_at hl 1 rfl) ?_
      obtain ⟨rfl, rfl, rfl⟩ := op_3 h
      refine W.widen (k := 1) (n := 6) (Nat.le_of_ble_eq_true rfl) (Nat.le_of_ble_eq_true rfl) ?_
      exact kx_ret (k_iret F hr hlk G dX10_truncate_34)
    · have h := op_f h c
      exact J15 _ _ _ h G (lv_sub hl [] rfl)
abbrev rmX10_load : Room := ({ frames := 8, cells := 1, slots := 6, locals := 176 } : Room)
noncomputable def qX10_load (tx : Nat → Nat → Int32) (ps : Nat → Nat → Int32) (nm : Nat → Int64) (v : Nat → Nat → Int32) (vn : Nat → Int64) (hs : Nat → Nat → Int32) (ww : Nat → Nat → Nat → Int32) : Option (Nat × Int32 × (Nat → Nat → Int32) × (Nat → Nat → Int32) × (Nat → Int64) × (Nat → Nat → Int32) × (Nat → Int64) × (Nat → Nat → Int32) × (Nat → Nat → Nat → Int32)) :=
  bd3 (qX4_readText tx ps nm) fun r_1 ps_2 nm_3 => (bs (va_up tx 0 (fun _ => 0)) fun tx_4 => if r_1 = 0 then some (3, 0, tx_4, ps_2, nm_3, v, vn, hs, ww) else bd2 (qX5_copyFrom (fun i => ps_2 (6 + i)) nm_3 v vn) fun v2_5 nm2_6 => bd (qX9_beginAnew v2_5 (ww 0)) fun w_7 => (bs (va_up ww 0 w_7) fun ww_8 => bd (qX0_dropChanges hs ww_8) fun hs_9 => bd (qX0_dropSaved hs_9 ww_8) fun hs_10 => some (0, (v2_5 0 0), tx_4, ps_2, nm_3, v2_5, nm2_6, hs_10, ww_8)))

set_option maxHeartbeats 8000000 in
set_option maxRecDepth 100000 in
theorem mX10_load (l : Launch) (hst : l.stackTraces = false) (D : va_G) (T : Nat → ClassId) (aF : Nat → Nat) (aR : Nat → Nat) (aD : Nat → Nat) (aP : Nat → Nat) (aH : Nat → Nat) (aW : Nat → Nat → Nat) (tx : Nat → Nat → Int32) (ps : Nat → Nat → Int32) (nm : Nat → Int64) (v : Nat → Nat → Int32) (vn : Nat → Int64) (hs : Nat → Nat → Int32) (ww : Nat → Nat → Nat → Int32) {eR : Nat} {rR : Int32} {txR : Nat → Nat → Int32} {psR : Nat → Nat → Int32} {nmR : Nat → Int64} {vR : Nat → Nat → Int32} {vnR : Nat → Int64} {hsR : Nat → Nat → Int32} {wwR : Nat → Nat → Nat → Int32} (hres : qX10_load tx ps nm v vn hs ww = some (eR, rR, txR, psR, nmR, vR, vnR, hsR, wwR)) : Cx l yX10_load (Cond.code yX10_load cX10_load 2 (some .int) :: kAll) rmX10_load D T [.ref (aF 0)] (gU T aF aR aD aP aH aW tx ps nm v vn hs ww) eR (some (.int rR)) (gU T aF aR aD aP aH aW txR psR nmR vR vnR hsR wwR) := by
  refine Cx.of (cc := cX10_load) (maxL := 2) (ret := (some .int)) (by decide +kernel) rfl (Nat.le_of_ble_eq_true rfl) ?_
  intro pr en st mi ag bl me co A ls F hr hlk hex G hl
  have hl : lv_has ls 2 [(0, .ref (aF 0))] := hl
  have h := hres
  unfold qX10_load at h
  refine lv_aload_n F.1 F.2.1 dX10_load_0 rfl (lv_at hl 0 rfl) ?_
  refine kg_get F G 0 0 (by decide) rfl (N := 6) (Tt := TX10) rfl kf10 1 (by decide) kl587 (v := .ref (aR 3)) rfl dX10_load_1 ?_
  obtain ⟨r_1, ps_2, nm_3, hc, h⟩ := op_b3 h
  refine k_callVR (rv := (some (.int r_1))) (Wc := (gR T aR aD tx ps nm)) (W2 := (gR T aR aD tx ps_2 nm_3)) (Wn := (gU T aF aR aD aP aH aW tx ps_2 nm_3 v vn hs ww)) (As := []) (rest := []) F G (mX4_readText l D T aR aD tx ps nm hc) (cwV 0 F.2.2.2.2 (kg_c kl622 (kg_c kl623 (kg_c kl624 (kg_c kl321 (kg_c kl404 kg_a))))) rfl rfl rfl (by decide +kernel) ⟨Nat.le_of_ble_eq_true rfl, Nat.le_of_ble_eq_true rfl⟩) (kg_recv G 2 1 (by decide) rfl (q := (RX4, TX4, 6)) rfl) (kCut_g (g' := (gFc T aF aR aD aP aH aW tx ps_2 nm_3 v vn hs ww)) [1, 2, 3] G (by decide) (by decide) (gF_same [1, 2, 3] (Or.inr rfl) (Or.inl ⟨by simp, by simp⟩) (Or.inr ⟨rfl, rfl⟩) (Or.inr rfl) (fun _ => Or.inr rfl)) gF_addr) rfl hl.1 rfl (Nat.le_of_ble_eq_true rfl) dX10_load_4 ⟨Nat.le_of_ble_eq_true rfl, Nat.le_of_ble_eq_true rfl⟩ (cN := 0) (sN := 0) ⟨rfl, rfl⟩ (fun H locs G => ?_)
  refine lv_istore_n (lv' := [(1, .int r_1), (0, .ref (aF 0))]) F.1 F.2.1 dX10_load_7 rfl hl (by decide) rfl (fun ls hl => ?_)
  refine lv_aload_n F.1 F.2.1 dX10_load_8 rfl (lv_at hl 1 rfl) ?_
  refine kg_get F G 0 0 (by decide) rfl (N := 6) (Tt := TX10) rfl kf10 0 (by decide) kl584 (v := .ref (aR 0)) rfl dX10_load_9 ?_
  refine lv_iconst (v := 0) F.1 F.2.1 dX10_load_12 (by decide) ?_
  obtain ⟨tx_4, e9, h⟩ := op_st h
  refine kg_put (g' := (gFc T aF aR aD aP aH aW tx_4 ps_2 nm_3 v vn hs ww)) F G 1 0 (by decide) rfl (N := 2) (Tt := TX6) rfl kf6 tyX6_ok nmX6 1 (by decide) kl610 rfl (v := .int 0) rfl rfl (Nat.le_of_ble_eq_true rfl) dX10_load_13 (by subst e9; rfl) (by subst e9; exact fun k hk h9 => (gF_same [1] (Or.inl (by simp)) (Or.inr ⟨rfl, rfl⟩) (Or.inr ⟨rfl, rfl⟩) (Or.inr rfl) (fun _ => Or.inr rfl)) k hk (not_cons h9)) (fun H locs G => ?_)
  clear e9
  refine lv_iload_n F.1 F.2.1 dX10_load_16 rfl (lv_at hl 0 rfl) ?_
  refine lv_if_ne (tgt := 30) F.1 F.2.1 dX10_load_17 (by decide) (fun c => ?_) (fun c => ?_)
  · have h := op_f h c
    refine lv_aload_n F.1 F.2.1 dX10_load_30 rfl (lv_at hl 1 rfl) ?_
    refine kg_get F G 0 0 (by decide) rfl (N := 6) (Tt := TX10) rfl kf10 2 (by decide) kl589 (v := .ref (aP 0)) rfl dX10_load_31 ?_
    refine lv_aload_n F.1 F.2.1 dX10_load_34 rfl (lv_at hl 1 rfl) ?_
    refine kg_get F G 0 0 (by decide) rfl (N := 6) (Tt := TX10) rfl kf10 1 (by decide) kl587 (v := .ref (aR 3)) rfl dX10_load_35 ?_
    refine kg_get F G 2 1 (by decide) rfl (N := 6) (Tt := TX4) rfl kf4 2 (by decide) kl620 (v := .ref (aD 0)) rfl dX10_load_38 ?_
    obtain ⟨v2_5, nm2_6, hc, h⟩ := op_b2 h
    refine k_callVR (rv := none) (Wc := (gPP T aD aP (fun i => ps_2 (6 + i)) nm_3 v vn)) (W2 := (gPP T aD aP (fun i => ps_2 (6 + i)) nm_3 v2_5 nm2_6)) (Wn := (gU T aF aR aD aP aH aW tx_4 ps_2 nm_3 v2_5 nm2_6 hs ww)) (As := [.ref (aD 0)]) (rest := []) F G (mX5_copyFrom l D T aD aP (fun i => ps_2 (6 + i)) nm_3 v vn hc) (cwV 1 F.2.2.2.2 (kg_c kl625 (kg_c kl626 (kg_c kl627 (kg_c kl223 (kg_c kl421 kg_a))))) rfl rfl rfl (by decide +kernel) ⟨Nat.le_of_ble_eq_true rfl, Nat.le_of_ble_eq_true rfl⟩) (kg_recv G 4 0 (by decide) rfl (q := (RX5, TX5, 18)) rfl) (kCut_g (g' := (gFc T aF aR aD aP aH aW tx_4 ps_2 nm_3 v2_5 nm2_6 hs ww)) [3, 4, 5] G (by decide) (by decide) (gF_same [3, 4, 5] (Or.inr rfl) (Or.inr ⟨rfl, rfl⟩) (Or.inl ⟨by simp, by simp⟩) (Or.inr rfl) (fun _ => Or.inr rfl)) gF_addr) rfl hl.1 rfl (Nat.le_of_ble_eq_true rfl) dX10_load_41 ⟨Nat.le_of_ble_eq_true rfl, Nat.le_of_ble_eq_true rfl⟩ (cN := 0) (sN := 0) ⟨rfl, rfl⟩ (fun H locs G => ?_)
    refine lv_aload_n F.1 F.2.1 dX10_load_44 rfl (lv_at hl 1 rfl) ?_
    refine kg_get F G 0 0 (by decide) rfl (N := 6) (Tt := TX10) rfl kf10 3 (by decide) kl591 (v := .ref (aW 0 0)) rfl dX10_load_45 ?_
    obtain ⟨w_7, hc, h⟩ := op_b h
    obtain ⟨ww_8, e9, h⟩ := op_st h
    refine k_callVR (rv := none) (Wc := (gW T aP (aW 0) v2_5 (ww 0))) (W2 := (gW T aP (aW 0) v2_5 w_7)) (Wn := (gU T aF aR aD aP aH aW tx_4 ps_2 nm_3 v2_5 nm2_6 hs ww_8)) (As := []) (rest := []) F G (mX9_beginAnew l D T aP (aW 0) v2_5 (ww 0) hc) (cwV 0 F.2.2.2.2 (kg_c kl604 (kg_c kl605 (kg_c kl606 (kg_c kl64 (kg_c kl438 kg_a))))) rfl rfl rfl (by decide +kernel) ⟨Nat.le_of_ble_eq_true rfl, Nat.le_of_ble_eq_true rfl⟩) (kg_recv G 7 0 (by decide) rfl (q := (RX9, TX9, 14)) rfl) (by subst e9; exact kCut_g (g' := (gFc T aF aR aD aP aH aW tx_4 ps_2 nm_3 v2_5 nm2_6 hs (va_up ww 0 w_7))) [4, 7] G (by decide) (by decide) (gF_same [4, 7] (Or.inr rfl) (Or.inr ⟨rfl, rfl⟩) (Or.inr ⟨rfl, rfl⟩) (Or.inr rfl) (gW_up 0 _ 7 (by simp))) gF_addr) rfl hl.1 rfl (Nat.le_of_ble_eq_true rfl) dX10_load_48 ⟨Nat.le_of_ble_eq_true rfl, Nat.le_of_ble_eq_true rfl⟩ (cN := 0) (sN := 0) ⟨rfl, rfl⟩ (fun H locs G => ?_)
    clear e9
    refine lv_aload_n F.1 F.2.1 dX10_load_51 rfl (lv_at hl 1 rfl) ?_
    refine kg_get F G 0 0 (by decide) rfl (N := 6) (Tt := TX10) rfl kf10 5 (by decide) kl596 (v := .ref (aH 0)) rfl dX10_load_52 ?_
    obtain ⟨hs_9, hc, h⟩ := op_b h
    refine k_callVR (rv := none) (Wc := (gHU T aP aH aW hs ww_8)) (W2 := (gHU T aP aH aW hs_9 ww_8)) (Wn := (gU T aF aR aD aP aH aW tx_4 ps_2 nm_3 v2_5 nm2_6 hs_9 ww_8)) (As := []) (rest := []) F G (mX0_dropChanges l D T aP aH aW hs ww_8 hc) (cwV 0 F.2.2.2.2 (kg_c kl628 (kg_c kl629 (kg_c kl630 (kg_c kl595 (kg_c kl118 kg_a))))) rfl rfl rfl (by decide +kernel) ⟨Nat.le_of_ble_eq_true rfl, Nat.le_of_ble_eq_true rfl⟩) (kg_recv G 6 0 (by decide) rfl (q := (RX0, TX0, 5)) rfl) (kCut_H G) rfl hl.1 rfl (Nat.le_of_ble_eq_true rfl) dX10_load_55 ⟨Nat.le_of_ble_eq_true rfl, Nat.le_of_ble_eq_true rfl⟩ (cN := 0) (sN := 0) ⟨rfl, rfl⟩ (fun H locs G => ?_)
    refine lv_aload_n F.1 F.2.1 dX10_load_58 rfl (lv_at hl 1 rfl) ?_
    refine kg_get F G 0 0 (by decide) rfl (N := 6) (Tt := TX10) rfl kf10 5 (by decide) kl596 (v := .ref (aH 0)) rfl dX10_load_59 ?_
    obtain ⟨hs_10, hc, h⟩ := op_b h
    refine k_callVR (rv := none) (Wc := (gHU T aP aH aW hs_9 ww_8)) (W2 := (gHU T aP aH aW hs_10 ww_8)) (Wn := (gU T aF aR aD aP aH aW tx_4 ps_2 nm_3 v2_5 nm2_6 hs_10 ww_8)) (As := []) (rest := []) F G (mX0_dropSaved l D T aP aH aW hs_9 ww_8 hc) (cwV 0 F.2.2.2.2 (kg_c kl631 (kg_c kl632 (kg_c kl633 (kg_c kl595 (kg_c kl125 kg_a))))) rfl rfl rfl (by decide +kernel) ⟨Nat.le_of_ble_eq_true rfl, Nat.le_of_ble_eq_true rfl⟩) (kg_recv G 6 0 (by decide) rfl (q := (RX0, TX0, 5)) rfl) (kCut_H G) rfl hl.1 rfl (Nat.le_of_ble_eq_true rfl) dX10_load_62 ⟨Nat.le_of_ble_eq_true rfl, Nat.le_of_ble_eq_true rfl⟩ (cN := 0) (sN := 0) ⟨rfl, rfl⟩ (fun H locs G => ?_)
    refine lv_aload_n F.1 F.2.1 dX10_load_65 rfl (lv_at hl 1 rfl) ?_
    refine kg_get F G 0 0 (by decide) rfl (N := 6) (Tt := TX10) rfl kf10 2 (by decide) kl589 (v := .ref (aP 0)) rfl dX10_load_66 ?_
    refine kg_get F G 4 0 (by decide) rfl (N := 18) (Tt := TX5) rfl kf5 0 (by decide) kl621 (v := .int (v2_5 0 0)) rfl dX10_load_69 ?_
    obtain ⟨rfl, rfl, rfl, rfl, rfl, rfl, rfl, rfl, rfl⟩ := op_9 h
    refine W.widen (k := 1) (n := 6) (Nat.le_of_ble_eq_true rfl) (Nat.le_of_ble_eq_true rfl) ?_
    exact kx_ret (k_iret F hr hlk G dX10_load_72)
  · have h := op_t h c
    obtain ⟨rfl, rfl, rfl, rfl, rfl, rfl, rfl, rfl, rfl⟩ := op_9 h
    obtain ⟨sa, hsa⟩ := kx_msg G 2 rfl
    exact vx_throwS (own := RX10) (cls := "java/lang/IllegalArgumentException") (text := "the text has an error") (names := kNms) (ik := 78) (is := 80) (ic := 82) (mc := rmX10_load.cells) (ms := rmX10_load.slots) F.1 F.2.1 hst F.2.2.2.1 kx_f3 kx_nms (F.2.2.2.2 _ kl618) (F.2.2.2.2 _ kl619) hsa (kx_hat F G kxi2 kx_b3 (by decide +kernel)) kx_g3 G.2.2.2.2.1.2.2.2.2.1 G.2.2.2.2.1.2.2.2.2.2.1 G.2.2.2.1 (hl.1.trans F.2.2.1.symm) dX10_load_20 dX10_load_23 dX10_load_24 dX10_load_26 dX10_load_29 (fun x hx => (hex x hx).elim) (Nat.le_of_ble_eq_true rfl) (Nat.le_of_ble_eq_true rfl) (Nat.le_of_ble_eq_true rfl) (Nat.le_of_ble_eq_true rfl) hlk (kx_after G (by decide)) G.2.2.2.1.2.2 (Nat.le_of_ble_eq_true rfl) (Nat.le_of_ble_eq_true rfl)
abbrev rmX10_errorCode : Room := ({ frames := 0, cells := 0, slots := 0, locals := 0 } : Room)
noncomputable def qX10_errorCode (tx : Nat → Nat → Int32) (ps : Nat → Nat → Int32) (nm : Nat → Int64) (v : Nat → Nat → Int32) (vn : Nat → Int64) (hs : Nat → Nat → Int32) (ww : Nat → Nat → Nat → Int32) : Option (Int32) :=
  some (ps 3 0)

set_option maxHeartbeats 8000000 in
set_option maxRecDepth 100000 in
theorem mX10_errorCode (l : Launch) (D : va_G) (T : Nat → ClassId) (aF : Nat → Nat) (aR : Nat → Nat) (aD : Nat → Nat) (aP : Nat → Nat) (aH : Nat → Nat) (aW : Nat → Nat → Nat) (tx : Nat → Nat → Int32) (ps : Nat → Nat → Int32) (nm : Nat → Int64) (v : Nat → Nat → Int32) (vn : Nat → Int64) (hs : Nat → Nat → Int32) (ww : Nat → Nat → Nat → Int32) {rR : Int32} (hres : qX10_errorCode tx ps nm v vn hs ww = some (rR)) : Ct l yX10_errorCode (Cond.code yX10_errorCode cX10_errorCode 1 (some .int) :: kAll) rmX10_errorCode D T [.ref (aF 0)] (gU T aF aR aD aP aH aW tx ps nm v vn hs ww) (some (.int rR)) (gU T aF aR aD aP aH aW tx ps nm v vn hs ww) := by
  refine Ct.of (cc := cX10_errorCode) (maxL := 1) (ret := (some .int)) (by decide +kernel) rfl (Nat.le_of_ble_eq_true rfl) ?_
  intro pr en st mi ag bl me co A ls F hr hlk hnm G hl
  have hl : lv_has ls 1 [(0, .ref (aF 0))] := hl
  have h := hres
  unfold qX10_errorCode at h
  refine lv_aload_n F.1 F.2.1 dX10_errorCode_0 rfl (lv_at hl 0 rfl) ?_
  refine kg_get F G 0 0 (by decide) rfl (N := 6) (Tt := TX10) rfl kf10 1 (by decide) kl587 (v := .ref (aR 3)) rfl dX10_errorCode_1 ?_
  refine kg_get F G 2 1 (by decide) rfl (N := 6) (Tt := TX4) rfl kf4 3 (by decide) kl635 (v := .int (ps 3 0)) rfl dX10_errorCode_4 ?_
  obtain rfl := op_1 h
  exact k_iret F hr hlk G dX10_errorCode_7
abbrev rmX10_errorPosition : Room := ({ frames := 0, cells := 0, slots := 0, locals := 0 } : Room)
noncomputable def qX10_errorPosition (tx : Nat → Nat → Int32) (ps : Nat → Nat → Int32) (nm : Nat → Int64) (v : Nat → Nat → Int32) (vn : Nat → Int64) (hs : Nat → Nat → Int32) (ww : Nat → Nat → Nat → Int32) : Option (Int32) :=
  some (ps 4 0)

set_option maxHeartbeats 8000000 in
set_option maxRecDepth 100000 in
theorem mX10_errorPosition (l : Launch) (D : va_G) (T : Nat → ClassId) (aF : Nat → Nat) (aR : Nat → Nat) (aD : Nat → Nat) (aP : Nat → Nat) (aH : Nat → Nat) (aW : Nat → Nat → Nat) (tx : Nat → Nat → Int32) (ps : Nat → Nat → Int32) (nm : Nat → Int64) (v : Nat → Nat → Int32) (vn : Nat → Int64) (hs : Nat → Nat → Int32) (ww : Nat → Nat → Nat → Int32) {rR : Int32} (hres : qX10_errorPosition tx ps nm v vn hs ww = some (rR)) : Ct l yX10_errorPosition (Cond.code yX10_errorPosition cX10_errorPosition 1 (some .int) :: kAll) rmX10_errorPosition D T [.ref (aF 0)] (gU T aF aR aD aP aH aW tx ps nm v vn hs ww) (some (.int rR)) (gU T aF aR aD aP aH aW tx ps nm v vn hs ww) := by
  refine Ct.of (cc := cX10_errorPosition) (maxL := 1) (ret := (some .int)) (by decide +kernel) rfl (Nat.le_of_ble_eq_true rfl) ?_
  intro pr en st mi ag bl me co A ls F hr hlk hnm G hl
  have hl : lv_has ls 1 [(0, .ref (aF 0))] := hl
  have h := hres
  unfold qX10_errorPosition at h
  refine lv_aload_n F.1 F.2.1 dX10_errorPosition_0 rfl (lv_at hl 0 rfl) ?_
  refine kg_get F G 0 0 (by decide) rfl (N := 6) (Tt := TX10) rfl kf10 1 (by decide) kl587 (v := .ref (aR 3)) rfl dX10_errorPosition_1 ?_
  refine kg_get F G 2 1 (by decide) rfl (N := 6) (Tt := TX4) rfl kf4 4 (by decide) kl637 (v := .int (ps 4 0)) rfl dX10_errorPosition_4 ?_
  obtain rfl := op_1 h
  exact k_iret F hr hlk G dX10_errorPosition_7
abbrev rmX10_find : Room := ({ frames := 6, cells := 1, slots := 6, locals := 90 } : Room)
noncomputable def qX10_find (tx : Nat → Nat → Int32) (ps : Nat → Nat → Int32) (nm : Nat → Int64) (v : Nat → Nat → Int32) (vn : Nat → Int64) (hs : Nat → Nat → Int32) (ww : Nat → Nat → Nat → Int32) : Option (Nat × Int32 × (Nat → Nat → Int32)) :=
  bd (qX6_nameAt tx 0 (tx 0 0)) fun r_1 => bd (qX5_numberOf v vn r_1) fun r_2 => (bs (va_up tx 0 (fun _ => 0)) fun tx_3 => if r_2 = (-1) then some (4, 0, tx_3) else some (0, r_2, tx_3))

set_option maxHeartbeats 8000000 in
set_option maxRecDepth 100000 in
theorem mX10_find (l : Launch) (hst : l.stackTraces = false) (D : va_G) (T : Nat → ClassId) (aF : Nat → Nat) (aR : Nat → Nat) (aD : Nat → Nat) (aP : Nat → Nat) (aH : Nat → Nat) (aW : Nat → Nat → Nat) (tx : Nat → Nat → Int32) (ps : Nat → Nat → Int32) (nm : Nat → Int64) (v : Nat → Nat → Int32) (vn : Nat → Int64) (hs : Nat → Nat → Int32) (ww : Nat → Nat → Nat → Int32) {eR : Nat} {rR : Int32} {txR : Nat → Nat → Int32} (hres : qX10_find tx ps nm v vn hs ww = some (eR, rR, txR)) : Cx l yX10_find (Cond.code yX10_find cX10_find 2 (some .int) :: kAll) rmX10_find D T [.ref (aF 0)] (gU T aF aR aD aP aH aW tx ps nm v vn hs ww) eR (some (.int rR)) (gU T aF aR aD aP aH aW txR ps nm v vn hs ww) := by
  refine Cx.of (cc := cX10_find) (maxL := 2) (ret := (some .int)) (by decide +kernel) rfl (Nat.le_of_ble_eq_true rfl) ?_
  intro pr en st mi ag bl me co A ls F hr hlk hex G hl
  have hl : lv_has ls 2 [(0, .ref (aF 0))] := hl
  have h := hres
  unfold qX10_find at h
  refine lv_aload_n F.1 F.2.1 dX10_find_0 rfl (lv_at hl 0 rfl) ?_
  refine kg_get F G 0 0 (by decide) rfl (N := 6) (Tt := TX10) rfl kf10 2 (by decide) kl589 (v := .ref (aP 0)) rfl dX10_find_1 ?_
  refine lv_aload_n F.1 F.2.1 dX10_find_4 rfl (lv_at hl 0 rfl) ?_
  refine kg_get F G 0 0 (by decide) rfl (N := 6) (Tt := TX10) rfl kf10 0 (by decide) kl584 (v := .ref (aR 0)) rfl dX10_find_5 ?_
  refine lv_iconst (v := 0) F.1 F.2.1 dX10_find_8 (by decide) ?_
  refine lv_aload_n F.1 F.2.1 dX10_find_9 rfl (lv_at hl 0 rfl) ?_
  refine kg_get F G 0 0 (by decide) rfl (N := 6) (Tt := TX10) rfl kf10 0 (by decide) kl584 (v := .ref (aR 0)) rfl dX10_find_10 ?_
  refine kg_get F G 1 0 (by decide) rfl (N := 2) (Tt := TX6) rfl kf6 1 (by decide) kl610 (v := .int (tx 0 0)) rfl dX10_find_13 ?_
  obtain ⟨r_1, hc, h⟩ := op_b h
  refine k_callVR (rv := (some (.long r_1))) (Wc := (gT T aR tx)) (W2 := (gT T aR tx)) (Wn := (gU T aF aR aD aP aH aW tx ps nm v vn hs ww)) (As := [.int 0, .int (tx 0 0)]) (rest := [.ref (aP 0)]) F G (mX6_nameAt l D T aR tx 0 (tx 0 0) hc) (cwV 2 F.2.2.2.2 (kg_c kl641 (kg_c kl339 (kg_c kl340 (kg_c kl253 (kg_c kl336 kg_a))))) rfl rfl rfl (by decide +kernel) ⟨Nat.le_of_ble_eq_true rfl, Nat.le_of_ble_eq_true rfl⟩) (kg_recv G 1 0 (by decide) rfl (q := (RX6, TX6, 2)) rfl) (kCut_g (g' := (gFc T aF aR aD aP aH aW tx ps nm v vn hs ww)) [1] G (by decide) (by decide) (gF_same [1] (Or.inr rfl) (Or.inr ⟨rfl, rfl⟩) (Or.inr ⟨rfl, rfl⟩) (Or.inr rfl) (fun _ => Or.inr rfl)) gF_addr) rfl hl.1 rfl (Nat.le_of_ble_eq_true rfl) dX10_find_16 ⟨Nat.le_of_ble_eq_true rfl, Nat.le_of_ble_eq_true rfl⟩ (cN := 0) (sN := 0) ⟨rfl, rfl⟩ (fun H locs G => ?_)
  obtain ⟨r_2, hc, h⟩ := op_b h
  refine k_callVR (rv := (some (.int r_2))) (Wc := (gP T aP v vn)) (W2 := (gP T aP v vn)) (Wn := (gU T aF aR aD aP aH aW tx ps nm v vn hs ww)) (As := [.long r_1]) (rest := []) F G (mX5_numberOf l D T aP v vn r_1 hc) (cwV 1 F.2.2.2.2 (kg_c kl642 (kg_c kl347 (kg_c kl348 (kg_c kl223 (kg_c kl341 kg_a))))) rfl rfl rfl (by decide +kernel) ⟨Nat.le_of_ble_eq_true rfl, Nat.le_of_ble_eq_true rfl⟩) (kg_recv G 4 0 (by decide) rfl (q := (RX5, TX5, 18)) rfl) (kCut_g (g' := (gFc T aF aR aD aP aH aW tx ps nm v vn hs ww)) [4, 5] G (by decide) (by decide) (gF_same [4, 5] (Or.inr rfl) (Or.inr ⟨rfl, rfl⟩) (Or.inr ⟨rfl, rfl⟩) (Or.inr rfl) (fun _ => Or.inr rfl)) gF_addr) rfl hl.1 rfl (Nat.le_of_ble_eq_true rfl) dX10_find_19 ⟨Nat.le_of_ble_eq_true rfl, Nat.le_of_ble_eq_true rfl⟩ (cN := 0) (sN := 0) ⟨rfl, rfl⟩ (fun H locs G => ?_)
  refine lv_istore_n (lv' := [(1, .int r_2), (0, .ref (aF 0))]) F.1 F.2.1 dX10_find_22 rfl hl (by decide) rfl (fun ls hl => ?_)
  refine lv_aload_n F.1 F.2.1 dX10_find_23 rfl (lv_at hl 1 rfl) ?_
  refine kg_get F G 0 0 (by decide) rfl (N := 6) (Tt := TX10) rfl kf10 0 (by decide) kl584 (v := .ref (aR 0)) rfl dX10_find_24 ?_
  refine lv_iconst (v := 0) F.1 F.2.1 dX10_find_27 (by decide) ?_
  obtain ⟨tx_3, e9, h⟩ := op_st h
  refine kg_put (g' := (gFc T aF aR aD aP aH aW tx_3 ps nm v vn hs ww)) F G 1 0 (by decide) rfl (N := 2) (Tt := TX6) rfl kf6 tyX6_ok nmX6 1 (by decide) kl610 rfl (v := .int 0) rfl rfl (Nat.le_of_ble_eq_true rfl) dX10_find_28 (by subst e9; rfl) (by subst e9; exact fun k hk h9 => (gF_same [1] (Or.inl (by simp)) (Or.inr ⟨rfl, rfl⟩) (Or.inr ⟨rfl, rfl⟩) (Or.inr rfl) (fun _ => Or.inr rfl)) k hk (not_cons h9)) (fun H locs G => ?_)
  clear e9
  refine lv_iload_n F.1 F.2.1 dX10_find_31 rfl (lv_at hl 0 rfl) ?_
  refine lv_iconst (v := (-1)) F.1 F.2.1 dX10_find_32 (by decide) ?_
  refine lv_icmp_ne (tgt := 46) F.1 F.2.1 dX10_find_33 (by decide) (fun c => ?_) (fun c => ?_)
  · have h := op_f h c
    refine lv_iload_n F.1 F.2.1 dX10_find_46 rfl (lv_at hl 0 rfl) ?_
    obtain ⟨rfl, rfl, rfl⟩ := op_3 h
    refine W.widen (k := 1) (n := 6) (Nat.le_of_ble_eq_true rfl) (Nat.le_of_ble_eq_true rfl) ?_
    exact kx_ret (k_iret F hr hlk G dX10_find_47)
  · have h := op_t h c
    obtain ⟨rfl, rfl, rfl⟩ := op_3 h
    obtain ⟨sa, hsa⟩ := kx_msg G 3 rfl
    exact vy_throwS (own := RX10) (cls := "java/util/NoSuchElementException") (text := "no outlet has this name") (YY := "java/lang/RuntimeException") (names := ["java/lang/Exception"]) (ik := 112) (is := 114) (ic := 116) (mc := rmX10_find.cells) (ms := rmX10_find.slots) F.1 F.2.1 hst F.2.2.2.1 kx_f4 kx_fR kx_nmE (F.2.2.2.2 _ kl639) (F.2.2.2.2 _ kl640) hsa (kx_hat F G kxi3 kx_b4 (by decide +kernel)) kx_g4 G.2.2.2.2.1.2.2.2.2.1 G.2.2.2.2.1.2.2.2.2.2.1 G.2.2.2.1 (hl.1.trans F.2.2.1.symm) dX10_find_36 dX10_find_39 dX10_find_40 dX10_find_42 dX10_find_45 (fun x hx => (hex x hx).elim) (Nat.le_of_ble_eq_true rfl) (Nat.le_of_ble_eq_true rfl) (Nat.le_of_ble_eq_true rfl) (Nat.le_of_ble_eq_true rfl) hlk (kx_after G (by decide)) G.2.2.2.1.2.2 (Nat.le_of_ble_eq_true rfl) (Nat.le_of_ble_eq_true rfl)
abbrev rmX10_count : Room := ({ frames := 6, cells := 1, slots := 6, locals := 90 } : Room)
noncomputable def qX10_count (tx : Nat → Nat → Int32) (ps : Nat → Nat → Int32) (nm : Nat → Int64) (v : Nat → Nat → Int32) (vn : Nat → Int64) (hs : Nat → Nat → Int32) (ww : Nat → Nat → Nat → Int32) (x1 : Int32) : Option (Nat × Int32) :=
  (if x1 = 0 then some (0, (v 0 0)) else if x1 = 1 then bd (qX5_needsInAll v) fun r_1 => some (0, r_1) else if x1 = 2 then some (0, ((ww 0) 0 0)) else if x1 = 3 then bd (qX9_isDark v (ww 0)) fun r_2 => if r_2 = 0 then some (0, 1) else some (0, 0) else if x1 = 4 then some (0, ((ww 0) 5 0)) else if x1 = 5 then some (0, ((ww 0) 6 0)) else if x1 = 6 then some (0, ((ww 0) 31 0)) else if x1 = 7 then some (0, ((ww 0) 34 0)) else if x1 = 8 then bd (qX8_lostInAll v (ww 0)) fun r_3 => some (0, r_3) else if x1 = 9 then some (0, ((ww 0) 2 0)) else if x1 = 10 then some (0, ((ww 0) 3 0)) else if x1 = 11 then some (0, (v 4 0)) else if x1 = 12 then if ((ww 0) 4 0) = 0 then some (0, 0) else some (0, 1) else if x1 = 13 then some (0, (hs 1 0)) else some (3, 0))

set_option maxHeartbeats 8000000 in
set_option maxRecDepth 100000 in
theorem mX10_count (l : Launch) (hst : l.stackTraces = false) (D : va_G) (T : Nat → ClassId) (aF : Nat → Nat) (aR : Nat → Nat) (aD : Nat → Nat) (aP : Nat → Nat) (aH : Nat → Nat) (aW : Nat → Nat → Nat) (tx : Nat → Nat → Int32) (ps : Nat → Nat → Int32) (nm : Nat → Int64) (v : Nat → Nat → Int32) (vn : Nat → Int64) (hs : Nat → Nat → Int32) (ww : Nat → Nat → Nat → Int32) (x1 : Int32) {eR : Nat} {rR : Int32} (hres : qX10_count tx ps nm v vn hs ww x1 = some (eR, rR)) : Cx l yX10_count (Cond.code yX10_count cX10_count 2 (some .int) :: kAll) rmX10_count D T [.ref (aF 0), .int x1] (gU T aF aR aD aP aH aW tx ps nm v vn hs ww) eR (some (.int rR)) (gU T aF aR aD aP aH aW tx ps nm v vn hs ww) := by
  refine Cx.of (cc := cX10_count) (maxL := 2) (ret := (some .int)) (by decide +kernel) rfl (Nat.le_of_ble_eq_true rfl) ?_
  intro pr en st mi ag bl me co A ls F hr hlk hex G hl
  have hl : lv_has ls 2 [(0, .ref (aF 0)), (1, .int x1)] := hl
  have h := hres
  unfold qX10_count at h
  refine lv_iload_n F.1 F.2.1 dX10_count_0 rfl (lv_at hl 1 rfl) ?_
  by_cases c0 : x1 = 0
  · have h := op_t h c0
    refine k_tab F dX10_count_1 (tgt := 72) 0 c0 (by decide) (by decide) rfl (by decide) ?_
    refine lv_aload_n F.1 F.2.1 dX10_count_72 rfl (lv_at hl 0 rfl) ?_
    refine kg_get F G 0 0 (by decide) rfl (N := 6) (Tt := TX10) rfl kf10 2 (by decide) kl589 (v := .ref (aP 0)) rfl dX10_count_73 ?_
    refine kg_get F G 4 0 (by decide) rfl (N := 18) (Tt := TX5) rfl kf5 0 (by decide) kl621 (v := .int (v 0 0)) rfl dX10_count_76 ?_
    obtain ⟨rfl, rfl⟩ := op_2 h
    refine W.widen (k := 1) (n := 6) (Nat.le_of_ble_eq_true rfl) (Nat.le_of_ble_eq_true rfl) ?_
    exact kx_ret (k_iret F hr hlk G dX10_count_79)
  · have h := op_f h c0
    by_cases c1 : x1 = 1
    · have h := op_t h c1
      refine k_tab F dX10_count_1 (tgt := 80) 1 c1 (by decide) (by decide) rfl (by decide) ?_
      refine lv_aload_n F.1 F.2.1 dX10_count_80 rfl (lv_at hl 0 rfl) ?_
      refine kg_get F G 0 0 (by decide) rfl (N := 6) (Tt := TX10) rfl kf10 2 (by decide) kl589 (v := .ref (aP 0)) rfl dX10_count_81 ?_
      obtain ⟨r_1, hc, h⟩ := op_b h
      refine k_callVR (rv := (some (.int r_1))) (Wc := (gV T aP v)) (W2 := (gV T aP v)) (Wn := (gU T aF aR aD aP aH aW tx ps nm v vn hs ww)) (As := []) (rest := []) F G (mX5_needsInAll l D T aP v hc) (cwV 0 F.2.2.2.2 (kg_c kl648 (kg_c kl372 (kg_c kl373 (kg_c kl223 (kg_c kl365 kg_a))))) rfl rfl rfl (by decide +kernel) ⟨Nat.le_of_ble_eq_true rfl, Nat.le_of_ble_eq_true rfl⟩) (kg_recv G 4 0 (by decide) rfl (q := (RX5, TX5, 18)) rfl) (kCut_g (g' := (gFc T aF aR aD aP aH aW tx ps nm v vn hs ww)) [4] G (by decide) (by decide) (gF_same [4] (Or.inr rfl) (Or.inr ⟨rfl, rfl⟩) (Or.inr ⟨rfl, rfl⟩) (Or.inr rfl) (fun _ => Or.inr rfl)) gF_addr) rfl hl.1 rfl (Nat.le_of_ble_eq_true rfl) dX10_count_84 ⟨Nat.le_of_ble_eq_true rfl, Nat.le_of_ble_eq_true rfl⟩ (cN := 0) (sN := 0) ⟨rfl, rfl⟩ (fun H locs G => ?_)
      obtain ⟨rfl, rfl⟩ := op_2 h
      refine W.widen (k := 1) (n := 6) (Nat.le_of_ble_eq_true rfl) (Nat.le_of_ble_eq_true rfl) ?_
      exact kx_ret (k_iret F hr hlk G dX10_count_87)
    · have h := op_f h c1
      by_cases c2 : x1 = 2
      · have h := op_t h c2
        refine k_tab F dX10_count_1 (tgt := 88) 2 c2 (by decide) (by decide) rfl (by decide) ?_
        refine lv_aload_n F.1 F.2.1 dX10_count_88 rfl (lv_at hl 0 rfl) ?_
        refine kg_get F G 0 0 (by decide) rfl (N := 6) (Tt := TX10) rfl kf10 3 (by decide) kl591 (v := .ref (aW 0 0)) rfl dX10_count_89 ?_
        refine kg_get F G 7 0 (by decide) rfl (N := 14) (Tt := TX9) rfl kf9 4 (by decide) kl93 (v := .int ((ww 0) 0 0)) rfl dX10_count_92 ?_
        obtain ⟨rfl, rfl⟩ := op_2 h
        refine W.widen (k := 1) (n := 6) (Nat.le_of_ble_eq_true rfl) (Nat.le_of_ble_eq_true rfl) ?_
        exact kx_ret (k_iret F hr hlk G dX10_count_95)
      · have h := op_f h c2
        by_cases c3 : x1 = 3
        · have h := op_t h c3
          refine k_tab F dX10_count_1 (tgt := 96) 3 c3 (by decide) (by decide) rfl (by decide) ?_
          refine lv_aload_n F.1 F.2.1 dX10_count_96 rfl (lv_at hl 0 rfl) ?_
          refine kg_get F G 0 0 (by decide) rfl (N := 6) (Tt := TX10) rfl kf10 3 (by decide) kl591 (v := .ref (aW 0 0)) rfl dX10_count_97 ?_
          obtain ⟨r_2, hc, h⟩ := op_b h
          refine k_callVR (rv := (some (.int r_2))) (Wc := (gW T aP (aW 0) v (ww 0))) (W2 := (gW T aP (aW 0) v (ww 0))) (Wn := (gU T aF aR aD aP aH aW tx ps nm v vn hs ww)) (As := []) (rest := []) F G (mX9_isDark l D T aP (aW 0) v (ww 0) hc) (cwV 0 F.2.2.2.2 (kg_c kl649 (kg_c kl552 (kg_c kl553 (kg_c kl64 (kg_c kl459 kg_a))))) rfl rfl rfl (by decide +kernel) ⟨Nat.le_of_ble_eq_true rfl, Nat.le_of_ble_eq_true rfl⟩) (kg_recv G 7 0 (by decide) rfl (q := (RX9, TX9, 14)) rfl) (kCut_g (g' := (gFc T aF aR aD aP aH aW tx ps nm v vn hs ww)) [4, 7] G (by decide) (by decide) (gF_same [4, 7] (Or.inr rfl) (Or.inr ⟨rfl, rfl⟩) (Or.inr ⟨rfl, rfl⟩) (Or.inr rfl) (fun _ => Or.inr rfl)) gF_addr) rfl hl.1 rfl (Nat.le_of_ble_eq_true rfl) dX10_count_100 ⟨Nat.le_of_ble_eq_true rfl, Nat.le_of_ble_eq_true rfl⟩ (cN := 0) (sN := 0) ⟨rfl, rfl⟩ (fun H locs G => ?_)
          refine lv_if_eq (tgt := 110) F.1 F.2.1 dX10_count_103 (by decide) (fun c => ?_) (fun c => ?_)
          · have h := op_t h c
            refine lv_iconst (v := 1) F.1 F.2.1 dX10_count_110 (by decide) ?_
            obtain ⟨rfl, rfl⟩ := op_2 h
            refine W.widen (k := 1) (n := 6) (Nat.le_of_ble_eq_true rfl) (Nat.le_of_ble_eq_true rfl) ?_
            exact kx_ret (k_iret F hr hlk G dX10_count_111)
          · have h := op_f h c
            refine lv_iconst (v := 0) F.1 F.2.1 dX10_count_106 (by decide) ?_
            refine lv_goto (tgt := 111) F.1 F.2.1 dX10_count_107 (by decide) ?_
            obtain ⟨rfl, rfl⟩ := op_2 h
            refine W.widen (k := 1) (n := 6) (Nat.le_of_ble_eq_true rfl) (Nat.le_of_ble_eq_true rfl) ?_
            exact kx_ret (k_iret F hr hlk G dX10_count_111)
        · have h := op_f h c3
          by_cases c4 : x1 = 4
          · have h := op_t h c4
            refine k_tab F dX10_count_1 (tgt := 112) 4 c4 (by decide) (by decide) rfl (by decide) ?_
            refine lv_aload_n F.1 F.2.1 dX10_count_112 rfl (lv_at hl 0 rfl) ?_
            refine kg_get F G 0 0 (by decide) rfl (N := 6) (Tt := TX10) rfl kf10 3 (by decide) kl591 (v := .ref (aW 0 0)) rfl dX10_count_113 ?_
            refine kg_get F G 7 0 (by decide) rfl (N := 14) (Tt := TX9) rfl kf9 9 (by decide) kl98 (v := .int ((ww 0) 5 0)) rfl dX10_count_116 ?_
            obtain ⟨rfl, rfl⟩ := op_2 h
            refine W.widen (k := 1) (n := 6) (Nat.le_of_ble_eq_true rfl) (Nat.le_of_ble_eq_true rfl) ?_
            exact kx_ret (k_iret F hr hlk G dX10_count_119)
          · have h := op_f h c4
            by_cases c5 : x1 = 5
            · have h := op_t h c5
              refine k_tab F dX10_count_1 (tgt := 120) 5 c5 (by decide) (by decide) rfl (by decide) ?_
              refine lv_aload_n F.1 F.2.1 dX10_count_120 rfl (lv_at hl 0 rfl) ?_
              refine kg_get F G 0 0 (by decide) rfl (N := 6) (Tt := TX10) rfl kf10 3 (by decide) kl591 (v := .ref (aW 0 0)) rfl dX10_count_121 ?_
              refine kg_get F G 7 0 (by decide) rfl (N := 14) (Tt := TX9) rfl kf9 10 (by decide) kl99 (v := .int ((ww 0) 6 0)) rfl dX10_count_124 ?_
              obtain ⟨rfl, rfl⟩ := op_2 h
              refine W.widen (k := 1) (n := 6) (Nat.le_of_ble_eq_true rfl) (Nat.le_of_ble_eq_true rfl) ?_
              exact kx_ret (k_iret F hr hlk G dX10_count_127)
            · have h := op_f h c5
              by_cases c6 : x1 = 6
              · have h := op_t h c6
                refine k_tab F dX10_count_1 (tgt := 128) 6 c6 (by decide) (by decide) rfl (by decide) ?_
                refine lv_aload_n F.1 F.2.1 dX10_count_128 rfl (lv_at hl 0 rfl) ?_
                refine kg_get F G 0 0 (by decide) rfl (N := 6) (Tt := TX10) rfl kf10 3 (by decide) kl591 (v := .ref (aW 0 0)) rfl dX10_count_129 ?_
                refine kg_get F G 7 0 (by decide) rfl (N := 14) (Tt := TX9) rfl kf9 3 (by decide) kl103 (v := .ref (aW 0 19)) rfl dX10_count_132 ?_
                refine kg_get F G 7 19 (by decide) rfl (N := 9) (Tt := TX8) rfl kf8 4 (by decide) kl644 (v := .int ((ww 0) 31 0)) rfl dX10_count_135 ?_
                obtain ⟨rfl, rfl⟩ := op_2 h
                refine W.widen (k := 1) (n := 6) (Nat.le_of_ble_eq_true rfl) (Nat.le_of_ble_eq_true rfl) ?_
                exact kx_ret (k_iret F hr hlk G dX10_count_138)
              · have h := op_f h c6
                by_cases c7 : x1 = 7
                · have h := op_t h c7
                  refine k_tab F dX10_count_1 (tgt := 139) 7 c7 (by decide) (by decide) rfl (by decide) ?_
                  refine lv_aload_n F.1 F.2.1 dX10_count_139 rfl (lv_at hl 0 rfl) ?_
                  refine kg_get F G 0 0 (by decide) rfl (N := 6) (Tt := TX10) rfl kf10 3 (by decide) kl591 (v := .ref (aW 0 0)) rfl dX10_count_140 ?_
                  refine kg_get F G 7 0 (by decide) rfl (N := 14) (Tt := TX9) rfl kf9 3 (by decide) kl103 (v := .ref (aW 0 19)) rfl dX10_count_143 ?_
                  refine kg_get F G 7 19 (by decide) rfl (N := 9) (Tt := TX8) rfl kf8 7 (by decide) kl645 (v := .int ((ww 0) 34 0)) rfl dX10_count_146 ?_
                  obtain ⟨rfl, rfl⟩ := op_2 h
                  refine W.widen (k := 1) (n := 6) (Nat.le_of_ble_eq_true rfl) (Nat.le_of_ble_eq_true rfl) ?_
                  exact kx_ret (k_iret F hr hlk G dX10_count_149)
                · have h := op_f h c7
                  by_cases c8 : x1 = 8
                  · have h := op_t h c8
                    refine k_tab F dX10_count_1 (tgt := 150) 8 c8 (by decide) (by decide) rfl (by decide) ?_
                    refine lv_aload_n F.1 F.2.1 dX10_count_150 rfl (lv_at hl 0 rfl) ?_
                    refine kg_get F G 0 0 (by decide) rfl (N := 6) (Tt := TX10) rfl kf10 3 (by decide) kl591 (v := .ref (aW 0 0)) rfl dX10_count_151 ?_
                    refine kg_get F G 7 0 (by decide) rfl (N := 14) (Tt := TX9) rfl kf9 3 (by decide) kl103 (v := .ref (aW 0 19)) rfl dX10_count_154 ?_
                    obtain ⟨r_3, hc, h⟩ := op_b h
                    refine k_callVR (rv := (some (.int r_3))) (Wc := (gW T aP (aW 0) v (ww 0))) (W2 := (gW T aP (aW 0) v (ww 0))) (Wn := (gU T aF aR aD aP aH aW tx ps nm v vn hs ww)) (As := []) (rest := []) F G (mX8_lostInAll l D T aP (aW 0) v (ww 0) hc) (cwV 0 F.2.2.2.2 (kg_c kl650 (kg_c kl651 (kg_c kl652 (kg_c kl50 (kg_c kl437 kg_a))))) rfl rfl rfl (by decide +kernel) ⟨Nat.le_of_ble_eq_true rfl, Nat.le_of_ble_eq_true rfl⟩) (kg_recv G 7 19 (by decide) rfl (q := (RX8, TX8, 9)) rfl) (kCut_g (g' := (gFc T aF aR aD aP aH aW tx ps nm v vn hs ww)) [4, 7] G (by decide) (by decide) (gF_same [4, 7] (Or.inr rfl) (Or.inr ⟨rfl, rfl⟩) (Or.inr ⟨rfl, rfl⟩) (Or.inr rfl) (fun _ => Or.inr rfl)) gF_addr) rfl hl.1 rfl (Nat.le_of_ble_eq_true rfl) dX10_count_157 ⟨Nat.le_of_ble_eq_true rfl, Nat.le_of_ble_eq_true rfl⟩ (cN := 0) (sN := 0) ⟨rfl, rfl⟩ (fun H locs G => ?_)
                    obtain ⟨rfl, rfl⟩ := op_2 h
                    refine W.widen (k := 1) (n := 6) (Nat.le_of_ble_eq_true rfl) (Nat.le_of_ble_eq_true rfl) ?_
                    exact kx_ret (k_iret F hr hlk G dX10_count_160)
                  · have h := op_f h c8
                    by_cases c9 : x1 = 9
                    · have h := op_t h c9
                      refine k_tab F dX10_count_1 (tgt := 161) 9 c9 (by decide) (by decide) rfl (by decide) ?_
                      refine lv_aload_n F.1 F.2.1 dX10_count_161 rfl (lv_at hl 0 rfl) ?_
                      refine kg_get F G 0 0 (by decide) rfl (N := 6) (Tt := TX10) rfl kf10 3 (by decide) kl591 (v := .ref (aW 0 0)) rfl dX10_count_162 ?_
                      refine kg_get F G 7 0 (by decide) rfl (N := 14) (Tt := TX9) rfl kf9 6 (by decide) kl95 (v := .int ((ww 0) 2 0)) rfl dX10_count_165 ?_
                      obtain ⟨rfl, rfl⟩ := op_2 h
                      refine W.widen (k := 1) (n := 6) (Nat.le_of_ble_eq_true rfl) (Nat.le_of_ble_eq_true rfl) ?_
                      exact kx_ret (k_iret F hr hlk G dX10_count_168)
                    · have h := op_f h c9
                      by_cases c10 : x1 = 10
                      · have h := op_t h c10
                        refine k_tab F dX10_count_1 (tgt := 169) 10 c10 (by decide) (by decide) rfl (by decide) ?_
                        refine lv_aload_n F.1 F.2.1 dX10_count_169 rfl (lv_at hl 0 rfl) ?_
                        refine kg_get F G 0 0 (by decide) rfl (N := 6) (Tt := TX10) rfl kf10 3 (by decide) kl591 (v := .ref (aW 0 0)) rfl dX10_count_170 ?_
                        refine kg_get F G 7 0 (by decide) rfl (N := 14) (Tt := TX9) rfl kf9 7 (by decide) kl96 (v := .int ((ww 0) 3 0)) rfl dX10_count_173 ?_
                        obtain ⟨rfl, rfl⟩ := op_2 h
                        refine W.widen (k := 1) (n := 6) (Nat.le_of_ble_eq_true rfl) (Nat.le_of_ble_eq_true rfl) ?_
                        exact kx_ret (k_iret F hr hlk G dX10_count_176)
                      · have h := op_f h c10
                        by_cases c11 : x1 = 11
                        · have h := op_t h c11
                          refine k_tab F dX10_count_1 (tgt := 177) 11 c11 (by decide) (by decide) rfl (by decide) ?_
                          refine lv_aload_n F.1 F.2.1 dX10_count_177 rfl (lv_at hl 0 rfl) ?_
                          refine kg_get F G 0 0 (by decide) rfl (N := 6) (Tt := TX10) rfl kf10 2 (by decide) kl589 (v := .ref (aP 0)) rfl dX10_count_178 ?_
                          refine kg_get F G 4 0 (by decide) rfl (N := 18) (Tt := TX5) rfl kf5 11 (by decide) kl646 (v := .int (v 4 0)) rfl dX10_count_181 ?_
                          obtain ⟨rfl, rfl⟩ := op_2 h
                          refine W.widen (k := 1) (n := 6) (Nat.le_of_ble_eq_true rfl) (Nat.le_of_ble_eq_true rfl) ?_
                          exact kx_ret (k_iret F hr hlk G dX10_count_184)
                        · have h := op_f h c11
                          by_cases c12 : x1 = 12
                          · have h := op_t h c12
                            refine k_tab F dX10_count_1 (tgt := 185) 12 c12 (by decide) (by decide) rfl (by decide) ?_
                            refine lv_aload_n F.1 F.2.1 dX10_count_185 rfl (lv_at hl 0 rfl) ?_
                            refine kg_get F G 0 0 (by decide) rfl (N := 6) (Tt := TX10) rfl kf10 3 (by decide) kl591 (v := .ref (aW 0 0)) rfl dX10_count_186 ?_
                            refine kg_get F G 7 0 (by decide) rfl (N := 14) (Tt := TX9) rfl kf9 8 (by decide) kl97 (v := .int ((ww 0) 4 0)) rfl dX10_count_189 ?_
                            refine lv_if_eq (tgt := 199) F.1 F.2.1 dX10_count_192 (by decide) (fun c => ?_) (fun c => ?_)
                            · have h := op_t h c
                              refine lv_iconst (v := 0) F.1 F.2.1 dX10_count_199 (by decide) ?_
                              obtain ⟨rfl, rfl⟩ := op_2 h
                              refine W.widen (k := 1) (n := 6) (Nat.le_of_ble_eq_true rfl) (Nat.le_of_ble_eq_true rfl) ?_
                              exact kx_ret (k_iret F hr hlk G dX10_count_200)
                            · have h := op_f h c
                              refine lv_iconst (v := 1) F.1 F.2.1 dX10_count_195 (by decide) ?_
                              refine lv_goto (tgt := 200) F.1 F.2.1 dX10_count_196 (by decide) ?_
                              obtain ⟨rfl, rfl⟩ := op_2 h
                              refine W.widen (k := 1) (n := 6) (Nat.le_of_ble_eq_true rfl) (Nat.le_of_ble_eq_true rfl) ?_
                              exact kx_ret (k_iret F hr hlk G dX10_count_200)
                          · have h := op_f h c12
                            by_cases c13 : x1 = 13
                            · have h := op_t h c13
                              refine k_tab F dX10_count_1 (tgt := 201) 13 c13 (by decide) (by decide) rfl (by decide) ?_
                              refine lv_aload_n F.1 F.2.1 dX10_count_201 rfl (lv_at hl 0 rfl) ?_
                              refine kg_get F G 0 0 (by decide) rfl (N := 6) (Tt := TX10) rfl kf10 5 (by decide) kl596 (v := .ref (aH 0)) rfl dX10_count_202 ?_
                              refine kg_get F G 6 0 (by decide) rfl (N := 5) (Tt := TX0) rfl kf0 3 (by decide) kl647 (v := .int (hs 1 0)) rfl dX10_count_205 ?_
                              obtain ⟨rfl, rfl⟩ := op_2 h
                              refine W.widen (k := 1) (n := 6) (Nat.le_of_ble_eq_true rfl) (Nat.le_of_ble_eq_true rfl) ?_
                              exact kx_ret (k_iret F hr hlk G dX10_count_208)
                            · have h := op_f h c13
                              refine lv_tableOut (tgt := 209) F.1 F.2.1 dX10_count_1 (tab_out 14 (by decide) (lt_s (lt_s (lt_s (lt_s (lt_s (lt_s (lt_s (lt_s (lt_s (lt_s (lt_s (lt_s (lt_s (lt_s lt_0 c0) c1) c2) c3) c4) c5) c6) c7) c8) c9) c10) c11) c12) c13)) (by decide) ?_
                              obtain ⟨rfl, rfl⟩ := op_2 h
                              obtain ⟨sa, hsa⟩ := kx_msg G 4 rfl
                              exact vx_throwS (own := RX10) (cls := "java/lang/IllegalArgumentException") (text := "no such count") (names := kNms) (ik := 78) (is := 164) (ic := 82) (mc := rmX10_count.cells) (ms := rmX10_count.slots) F.1 F.2.1 hst F.2.2.2.1 kx_f3 kx_nms (F.2.2.2.2 _ kl618) (F.2.2.2.2 _ kl619) hsa (kx_hat F G kxi2 kx_b3 (by decide +kernel)) kx_g3 G.2.2.2.2.1.2.2.2.2.1 G.2.2.2.2.1.2.2.2.2.2.1 G.2.2.2.1 (hl.1.trans F.2.2.1.symm) dX10_count_209 dX10_count_212 dX10_count_213 dX10_count_215 dX10_count_218 (fun x hx => (hex x hx).elim) (Nat.le_of_ble_eq_true rfl) (Nat.le_of_ble_eq_true rfl) (Nat.le_of_ble_eq_true rfl) (Nat.le_of_ble_eq_true rfl) hlk (kx_after G (by decide)) G.2.2.2.1.2.2 (Nat.le_of_ble_eq_true rfl) (Nat.le_of_ble_eq_true rfl)
abbrev rmX10_outlet : Room := ({ frames := 7, cells := 2, slots := 12, locals := 111 } : Room)
noncomputable def qX10_outlet (tx : Nat → Nat → Int32) (ps : Nat → Nat → Int32) (nm : Nat → Int64) (v : Nat → Nat → Int32) (vn : Nat → Int64) (hs : Nat → Nat → Int32) (ww : Nat → Nat → Nat → Int32) (x1 : Int32) (x2 : Int32) : Option (Nat × Int32) :=
  bd (qX10_checkOutlet tx ps nm v vn hs ww x1) fun e_1 => if e_1 = 0 then (if x2 = 0 then gd (vp_in x1 12) (some (0, ((v 9) x1.toNatClampNeg))) else if x2 = 1 then gd (vp_in x1 12) (some (0, ((v 10) x1.toNatClampNeg))) else if x2 = 2 then gd (vp_in x1 12) (some (0, ((v 11) x1.toNatClampNeg))) else if x2 = 3 then gd (vp_in x1 12) (some (0, ((v 12) x1.toNatClampNeg))) else if x2 = 4 then gd (vp_in x1 12) (some (0, (((ww 0) 10) x1.toNatClampNeg))) else if x2 = 5 then bd (qX2_doesWant v (ww 0) x1) fun r_2 => if r_2 = 0 then some (0, 0) else some (0, 1) else if x2 = 6 then gd (vp_in x1 12) (some (0, (((ww 0) 11) x1.toNatClampNeg))) else if x2 = 7 then gd (vp_in x1 12) (some (0, (((ww 0) 12) x1.toNatClampNeg))) else if x2 = 8 then gd (vp_in x1 12) (some (0, (((ww 0) 13) x1.toNatClampNeg))) else if x2 = 9 then gd (vp_in x1 12) (some (0, (((ww 0) 14) x1.toNatClampNeg))) else some (3, 0)) else some (e_1, 0)

set_option maxHeartbeats 8000000 in
set_option maxRecDepth 100000 in
theorem mX10_outlet (l : Launch) (hst : l.stackTraces = false) (D : va_G) (T : Nat → ClassId) (aF : Nat → Nat) (aR : Nat → Nat) (aD : Nat → Nat) (aP : Nat → Nat) (aH : Nat → Nat) (aW : Nat → Nat → Nat) (tx : Nat → Nat → Int32) (ps : Nat → Nat → Int32) (nm : Nat → Int64) (v : Nat → Nat → Int32) (vn : Nat → Int64) (hs : Nat → Nat → Int32) (ww : Nat → Nat → Nat → Int32) (x1 : Int32) (x2 : Int32) {eR : Nat} {rR : Int32} (hres : qX10_outlet tx ps nm v vn hs ww x1 x2 = some (eR, rR)) : Cx l yX10_outlet (Cond.code yX10_outlet cX10_outlet 4 (some .int) :: kAll) rmX10_outlet D T [.ref (aF 0), .int x1, .int x2] (gU T aF aR aD aP aH aW tx ps nm v vn hs ww) eR (some (.int rR)) (gU T aF aR aD aP aH aW tx ps nm v vn hs ww) := by
  refine Cx.of (cc := cX10_outlet) (maxL := 4) (ret := (some .int)) (by decide +kernel) rfl (Nat.le_of_ble_eq_true rfl) ?_
  intro pr en st mi ag bl me co A ls F hr hlk hex G hl
  have hl : lv_has ls 4 [(0, .ref (aF 0)), (1, .int x1), (2, .int x2)] := hl
  have h := hres
  unfold qX10_outlet at h
  refine lv_aload_n F.1 F.2.1 dX10_outlet_0 rfl (lv_at hl 0 rfl) ?_
  refine lv_iload_n F.1 F.2.1 dX10_outlet_1 rfl (lv_at hl 1 rfl) ?_
  obtain ⟨e_1, hc, h⟩ := op_b h
  refine kx_callV (rv := none) (Wc := (gU T aF aR aD aP aH aW tx ps nm v vn hs ww)) (W2 := (gU T aF aR aD aP aH aW tx ps nm v vn hs ww)) (Wn := (gU T aF aR aD aP aH aW tx ps nm v vn hs ww)) (As := [.int x1]) (rest := []) F G (mX10_checkOutlet l hst D T aF aR aD aP aH aW tx ps nm v vn hs ww x1 hc) (cwV 1 F.2.2.2.2 (kg_c kl664 (kg_c kl665 (kg_c kl666 (kg_c kl80 (kg_c kl653 kg_a))))) rfl rfl rfl (by decide +kernel) ⟨Nat.le_of_ble_eq_true rfl, Nat.le_of_ble_eq_true rfl⟩) (kg_recv G 0 0 (by decide) rfl (q := (RX10, TX10, 6)) rfl) (kCut_F G) rfl hl.1 rfl (Nat.le_of_ble_eq_true rfl) dX10_outlet_2 ⟨Nat.le_of_ble_eq_true rfl, Nat.le_of_ble_eq_true rfl⟩ (cN := 1) (sN := 6) ⟨rfl, rfl⟩ (fun c ce q9 H locs G hce hcv hcl => ?_) (fun c H locs G => ?_)
  · have h := op_f h c
    obtain ⟨rfl, rfl⟩ := op_2 h
    exact kx_out hex hlk G c hce hcv hcl (Nat.le_of_ble_eq_true rfl) (Nat.le_of_ble_eq_true rfl)
  have h := op_t h c
  refine lv_aload_n F.1 F.2.1 dX10_outlet_5 rfl (lv_at hl 0 rfl) ?_
  refine kg_get F G 0 0 (by decide) rfl (N := 6) (Tt := TX10) rfl kf10 3 (by decide) kl591 (v := .ref (aW 0 0)) rfl dX10_outlet_6 ?_
  refine kg_get F G 7 0 (by decide) rfl (N := 14) (Tt := TX9) rfl kf9 1 (by decide) kl101 (v := .ref (aW 0 2)) rfl dX10_outlet_9 ?_
  refine lv_astore_n (lv' := [(3, .ref (aW 0 2)), (0, .ref (aF 0)), (1, .int x1), (2, .int x2)]) F.1 F.2.1 dX10_outlet_12 rfl hl (by decide) rfl (fun ls hl => ?_)
  refine lv_iload_n F.1 F.2.1 dX10_outlet_13 rfl (lv_at hl 3 rfl) ?_
  by_cases c0 : x2 = 0
  · have h := op_t h c0
    refine k_tab F dX10_outlet_14 (tgt := 68) 0 c0 (by decide) (by decide) rfl (by decide) ?_
    refine lv_aload_n F.1 F.2.1 dX10_outlet_68 rfl (lv_at hl 1 rfl) ?_
    refine kg_get F G 0 0 (by decide) rfl (N := 6) (Tt := TX10) rfl kf10 2 (by decide) kl589 (v := .ref (aP 0)) rfl dX10_outlet_69 ?_
    refine kg_get F G 4 0 (by decide) rfl (N := 18) (Tt := TX5) rfl kf5 2 (by decide) kl655 (v := .ref (aP 1)) rfl dX10_outlet_72 ?_
    refine lv_iload_n F.1 F.2.1 dX10_outlet_75 rfl (lv_at hl 2 rfl) ?_
    obtain ⟨c, h⟩ := op_g h
    refine kg_iald F G 4 1 (by decide) rfl c dX10_outlet_76 ?_
    obtain ⟨rfl, rfl⟩ := op_2 h
    refine W.widen (k := 2) (n := 12) (Nat.le_of_ble_eq_true rfl) (Nat.le_of_ble_eq_true rfl) ?_
    exact kx_ret (k_iret F hr hlk G dX10_outlet_77)
  · have h := op_f h c0
    by_cases c1 : x2 = 1
    · have h := op_t h c1
      refine k_tab F dX10_outlet_14 (tgt := 78) 1 c1 (by decide) (by decide) rfl (by decide) ?_
      refine lv_aload_n F.1 F.2.1 dX10_outlet_78 rfl (lv_at hl 1 rfl) ?_
      refine kg_get F G 0 0 (by decide) rfl (N := 6) (Tt := TX10) rfl kf10 2 (by decide) kl589 (v := .ref (aP 0)) rfl dX10_outlet_79 ?_
      refine kg_get F G 4 0 (by decide) rfl (N := 18) (Tt := TX5) rfl kf5 3 (by decide) kl656 (v := .ref (aP 2)) rfl dX10_outlet_82 ?_
      refine lv_iload_n F.1 F.2.1 dX10_outlet_85 rfl (lv_at hl 2 rfl) ?_
      obtain ⟨c, h⟩ := op_g h
      refine kg_iald F G 4 2 (by decide) rfl c dX10_outlet_86 ?_
      obtain ⟨rfl, rfl⟩ := op_2 h
      refine W.widen (k := 2) (n := 12) (Nat.le_of_ble_eq_true rfl) (Nat.le_of_ble_eq_true rfl) ?_
      exact kx_ret (k_iret F hr hlk G dX10_outlet_87)
    · have h := op_f h c1
      by_cases c2 : x2 = 2
      · have h := op_t h c2
        refine k_tab F dX10_outlet_14 (tgt := 88) 2 c2 (by decide) (by decide) rfl (by decide) ?_
        refine lv_aload_n F.1 F.2.1 dX10_outlet_88 rfl (lv_at hl 1 rfl) ?_
        refine kg_get F G 0 0 (by decide) rfl (N := 6) (Tt := TX10) rfl kf10 2 (by decide) kl589 (v := .ref (aP 0)) rfl dX10_outlet_89 ?_
        refine kg_get F G 4 0 (by decide) rfl (N := 18) (Tt := TX5) rfl kf5 4 (by decide) kl657 (v := .ref (aP 3)) rfl dX10_outlet_92 ?_
        refine lv_iload_n F.1 F.2.1 dX10_outlet_95 rfl (lv_at hl 2 rfl) ?_
        obtain ⟨c, h⟩ := op_g h
        refine kg_iald F G 4 3 (by decide) rfl c dX10_outlet_96 ?_
        obtain ⟨rfl, rfl⟩ := op_2 h
        refine W.widen (k := 2) (n := 12) (Nat.le_of_ble_eq_true rfl) (Nat.le_of_ble_eq_true rfl) ?_
        exact kx_ret (k_iret F hr hlk G dX10_outlet_97)
      · have h := op_f h c2
        by_cases c3 : x2 = 3
        · have h := op_t h c3
          refine k_tab F dX10_outlet_14 (tgt := 98) 3 c3 (by decide) (by decide) rfl (by decide) ?_
          refine lv_aload_n F.1 F.2.1 dX10_outlet_98 rfl (lv_at hl 1 rfl) ?_
          refine kg_get F G 0 0 (by decide) rfl (N := 6) (Tt := TX10) rfl kf10 2 (by decide) kl589 (v := .ref (aP 0)) rfl dX10_outlet_99 ?_
          refine kg_get F G 4 0 (by decide) rfl (N := 18) (Tt := TX5) rfl kf5 5 (by decide) kl658 (v := .ref (aP 4)) rfl dX10_outlet_102 ?_
          refine lv_iload_n F.1 F.2.1 dX10_outlet_105 rfl (lv_at hl 2 rfl) ?_
          obtain ⟨c, h⟩ := op_g h
          refine kg_iald F G 4 4 (by decide) rfl c dX10_outlet_106 ?_
          obtain ⟨rfl, rfl⟩ := op_2 h
          refine W.widen (k := 2) (n := 12) (Nat.le_of_ble_eq_true rfl) (Nat.le_of_ble_eq_true rfl) ?_
          exact kx_ret (k_iret F hr hlk G dX10_outlet_107)
        · have h := op_f h c3
          by_cases c4 : x2 = 4
          · have h := op_t h c4
            refine k_tab F dX10_outlet_14 (tgt := 108) 4 c4 (by decide) (by decide) rfl (by decide) ?_
            refine lv_aload_n F.1 F.2.1 dX10_outlet_108 rfl (lv_at hl 0 rfl) ?_
            refine kg_get F G 7 2 (by decide) rfl (N := 9) (Tt := TX2) rfl kf2 1 (by decide) kl659 (v := .ref (aW 0 3)) rfl dX10_outlet_109 ?_
            refine lv_iload_n F.1 F.2.1 dX10_outlet_112 rfl (lv_at hl 2 rfl) ?_
            obtain ⟨c, h⟩ := op_g h
            refine kg_iald F G 7 3 (by decide) rfl c dX10_outlet_113 ?_
            obtain ⟨rfl, rfl⟩ := op_2 h
            refine W.widen (k := 2) (n := 12) (Nat.le_of_ble_eq_true rfl) (Nat.le_of_ble_eq_true rfl) ?_
            exact kx_ret (k_iret F hr hlk G dX10_outlet_114)
          · have h := op_f h c4
            by_cases c5 : x2 = 5
            · have h := op_t h c5
              refine k_tab F dX10_outlet_14 (tgt := 115) 5 c5 (by decide) (by decide) rfl (by decide) ?_
              refine lv_aload_n F.1 F.2.1 dX10_outlet_115 rfl (lv_at hl 0 rfl) ?_
              refine lv_iload_n F.1 F.2.1 dX10_outlet_116 rfl (lv_at hl 2 rfl) ?_
              obtain ⟨r_2, hc, h⟩ := op_b h
              refine k_callVR (rv := (some (.int r_2))) (Wc := (gW T aP (aW 0) v (ww 0))) (W2 := (gW T aP (aW 0) v (ww 0))) (Wn := (gU T aF aR aD aP aH aW tx ps nm v vn hs ww)) (As := [.int x1]) (rest := []) F G (mX2_doesWant l D T aP (aW 0) v (ww 0) x1 hc) (cwV 1 F.2.2.2.2 (kg_c kl667 (kg_c kl146 (kg_c kl147 (kg_c kl42 (kg_c kl137 kg_a))))) rfl rfl rfl (by decide +kernel) ⟨Nat.le_of_ble_eq_true rfl, Nat.le_of_ble_eq_true rfl⟩) (kg_recv G 7 2 (by decide) rfl (q := (RX2, TX2, 9)) rfl) (kCut_g (g' := (gFc T aF aR aD aP aH aW tx ps nm v vn hs ww)) [4, 7] G (by decide) (by decide) (gF_same [4, 7] (Or.inr rfl) (Or.inr ⟨rfl, rfl⟩) (Or.inr ⟨rfl, rfl⟩) (Or.inr rfl) (fun _ => Or.inr rfl)) gF_addr) rfl hl.1 rfl (Nat.le_of_ble_eq_true rfl) dX10_outlet_117 ⟨Nat.le_of_ble_eq_true rfl, Nat.le_of_ble_eq_true rfl⟩ (cN := 1) (sN := 6) ⟨rfl, rfl⟩ (fun H locs G => ?_)
              refine lv_if_eq (tgt := 127) F.1 F.2.1 dX10_outlet_120 (by decide) (fun c => ?_) (fun c => ?_)
              · have h := op_t h c
                refine lv_iconst (v := 0) F.1 F.2.1 dX10_outlet_127 (by decide) ?_
                obtain ⟨rfl, rfl⟩ := op_2 h
                refine W.widen (k := 2) (n := 12) (Nat.le_of_ble_eq_true rfl) (Nat.le_of_ble_eq_true rfl) ?_
                exact kx_ret (k_iret F hr hlk G dX10_outlet_128)
              · have h := op_f h c
                refine lv_iconst (v := 1) F.1 F.2.1 dX10_outlet_123 (by decide) ?_
                refine lv_goto (tgt := 128) F.1 F.2.1 dX10_outlet_124 (by decide) ?_
                obtain ⟨rfl, rfl⟩ := op_2 h
                refine W.widen (k := 2) (n := 12) (Nat.le_of_ble_eq_true rfl) (Nat.le_of_ble_eq_true rfl) ?_
                exact kx_ret (k_iret F hr hlk G dX10_outlet_128)
            · have h := op_f h c5
              by_cases c6 : x2 = 6
              · have h := op_t h c6
                refine k_tab F dX10_outlet_14 (tgt := 129) 6 c6 (by decide) (by decide) rfl (by decide) ?_
                refine lv_aload_n F.1 F.2.1 dX10_outlet_129 rfl (lv_at hl 0 rfl) ?_
                refine kg_get F G 7 2 (by decide) rfl (N := 9) (Tt := TX2) rfl kf2 2 (by decide) kl660 (v := .ref (aW 0 4)) rfl dX10_outlet_130 ?_
                refine lv_iload_n F.1 F.2.1 dX10_outlet_133 rfl (lv_at hl 2 rfl) ?_
                obtain ⟨c, h⟩ := op_g h
                refine kg_iald F G 7 4 (by decide) rfl c dX10_outlet_134 ?_
                obtain ⟨rfl, rfl⟩ := op_2 h
                refine W.widen (k := 2) (n := 12) (Nat.le_of_ble_eq_true rfl) (Nat.le_of_ble_eq_true rfl) ?_
                exact kx_ret (k_iret F hr hlk G dX10_outlet_135)
              · have h := op_f h c6
                by_cases c7 : x2 = 7
                · have h := op_t h c7
                  refine k_tab F dX10_outlet_14 (tgt := 136) 7 c7 (by decide) (by decide) rfl (by decide) ?_
                  refine lv_aload_n F.1 F.2.1 dX10_outlet_136 rfl (lv_at hl 0 rfl) ?_
                  refine kg_get F G 7 2 (by decide) rfl (N := 9) (Tt := TX2) rfl kf2 3 (by decide) kl661 (v := .ref (aW 0 5)) rfl dX10_outlet_137 ?_
                  refine lv_iload_n F.1 F.2.1 dX10_outlet_140 rfl (lv_at hl 2 rfl) ?_
                  obtain ⟨c, h⟩ := op_g h
                  refine kg_iald F G 7 5 (by decide) rfl c dX10_outlet_141 ?_
                  obtain ⟨rfl, rfl⟩ := op_2 h
                  refine W.widen (k := 2) (n := 12) (Nat.le_of_ble_eq_true rfl) (Nat.le_of_ble_eq_true rfl) ?_
                  exact kx_ret (k_iret F hr hlk G dX10_outlet_142)
                · have h := op_f h c7
                  by_cases c8 : x2 = 8
                  · have h := op_t h c8
                    refine k_tab F dX10_outlet_14 (tgt := 143) 8 c8 (by decide) (by decide) rfl (by decide) ?_
                    refine lv_aload_n F.1 F.2.1 dX10_outlet_143 rfl (lv_at hl 0 rfl) ?_
                    refine kg_get F G 7 2 (by decide) rfl (N := 9) (Tt := TX2) rfl kf2 4 (by decide) kl662 (v := .ref (aW 0 6)) rfl dX10_outlet_144 ?_
                    refine lv_iload_n F.1 F.2.1 dX10_outlet_147 rfl (lv_at hl 2 rfl) ?_
                    obtain ⟨c, h⟩ := op_g h
                    refine kg_iald F G 7 6 (by decide) rfl c dX10_outlet_148 ?_
                    obtain ⟨rfl, rfl⟩ := op_2 h
                    refine W.widen (k := 2) (n := 12) (Nat.le_of_ble_eq_true rfl) (Nat.le_of_ble_eq_true rfl) ?_
                    exact kx_ret (k_iret F hr hlk G dX10_outlet_149)
                  · have h := op_f h c8
                    by_cases c9 : x2 = 9
                    · have h := op_t h c9
                      refine k_tab F dX10_outlet_14 (tgt := 150) 9 c9 (by decide) (by decide) rfl (by decide) ?_
                      refine lv_aload_n F.1 F.2.1 dX10_outlet_150 rfl (lv_at hl 0 rfl) ?_
                      refine kg_get F G 7 2 (by decide) rfl (N := 9) (Tt := TX2) rfl kf2 5 (by decide) kl663 (v := .ref (aW 0 7)) rfl dX10_outlet_151 ?_
                      refine lv_iload_n F.1 F.2.1 dX10_outlet_154 rfl (lv_at hl 2 rfl) ?_
                      obtain ⟨c, h⟩ := op_g h
                      refine kg_iald F G 7 7 (by decide) rfl c dX10_outlet_155 ?_
                      obtain ⟨rfl, rfl⟩ := op_2 h
                      refine W.widen (k := 2) (n := 12) (Nat.le_of_ble_eq_true rfl) (Nat.le_of_ble_eq_true rfl) ?_
                      exact kx_ret (k_iret F hr hlk G dX10_outlet_156)
                    · have h := op_f h c9
                      refine lv_tableOut (tgt := 157) F.1 F.2.1 dX10_outlet_14 (tab_out 10 (by decide) (lt_s (lt_s (lt_s (lt_s (lt_s (lt_s (lt_s (lt_s (lt_s (lt_s lt_0 c0) c1) c2) c3) c4) c5) c6) c7) c8) c9)) (by decide) ?_
                      obtain ⟨rfl, rfl⟩ := op_2 h
                      obtain ⟨sa, hsa⟩ := kx_msg G 5 rfl
                      exact vx_throwS (own := RX10) (cls := "java/lang/IllegalArgumentException") (text := "no such report") (names := kNms) (ik := 78) (is := 206) (ic := 82) (mc := rmX10_outlet.cells) (ms := rmX10_outlet.slots) F.1 F.2.1 hst F.2.2.2.1 kx_f3 kx_nms (F.2.2.2.2 _ kl618) (F.2.2.2.2 _ kl619) hsa (kx_hat F G kxi2 kx_b3 (by decide +kernel)) kx_g3 G.2.2.2.2.1.2.2.2.2.1 G.2.2.2.2.1.2.2.2.2.2.1 G.2.2.2.1 (hl.1.trans F.2.2.1.symm) dX10_outlet_157 dX10_outlet_160 dX10_outlet_161 dX10_outlet_163 dX10_outlet_166 (fun x hx => (hex x hx).elim) (Nat.le_of_ble_eq_true rfl) (Nat.le_of_ble_eq_true rfl) (Nat.le_of_ble_eq_true rfl) (Nat.le_of_ble_eq_true rfl) hlk (kx_after G (by decide)) G.2.2.2.1.2.2 (Nat.le_of_ble_eq_true rfl) (Nat.le_of_ble_eq_true rfl)
abbrev rmX10_known : Room := ({ frames := 7, cells := 2, slots := 12, locals := 111 } : Room)
noncomputable def qX10_known (tx : Nat → Nat → Int32) (ps : Nat → Nat → Int32) (nm : Nat → Int64) (v : Nat → Nat → Int32) (vn : Nat → Int64) (hs : Nat → Nat → Int32) (ww : Nat → Nat → Nat → Int32) (x1 : Int32) (x2 : Int32) : Option (Nat × Int32) :=
  bd (qX10_checkOutlet tx ps nm v vn hs ww x1) fun e_1 => if e_1 = 0 then (if x2 = 0 then gd (vp_in x1 12) (some (0, (((ww 0) 18) x1.toNatClampNeg))) else if x2 = 1 then gd (vp_in x1 12) (some (0, (((ww 0) 19) x1.toNatClampNeg))) else if x2 = 2 then gd (vp_in x1 12) (some (0, (((ww 0) 20) x1.toNatClampNeg))) else if x2 = 3 then bd (qX3_reservedFor v (ww 0) x1) fun r_2 => some (0, r_2) else if x2 = 4 then gd (vp_in x1 12) (some (0, (((ww 0) 23) x1.toNatClampNeg))) else if x2 = 5 then bd (qX10_isIn ((ww 0) 21 0) x1) fun r_3 => if r_3 = 0 then some (0, 0) else some (0, 1) else some (3, 0)) else some (e_1, 0)

set_option maxHeartbeats 8000000 in
set_option maxRecDepth 100000 in
theorem mX10_known (l : Launch) (hst : l.stackTraces = false) (D : va_G) (T : Nat → ClassId) (aF : Nat → Nat) (aR : Nat → Nat) (aD : Nat → Nat) (aP : Nat → Nat) (aH : Nat → Nat) (aW : Nat → Nat → Nat) (tx : Nat → Nat → Int32) (ps : Nat → Nat → Int32) (nm : Nat → Int64) (v : Nat → Nat → Int32) (vn : Nat → Int64) (hs : Nat → Nat → Int32) (ww : Nat → Nat → Nat → Int32) (x1 : Int32) (x2 : Int32) {eR : Nat} {rR : Int32} (hres : qX10_known tx ps nm v vn hs ww x1 x2 = some (eR, rR)) : Cx l yX10_known (Cond.code yX10_known cX10_known 4 (some .int) :: kAll) rmX10_known D T [.ref (aF 0), .int x1, .int x2] (gU T aF aR aD aP aH aW tx ps nm v vn hs ww) eR (some (.int rR)) (gU T aF aR aD aP aH aW tx ps nm v vn hs ww) := by
  refine Cx.of (cc := cX10_known) (maxL := 4) (ret := (some .int)) (by decide +kernel) rfl (Nat.le_of_ble_eq_true rfl) ?_
  intro pr en st mi ag bl me co A ls F hr hlk hex G hl
  have hl : lv_has ls 4 [(0, .ref (aF 0)), (1, .int x1), (2, .int x2)] := hl
  have h := hres
  unfold qX10_known at h
  refine lv_aload_n F.1 F.2.1 dX10_known_0 rfl (lv_at hl 0 rfl) ?_
  refine lv_iload_n F.1 F.2.1 dX10_known_1 rfl (lv_at hl 1 rfl) ?_
  obtain ⟨e_1, hc, h⟩ := op_b h
  refine kx_callV (rv := none) (Wc := (gU T aF aR aD aP aH aW tx ps nm v vn hs ww)) (W2 := (gU T aF aR aD aP aH aW tx ps nm v vn hs ww)) (Wn := (gU T aF aR aD aP aH aW tx ps nm v vn hs ww)) (As := [.int x1]) (rest := []) F G (mX10_checkOutlet l hst D T aF aR aD aP aH aW tx ps nm v vn hs ww x1 hc) (cwV 1 F.2.2.2.2 (kg_c kl664 (kg_c kl665 (kg_c kl666 (kg_c kl80 (kg_c kl653 kg_a))))) rfl rfl rfl (by decide +kernel) ⟨Nat.le_of_ble_eq_true rfl, Nat.le_of_ble_eq_true rfl⟩) (kg_recv G 0 0 (by decide) rfl (q := (RX10, TX10, 6)) rfl) (kCut_F G) rfl hl.1 rfl (Nat.le_of_ble_eq_true rfl) dX10_known_2 ⟨Nat.le_of_ble_eq_true rfl, Nat.le_of_ble_eq_true rfl⟩ (cN := 1) (sN := 6) ⟨rfl, rfl⟩ (fun c ce q9 H locs G hce hcv hcl => ?_) (fun c H locs G => ?_)
  · have h := op_f h c
    obtain ⟨rfl, rfl⟩ := op_2 h
    exact kx_out hex hlk G c hce hcv hcl (Nat.le_of_ble_eq_true rfl) (Nat.le_of_ble_eq_true rfl)
  have h := op_t h c
  refine lv_aload_n F.1 F.2.1 dX10_known_5 rfl (lv_at hl 0 rfl) ?_
  refine kg_get F G 0 0 (by decide) rfl (N := 6) (Tt := TX10) rfl kf10 3 (by decide) kl591 (v := .ref (aW 0 0)) rfl dX10_known_6 ?_
  refine kg_get F G 7 0 (by decide) rfl (N := 14) (Tt := TX9) rfl kf9 2 (by decide) kl102 (v := .ref (aW 0 9)) rfl dX10_known_9 ?_
  refine lv_astore_n (lv' := [(3, .ref (aW 0 9)), (0, .ref (aF 0)), (1, .int x1), (2, .int x2)]) F.1 F.2.1 dX10_known_12 rfl hl (by decide) rfl (fun ls hl => ?_)
  refine lv_iload_n F.1 F.2.1 dX10_known_13 rfl (lv_at hl 3 rfl) ?_
  by_cases c0 : x2 = 0
  · have h := op_t h c0
    refine k_tab F dX10_known_14 (tgt := 52) 0 c0 (by decide) (by decide) rfl (by decide) ?_
    refine lv_aload_n F.1 F.2.1 dX10_known_52 rfl (lv_at hl 0 rfl) ?_
    refine kg_get F G 7 9 (by decide) rfl (N := 7) (Tt := TX3) rfl kf3 1 (by decide) kl669 (v := .ref (aW 0 10)) rfl dX10_known_53 ?_
    refine lv_iload_n F.1 F.2.1 dX10_known_56 rfl (lv_at hl 2 rfl) ?_
    obtain ⟨c, h⟩ := op_g h
    refine kg_iald F G 7 10 (by decide) rfl c dX10_known_57 ?_
    obtain ⟨rfl, rfl⟩ := op_2 h
    refine W.widen (k := 2) (n := 12) (Nat.le_of_ble_eq_true rfl) (Nat.le_of_ble_eq_true rfl) ?_
    exact kx_ret (k_iret F hr hlk G dX10_known_58)
  · have h := op_f h c0
    by_cases c1 : x2 = 1
    · have h := op_t h c1
      refine k_tab F dX10_known_14 (tgt := 59) 1 c1 (by decide) (by decide) rfl (by decide) ?_
      refine lv_aload_n F.1 F.2.1 dX10_known_59 rfl (lv_at hl 0 rfl) ?_
      refine kg_get F G 7 9 (by decide) rfl (N := 7) (Tt := TX3) rfl kf3 2 (by decide) kl670 (v := .ref (aW 0 11)) rfl dX10_known_60 ?_
      refine lv_iload_n F.1 F.2.1 dX10_known_63 rfl (lv_at hl 2 rfl) ?_
      obtain ⟨c, h⟩ := op_g h
      refine kg_iald F G 7 11 (by decide) rfl c dX10_known_64 ?_
      obtain ⟨rfl, rfl⟩ := op_2 h
      refine W.widen (k := 2) (n := 12) (Nat.le_of_ble_eq_true rfl) (Nat.le_of_ble_eq_true rfl) ?_
      exact kx_ret (k_iret F hr hlk G dX10_known_65)
    · have h := op_f h c1
      by_cases c2 : x2 = 2
      · have h := op_t h c2
        refine k_tab F dX10_known_14 (tgt := 66) 2 c2 (by decide) (by decide) rfl (by decide) ?_
        refine lv_aload_n F.1 F.2.1 dX10_known_66 rfl (lv_at hl 0 rfl) ?_
        refine kg_get F G 7 9 (by decide) rfl (N := 7) (Tt := TX3) rfl kf3 3 (by decide) kl671 (v := .ref (aW 0 12)) rfl dX10_known_67 ?_
        refine lv_iload_n F.1 F.2.1 dX10_known_70 rfl (lv_at hl 2 rfl) ?_
        obtain ⟨c, h⟩ := op_g h
        refine kg_iald F G 7 12 (by decide) rfl c dX10_known_71 ?_
        obtain ⟨rfl, rfl⟩ := op_2 h
        refine W.widen (k := 2) (n := 12) (Nat.le_of_ble_eq_true rfl) (Nat.le_of_ble_eq_true rfl) ?_
        exact kx_ret (k_iret F hr hlk G dX10_known_72)
      · have h := op_f h c2
        by_cases c3 : x2 = 3
        · have h := op_t h c3
          refine k_tab F dX10_known_14 (tgt := 73) 3 c3 (by decide) (by decide) rfl (by decide) ?_
          refine lv_aload_n F.1 F.2.1 dX10_known_73 rfl (lv_at hl 0 rfl) ?_
          refine lv_iload_n F.1 F.2.1 dX10_known_74 rfl (lv_at hl 2 rfl) ?_
          obtain ⟨r_2, hc, h⟩ := op_b h
          refine k_callVR (rv := (some (.int r_2))) (Wc := (gW T aP (aW 0) v (ww 0))) (W2 := (gW T aP (aW 0) v (ww 0))) (Wn := (gU T aF aR aD aP aH aW tx ps nm v vn hs ww)) (As := [.int x1]) (rest := []) F G (mX3_reservedFor l D T aP (aW 0) v (ww 0) x1 hc) (cwV 1 F.2.2.2.2 (kg_c kl675 (kg_c kl175 (kg_c kl176 (kg_c kl46 (kg_c kl170 kg_a))))) rfl rfl rfl (by decide +kernel) ⟨Nat.le_of_ble_eq_true rfl, Nat.le_of_ble_eq_true rfl⟩) (kg_recv G 7 9 (by decide) rfl (q := (RX3, TX3, 7)) rfl) (kCut_g (g' := (gFc T aF aR aD aP aH aW tx ps nm v vn hs ww)) [4, 7] G (by decide) (by decide) (gF_same [4, 7] (Or.inr rfl) (Or.inr ⟨rfl, rfl⟩) (Or.inr ⟨rfl, rfl⟩) (Or.inr rfl) (fun _ => Or.inr rfl)) gF_addr) rfl hl.1 rfl (Nat.le_of_ble_eq_true rfl) dX10_known_75 ⟨Nat.le_of_ble_eq_true rfl, Nat.le_of_ble_eq_true rfl⟩ (cN := 1) (sN := 6) ⟨rfl, rfl⟩ (fun H locs G => ?_)
          obtain ⟨rfl, rfl⟩ := op_2 h
          refine W.widen (k := 2) (n := 12) (Nat.le_of_ble_eq_true rfl) (Nat.le_of_ble_eq_true rfl) ?_
          exact kx_ret (k_iret F hr hlk G dX10_known_78)
        · have h := op_f h c3
          by_cases c4 : x2 = 4
          · have h := op_t h c4
            refine k_tab F dX10_known_14 (tgt := 79) 4 c4 (by decide) (by decide) rfl (by decide) ?_
            refine lv_aload_n F.1 F.2.1 dX10_known_79 rfl (lv_at hl 0 rfl) ?_
            refine kg_get F G 7 9 (by decide) rfl (N := 7) (Tt := TX3) rfl kf3 5 (by decide) kl672 (v := .ref (aW 0 13)) rfl dX10_known_80 ?_
            refine kg_get F G 7 13 (by decide) rfl (N := 3) (Tt := TX1) rfl kf1 1 (by decide) kl673 (v := .ref (aW 0 15)) rfl dX10_known_83 ?_
            refine lv_iload_n F.1 F.2.1 dX10_known_86 rfl (lv_at hl 2 rfl) ?_
            obtain ⟨c, h⟩ := op_g h
            refine kg_iald F G 7 15 (by decide) rfl c dX10_known_87 ?_
            obtain ⟨rfl, rfl⟩ := op_2 h
            refine W.widen (k := 2) (n := 12) (Nat.le_of_ble_eq_true rfl) (Nat.le_of_ble_eq_true rfl) ?_
            exact kx_ret (k_iret F hr hlk G dX10_known_88)
          · have h := op_f h c4
            by_cases c5 : x2 = 5
            · have h := op_t h c5
              refine k_tab F dX10_known_14 (tgt := 89) 5 c5 (by decide) (by decide) rfl (by decide) ?_
              refine lv_aload_n F.1 F.2.1 dX10_known_89 rfl (lv_at hl 0 rfl) ?_
              refine kg_get F G 7 9 (by decide) rfl (N := 7) (Tt := TX3) rfl kf3 4 (by decide) kl674 (v := .int ((ww 0) 21 0)) rfl dX10_known_90 ?_
              refine lv_iload_n F.1 F.2.1 dX10_known_93 rfl (lv_at hl 2 rfl) ?_
              obtain ⟨r_3, hc, h⟩ := op_b h
              refine k_callS (rv := (some (.int r_3))) (Wc := ([] : va_W)) (W2 := ([] : va_W)) (Wn := (gU T aF aR aD aP aH aW tx ps nm v vn hs ww)) (As := [.int ((ww 0) 21 0), .int x1]) (rest := []) F G (mX10_isIn l D T ((ww 0) 21 0) x1 hc) (va_cwS 2 F.2.2.2.2 (kg_c kl676 (kg_c kl122 (kg_c kl80 (kg_c kl119 kg_a)))) rfl rfl rfl (by decide +kernel) ⟨Nat.le_of_ble_eq_true rfl, Nat.le_of_ble_eq_true rfl⟩) (kCut_0 G) rfl hl.1 rfl (Nat.le_of_ble_eq_true rfl) dX10_known_94 ⟨Nat.le_of_ble_eq_true rfl, Nat.le_of_ble_eq_true rfl⟩ (cN := 1) (sN := 6) ⟨rfl, rfl⟩ (fun H locs G => ?_)
              refine lv_if_eq (tgt := 104) F.1 F.2.1 dX10_known_97 (by decide) (fun c => ?_) (fun c => ?_)
              · have h := op_t h c
                refine lv_iconst (v := 0) F.1 F.2.1 dX10_known_104 (by decide) ?_
                obtain ⟨rfl, rfl⟩ := op_2 h
                refine W.widen (k := 2) (n := 12) (Nat.le_of_ble_eq_true rfl) (Nat.le_of_ble_eq_true rfl) ?_
                exact kx_ret (k_iret F hr hlk G dX10_known_105)
              · have h := op_f h c
                refine lv_iconst (v := 1) F.1 F.2.1 dX10_known_100 (by decide) ?_
                refine lv_goto (tgt := 105) F.1 F.2.1 dX10_known_101 (by decide) ?_
                obtain ⟨rfl, rfl⟩ := op_2 h
                refine W.widen (k := 2) (n := 12) (Nat.le_of_ble_eq_true rfl) (Nat.le_of_ble_eq_true rfl) ?_
                exact kx_ret (k_iret F hr hlk G dX10_known_105)
            · have h := op_f h c5
              refine lv_tableOut (tgt := 106) F.1 F.2.1 dX10_known_14 (tab_out 6 (by decide) (lt_s (lt_s (lt_s (lt_s (lt_s (lt_s lt_0 c0) c1) c2) c3) c4) c5)) (by decide) ?_
              obtain ⟨rfl, rfl⟩ := op_2 h
              obtain ⟨sa, hsa⟩ := kx_msg G 5 rfl
              exact vx_throwS (own := RX10) (cls := "java/lang/IllegalArgumentException") (text := "no such report") (names := kNms) (ik := 78) (is := 206) (ic := 82) (mc := rmX10_known.cells) (ms := rmX10_known.slots) F.1 F.2.1 hst F.2.2.2.1 kx_f3 kx_nms (F.2.2.2.2 _ kl618) (F.2.2.2.2 _ kl619) hsa (kx_hat F G kxi2 kx_b3 (by decide +kernel)) kx_g3 G.2.2.2.2.1.2.2.2.2.1 G.2.2.2.2.1.2.2.2.2.2.1 G.2.2.2.1 (hl.1.trans F.2.2.1.symm) dX10_known_106 dX10_known_109 dX10_known_110 dX10_known_112 dX10_known_115 (fun x hx => (hex x hx).elim) (Nat.le_of_ble_eq_true rfl) (Nat.le_of_ble_eq_true rfl) (Nat.le_of_ble_eq_true rfl) (Nat.le_of_ble_eq_true rfl) hlk (kx_after G (by decide)) G.2.2.2.1.2.2 (Nat.le_of_ble_eq_true rfl) (Nat.le_of_ble_eq_true rfl)
abbrev rmX10_needs : Room := ({ frames := 7, cells := 1, slots := 6, locals := 111 } : Room)
noncomputable def qX10_needs (tx : Nat → Nat → Int32) (ps : Nat → Nat → Int32) (nm : Nat → Int64) (v : Nat → Nat → Int32) (vn : Nat → Int64) (hs : Nat → Nat → Int32) (ww : Nat → Nat → Nat → Int32) (x1 : Int32) (x2 : Int32) : Option (Nat × Int32) :=
  bd (qX10_checkOutlet tx ps nm v vn hs ww x1) fun e_1 => if e_1 = 0 then if x2 = 0 then gd (vp_in x1 12) (some (0, ((v 14) x1.toNatClampNeg))) else bd (qX5_neededBy v x1) fun r_2 => some (0, r_2) else some (e_1, 0)

set_option maxHeartbeats 8000000 in
set_option maxRecDepth 100000 in
theorem mX10_needs (l : Launch) (hst : l.stackTraces = false) (D : va_G) (T : Nat → ClassId) (aF : Nat → Nat) (aR : Nat → Nat) (aD : Nat → Nat) (aP : Nat → Nat) (aH : Nat → Nat) (aW : Nat → Nat → Nat) (tx : Nat → Nat → Int32) (ps : Nat → Nat → Int32) (nm : Nat → Int64) (v : Nat → Nat → Int32) (vn : Nat → Int64) (hs : Nat → Nat → Int32) (ww : Nat → Nat → Nat → Int32) (x1 : Int32) (x2 : Int32) {eR : Nat} {rR : Int32} (hres : qX10_needs tx ps nm v vn hs ww x1 x2 = some (eR, rR)) : Cx l yX10_needs (Cond.code yX10_needs cX10_needs 3 (some .int) :: kAll) rmX10_needs D T [.ref (aF 0), .int x1, .int x2] (gU T aF aR aD aP aH aW tx ps nm v vn hs ww) eR (some (.int rR)) (gU T aF aR aD aP aH aW tx ps nm v vn hs ww) := by
  refine Cx.of (cc := cX10_needs) (maxL := 3) (ret := (some .int)) (by decide +kernel) rfl (Nat.le_of_ble_eq_true rfl) ?_
  intro pr en st mi ag bl me co A ls F hr hlk hex G hl
  have hl : lv_has ls 3 [(0, .ref (aF 0)), (1, .int x1), (2, .int x2)] := hl
  have h := hres
  unfold qX10_needs at h
  refine lv_aload_n F.1 F.2.1 dX10_needs_0 rfl (lv_at hl 0 rfl) ?_
  refine lv_iload_n F.1 F.2.1 dX10_needs_1 rfl (lv_at hl 1 rfl) ?_
  obtain ⟨e_1, hc, h⟩ := op_b h
  refine kx_callV (rv := none) (Wc := (gU T aF aR aD aP aH aW tx ps nm v vn hs ww)) (W2 := (gU T aF aR aD aP aH aW tx ps nm v vn hs ww)) (Wn := (gU T aF aR aD aP aH aW tx ps nm v vn hs ww)) (As := [.int x1]) (rest := []) F G (mX10_checkOutlet l hst D T aF aR aD aP aH aW tx ps nm v vn hs ww x1 hc) (cwV 1 F.2.2.2.2 (kg_c kl664 (kg_c kl665 (kg_c kl666 (kg_c kl80 (kg_c kl653 kg_a))))) rfl rfl rfl (by decide +kernel) ⟨Nat.le_of_ble_eq_true rfl, Nat.le_of_ble_eq_true rfl⟩) (kg_recv G 0 0 (by decide) rfl (q := (RX10, TX10, 6)) rfl) (kCut_F G) rfl hl.1 rfl (Nat.le_of_ble_eq_true rfl) dX10_needs_2 ⟨Nat.le_of_ble_eq_true rfl, Nat.le_of_ble_eq_true rfl⟩ (cN := 1) (sN := 6) ⟨rfl, rfl⟩ (fun c ce q9 H locs G hce hcv hcl => ?_) (fun c H locs G => ?_)
  · have h := op_f h c
    obtain ⟨rfl, rfl⟩ := op_2 h
    exact kx_out hex hlk G c hce hcv hcl (Nat.le_of_ble_eq_true rfl) (Nat.le_of_ble_eq_true rfl)
  have h := op_t h c
  refine lv_iload_n F.1 F.2.1 dX10_needs_5 rfl (lv_at hl 2 rfl) ?_
  refine lv_if_eq (tgt := 20) F.1 F.2.1 dX10_needs_6 (by decide) (fun c => ?_) (fun c => ?_)
  · have h := op_t h c
    refine lv_aload_n F.1 F.2.1 dX10_needs_20 rfl (lv_at hl 0 rfl) ?_
    refine kg_get F G 0 0 (by decide) rfl (N := 6) (Tt := TX10) rfl kf10 2 (by decide) kl589 (v := .ref (aP 0)) rfl dX10_needs_21 ?_
    refine kg_get F G 4 0 (by decide) rfl (N := 18) (Tt := TX5) rfl kf5 7 (by decide) kl678 (v := .ref (aP 6)) rfl dX10_needs_24 ?_
    refine lv_iload_n F.1 F.2.1 dX10_needs_27 rfl (lv_at hl 1 rfl) ?_
    obtain ⟨c, h⟩ := op_g h
    refine kg_iald F G 4 6 (by decide) rfl c dX10_needs_28 ?_
    obtain ⟨rfl, rfl⟩ := op_2 h
    exact kx_ret (k_iret F hr hlk G dX10_needs_29)
  · have h := op_f h c
    refine lv_aload_n F.1 F.2.1 dX10_needs_9 rfl (lv_at hl 0 rfl) ?_
    refine kg_get F G 0 0 (by decide) rfl (N := 6) (Tt := TX10) rfl kf10 2 (by decide) kl589 (v := .ref (aP 0)) rfl dX10_needs_10 ?_
    refine lv_iload_n F.1 F.2.1 dX10_needs_13 rfl (lv_at hl 1 rfl) ?_
    obtain ⟨r_2, hc, h⟩ := op_b h
    refine k_callVR (rv := (some (.int r_2))) (Wc := (gV T aP v)) (W2 := (gV T aP v)) (Wn := (gU T aF aR aD aP aH aW tx ps nm v vn hs ww)) (As := [.int x1]) (rest := []) F G (mX5_neededBy l D T aP v x1 hc) (cwV 1 F.2.2.2.2 (kg_c kl679 (kg_c kl680 (kg_c kl681 (kg_c kl223 (kg_c kl423 kg_a))))) rfl rfl rfl (by decide +kernel) ⟨Nat.le_of_ble_eq_true rfl, Nat.le_of_ble_eq_true rfl⟩) (kg_recv G 4 0 (by decide) rfl (q := (RX5, TX5, 18)) rfl) (kCut_g (g' := (gFc T aF aR aD aP aH aW tx ps nm v vn hs ww)) [4] G (by decide) (by decide) (gF_same [4] (Or.inr rfl) (Or.inr ⟨rfl, rfl⟩) (Or.inr ⟨rfl, rfl⟩) (Or.inr rfl) (fun _ => Or.inr rfl)) gF_addr) rfl hl.1 rfl (Nat.le_of_ble_eq_true rfl) dX10_needs_14 ⟨Nat.le_of_ble_eq_true rfl, Nat.le_of_ble_eq_true rfl⟩ (cN := 1) (sN := 6) ⟨rfl, rfl⟩ (fun H locs G => ?_)
    refine lv_goto (tgt := 29) F.1 F.2.1 dX10_needs_17 (by decide) ?_
    obtain ⟨rfl, rfl⟩ := op_2 h
    exact kx_ret (k_iret F hr hlk G dX10_needs_29)
abbrev rmX10_outletsWith : Room := ({ frames := 7, cells := 1, slots := 6, locals := 112 } : Room)
noncomputable def qX10_outletsWith (tx : Nat → Nat → Int32) (ps : Nat → Nat → Int32) (nm : Nat → Int64) (v : Nat → Nat → Int32) (vn : Nat → Int64) (hs : Nat → Nat → Int32) (ww : Nat → Nat → Nat → Int32) (x1 : Int32) (x2 : Int32) : Option (Nat × Int32) :=
  bd (qX10_checkRange x1 0 3) fun e_1 => if e_1 = 0 then if x2 = 0 then bd (qX2_inState v (ww 0) x1) fun r_2 => some (0, r_2) else bd (qX3_markedWith v (ww 0) x1) fun r_3 => some (0, r_3) else some (e_1, 0)

set_option maxHeartbeats 8000000 in
set_option maxRecDepth 100000 in
theorem mX10_outletsWith (l : Launch) (hst : l.stackTraces = false) (D : va_G) (T : Nat → ClassId) (aF : Nat → Nat) (aR : Nat → Nat) (aD : Nat → Nat) (aP : Nat → Nat) (aH : Nat → Nat) (aW : Nat → Nat → Nat) (tx : Nat → Nat → Int32) (ps : Nat → Nat → Int32) (nm : Nat → Int64) (v : Nat → Nat → Int32) (vn : Nat → Int64) (hs : Nat → Nat → Int32) (ww : Nat → Nat → Nat → Int32) (x1 : Int32) (x2 : Int32) {eR : Nat} {rR : Int32} (hres : qX10_outletsWith tx ps nm v vn hs ww x1 x2 = some (eR, rR)) : Cx l yX10_outletsWith (Cond.code yX10_outletsWith cX10_outletsWith 3 (some .int) :: kAll) rmX10_outletsWith D T [.ref (aF 0), .int x1, .int x2] (gU T aF aR aD aP aH aW tx ps nm v vn hs ww) eR (some (.int rR)) (gU T aF aR aD aP aH aW tx ps nm v vn hs ww) := by
  refine Cx.of (cc := cX10_outletsWith) (maxL := 3) (ret := (some .int)) (by decide +kernel) rfl (Nat.le_of_ble_eq_true rfl) ?_
  intro pr en st mi ag bl me co A ls F hr hlk hex G hl
  have hl : lv_has ls 3 [(0, .ref (aF 0)), (1, .int x1), (2, .int x2)] := hl
  have h := hres
  unfold qX10_outletsWith at h
  refine lv_iload_n F.1 F.2.1 dX10_outletsWith_0 rfl (lv_at hl 1 rfl) ?_
  refine lv_iconst (v := 0) F.1 F.2.1 dX10_outletsWith_1 (by decide) ?_
  refine lv_iconst (v := 3) F.1 F.2.1 dX10_outletsWith_2 (by decide) ?_
  obtain ⟨e_1, hc, h⟩ := op_b h
  refine kx_callS (rv := none) (Wc := ([] : va_W)) (W2 := ([] : va_W)) (Wn := (gU T aF aR aD aP aH aW tx ps nm v vn hs ww)) (As := [.int x1, .int 0, .int 3]) (rest := []) F G (mX10_checkRange l hst D T x1 0 3 hc) (va_cwS 3 F.2.2.2.2 (kg_c kl684 (kg_c kl685 (kg_c kl80 (kg_c kl682 kg_a)))) rfl rfl rfl (by decide +kernel) ⟨Nat.le_of_ble_eq_true rfl, Nat.le_of_ble_eq_true rfl⟩) (kCut_0 G) rfl hl.1 rfl (Nat.le_of_ble_eq_true rfl) dX10_outletsWith_3 ⟨Nat.le_of_ble_eq_true rfl, Nat.le_of_ble_eq_true rfl⟩ (cN := 1) (sN := 6) ⟨rfl, rfl⟩ (fun c ce q9 H locs G hce hcv hcl => ?_) (fun c H locs G => ?_)
  · have h := op_f h c
    obtain ⟨rfl, rfl⟩ := op_2 h
    exact kx_out hex hlk G c hce hcv hcl (Nat.le_of_ble_eq_true rfl) (Nat.le_of_ble_eq_true rfl)
  have h := op_t h c
  refine lv_iload_n F.1 F.2.1 dX10_outletsWith_6 rfl (lv_at hl 2 rfl) ?_
  refine lv_if_eq (tgt := 24) F.1 F.2.1 dX10_outletsWith_7 (by decide) (fun c => ?_) (fun c => ?_)
  · have h := op_t h c
    refine lv_aload_n F.1 F.2.1 dX10_outletsWith_24 rfl (lv_at hl 0 rfl) ?_
    refine kg_get F G 0 0 (by decide) rfl (N := 6) (Tt := TX10) rfl kf10 3 (by decide) kl591 (v := .ref (aW 0 0)) rfl dX10_outletsWith_25 ?_
    refine kg_get F G 7 0 (by decide) rfl (N := 14) (Tt := TX9) rfl kf9 1 (by decide) kl101 (v := .ref (aW 0 2)) rfl dX10_outletsWith_28 ?_
    refine lv_iload_n F.1 F.2.1 dX10_outletsWith_31 rfl (lv_at hl 1 rfl) ?_
    obtain ⟨r_2, hc, h⟩ := op_b h
    refine k_callVR (rv := (some (.int r_2))) (Wc := (gW T aP (aW 0) v (ww 0))) (W2 := (gW T aP (aW 0) v (ww 0))) (Wn := (gU T aF aR aD aP aH aW tx ps nm v vn hs ww)) (As := [.int x1]) (rest := []) F G (mX2_inState l D T aP (aW 0) v (ww 0) x1 hc) (cwV 1 F.2.2.2.2 (kg_c kl687 (kg_c kl688 (kg_c kl689 (kg_c kl42 (kg_c kl138 kg_a))))) rfl rfl rfl (by decide +kernel) ⟨Nat.le_of_ble_eq_true rfl, Nat.le_of_ble_eq_true rfl⟩) (kg_recv G 7 2 (by decide) rfl (q := (RX2, TX2, 9)) rfl) (kCut_g (g' := (gFc T aF aR aD aP aH aW tx ps nm v vn hs ww)) [4, 7] G (by decide) (by decide) (gF_same [4, 7] (Or.inr rfl) (Or.inr ⟨rfl, rfl⟩) (Or.inr ⟨rfl, rfl⟩) (Or.inr rfl) (fun _ => Or.inr rfl)) gF_addr) rfl hl.1 rfl (Nat.le_of_ble_eq_true rfl) dX10_outletsWith_32 ⟨Nat.le_of_ble_eq_true rfl, Nat.le_of_ble_eq_true rfl⟩ (cN := 1) (sN := 6) ⟨rfl, rfl⟩ (fun H locs G => ?_)
    obtain ⟨rfl, rfl⟩ := op_2 h
    exact kx_ret (k_iret F hr hlk G dX10_outletsWith_35)
  · have h := op_f h c
    refine lv_aload_n F.1 F.2.1 dX10_outletsWith_10 rfl (lv_at hl 0 rfl) ?_
    refine kg_get F G 0 0 (by decide) rfl (N := 6) (Tt := TX10) rfl kf10 3 (by decide) kl591 (v := .ref (aW 0 0)) rfl dX10_outletsWith_11 ?_
    refine kg_get F G 7 0 (by decide) rfl (N := 14) (Tt := TX9) rfl kf9 2 (by decide) kl102 (v := .ref (aW 0 9)) rfl dX10_outletsWith_14 ?_
    refine lv_iload_n F.1 F.2.1 dX10_outletsWith_17 rfl (lv_at hl 1 rfl) ?_
    obtain ⟨r_3, hc, h⟩ := op_b h
    refine k_callVR (rv := (some (.int r_3))) (Wc := (gW T aP (aW 0) v (ww 0))) (W2 := (gW T aP (aW 0) v (ww 0))) (Wn := (gU T aF aR aD aP aH aW tx ps nm v vn hs ww)) (As := [.int x1]) (rest := []) F G (mX3_markedWith l D T aP (aW 0) v (ww 0) x1 hc) (cwV 1 F.2.2.2.2 (kg_c kl686 (kg_c kl196 (kg_c kl197 (kg_c kl46 (kg_c kl177 kg_a))))) rfl rfl rfl (by decide +kernel) ⟨Nat.le_of_ble_eq_true rfl, Nat.le_of_ble_eq_true rfl⟩) (kg_recv G 7 9 (by decide) rfl (q := (RX3, TX3, 7)) rfl) (kCut_g (g' := (gFc T aF aR aD aP aH aW tx ps nm v vn hs ww)) [4, 7] G (by decide) (by decide) (gF_same [4, 7] (Or.inr rfl) (Or.inr ⟨rfl, rfl⟩) (Or.inr ⟨rfl, rfl⟩) (Or.inr rfl) (fun _ => Or.inr rfl)) gF_addr) rfl hl.1 rfl (Nat.le_of_ble_eq_true rfl) dX10_outletsWith_18 ⟨Nat.le_of_ble_eq_true rfl, Nat.le_of_ble_eq_true rfl⟩ (cN := 1) (sN := 6) ⟨rfl, rfl⟩ (fun H locs G => ?_)
    refine lv_goto (tgt := 35) F.1 F.2.1 dX10_outletsWith_21 (by decide) ?_
    obtain ⟨rfl, rfl⟩ := op_2 h
    exact kx_ret (k_iret F hr hlk G dX10_outletsWith_35)
abbrev rmX10_rights : Room := ({ frames := 2, cells := 0, slots := 0, locals := 45 } : Room)
noncomputable def qX10_rights (tx : Nat → Nat → Int32) (ps : Nat → Nat → Int32) (nm : Nat → Int64) (v : Nat → Nat → Int32) (vn : Nat → Int64) (hs : Nat → Nat → Int32) (ww : Nat → Nat → Nat → Int32) : Option (Int32) :=
  bd (qX9_entitled v (ww 0)) fun r_1 => some r_1

set_option maxHeartbeats 8000000 in
set_option maxRecDepth 100000 in
theorem mX10_rights (l : Launch) (D : va_G) (T : Nat → ClassId) (aF : Nat → Nat) (aR : Nat → Nat) (aD : Nat → Nat) (aP : Nat → Nat) (aH : Nat → Nat) (aW : Nat → Nat → Nat) (tx : Nat → Nat → Int32) (ps : Nat → Nat → Int32) (nm : Nat → Int64) (v : Nat → Nat → Int32) (vn : Nat → Int64) (hs : Nat → Nat → Int32) (ww : Nat → Nat → Nat → Int32) {rR : Int32} (hres : qX10_rights tx ps nm v vn hs ww = some (rR)) : Ct l yX10_rights (Cond.code yX10_rights cX10_rights 1 (some .int) :: kAll) rmX10_rights D T [.ref (aF 0)] (gU T aF aR aD aP aH aW tx ps nm v vn hs ww) (some (.int rR)) (gU T aF aR aD aP aH aW tx ps nm v vn hs ww) := by
  refine Ct.of (cc := cX10_rights) (maxL := 1) (ret := (some .int)) (by decide +kernel) rfl (Nat.le_of_ble_eq_true rfl) ?_
  intro pr en st mi ag bl me co A ls F hr hlk hnm G hl
  have hl : lv_has ls 1 [(0, .ref (aF 0))] := hl
  have h := hres
  unfold qX10_rights at h
  refine lv_aload_n F.1 F.2.1 dX10_rights_0 rfl (lv_at hl 0 rfl) ?_
  refine kg_get F G 0 0 (by decide) rfl (N := 6) (Tt := TX10) rfl kf10 3 (by decide) kl591 (v := .ref (aW 0 0)) rfl dX10_rights_1 ?_
  obtain ⟨r_1, hc, h⟩ := op_b h
  refine k_callVR (rv := (some (.int r_1))) (Wc := (gW T aP (aW 0) v (ww 0))) (W2 := (gW T aP (aW 0) v (ww 0))) (Wn := (gU T aF aR aD aP aH aW tx ps nm v vn hs ww)) (As := []) (rest := []) F G (mX9_entitled l D T aP (aW 0) v (ww 0) hc) (cwV 0 F.2.2.2.2 (kg_c kl691 (kg_c kl558 (kg_c kl559 (kg_c kl64 (kg_c kl487 kg_a))))) rfl rfl rfl (by decide +kernel) ⟨Nat.le_of_ble_eq_true rfl, Nat.le_of_ble_eq_true rfl⟩) (kg_recv G 7 0 (by decide) rfl (q := (RX9, TX9, 14)) rfl) (kCut_g (g' := (gFc T aF aR aD aP aH aW tx ps nm v vn hs ww)) [4, 7] G (by decide) (by decide) (gF_same [4, 7] (Or.inr rfl) (Or.inr ⟨rfl, rfl⟩) (Or.inr ⟨rfl, rfl⟩) (Or.inr rfl) (fun _ => Or.inr rfl)) gF_addr) rfl hl.1 rfl (Nat.le_of_ble_eq_true rfl) dX10_rights_4 ⟨Nat.le_of_ble_eq_true rfl, Nat.le_of_ble_eq_true rfl⟩ (cN := 0) (sN := 0) ⟨rfl, rfl⟩ (fun H locs G => ?_)
  obtain rfl := op_1 h
  exact k_iret F hr hlk G dX10_rights_7
abbrev rmX10_load_ : Room := ({ frames := 6, cells := 1, slots := 6, locals := 90 } : Room)
noncomputable def qX10_load_ (tx : Nat → Nat → Int32) (ps : Nat → Nat → Int32) (nm : Nat → Int64) (v : Nat → Nat → Int32) (vn : Nat → Int64) (hs : Nat → Nat → Int32) (ww : Nat → Nat → Nat → Int32) (x1 : Int32) : Option (Nat × Int32) :=
  (if x1 = 0 then bd (qX9_drawOfAll v (ww 0)) fun r_1 => some (0, r_1) else if x1 = 1 then some (0, ((ww 0) 7 0)) else if x1 = 2 then bd (qX3_reservedForAll v (ww 0)) fun r_2 => some (0, r_2) else some (3, 0))

set_option maxHeartbeats 8000000 in
set_option maxRecDepth 100000 in
theorem mX10_load_ (l : Launch) (hst : l.stackTraces = false) (D : va_G) (T : Nat → ClassId) (aF : Nat → Nat) (aR : Nat → Nat) (aD : Nat → Nat) (aP : Nat → Nat) (aH : Nat → Nat) (aW : Nat → Nat → Nat) (tx : Nat → Nat → Int32) (ps : Nat → Nat → Int32) (nm : Nat → Int64) (v : Nat → Nat → Int32) (vn : Nat → Int64) (hs : Nat → Nat → Int32) (ww : Nat → Nat → Nat → Int32) (x1 : Int32) {eR : Nat} {rR : Int32} (hres : qX10_load_ tx ps nm v vn hs ww x1 = some (eR, rR)) : Cx l yX10_load_ (Cond.code yX10_load_ cX10_load_ 2 (some .int) :: kAll) rmX10_load_ D T [.ref (aF 0), .int x1] (gU T aF aR aD aP aH aW tx ps nm v vn hs ww) eR (some (.int rR)) (gU T aF aR aD aP aH aW tx ps nm v vn hs ww) := by
  refine Cx.of (cc := cX10_load_) (maxL := 2) (ret := (some .int)) (by decide +kernel) rfl (Nat.le_of_ble_eq_true rfl) ?_
  intro pr en st mi ag bl me co A ls F hr hlk hex G hl
  have hl : lv_has ls 2 [(0, .ref (aF 0)), (1, .int x1)] := hl
  have h := hres
  unfold qX10_load_ at h
  refine lv_iload_n F.1 F.2.1 dX10_load__0 rfl (lv_at hl 1 rfl) ?_
  by_cases c0 : x1 = 0
  · have h := op_t h c0
    refine k_tab F dX10_load__1 (tgt := 28) 0 c0 (by decide) (by decide) rfl (by decide) ?_
    refine lv_aload_n F.1 F.2.1 dX10_load__28 rfl (lv_at hl 0 rfl) ?_
    refine kg_get F G 0 0 (by decide) rfl (N := 6) (Tt := TX10) rfl kf10 3 (by decide) kl591 (v := .ref (aW 0 0)) rfl dX10_load__29 ?_
    obtain ⟨r_1, hc, h⟩ := op_b h
    refine k_callVR (rv := (some (.int r_1))) (Wc := (gW T aP (aW 0) v (ww 0))) (W2 := (gW T aP (aW 0) v (ww 0))) (Wn := (gU T aF aR aD aP aH aW tx ps nm v vn hs ww)) (As := []) (rest := []) F G (mX9_drawOfAll l D T aP (aW 0) v (ww 0) hc) (cwV 0 F.2.2.2.2 (kg_c kl693 (kg_c kl539 (kg_c kl540 (kg_c kl64 (kg_c kl533 kg_a))))) rfl rfl rfl (by decide +kernel) ⟨Nat.le_of_ble_eq_true rfl, Nat.le_of_ble_eq_true rfl⟩) (kg_recv G 7 0 (by decide) rfl (q := (RX9, TX9, 14)) rfl) (kCut_g (g' := (gFc T aF aR aD aP aH aW tx ps nm v vn hs ww)) [4, 7] G (by decide) (by decide) (gF_same [4, 7] (Or.inr rfl) (Or.inr ⟨rfl, rfl⟩) (Or.inr ⟨rfl, rfl⟩) (Or.inr rfl) (fun _ => Or.inr rfl)) gF_addr) rfl hl.1 rfl (Nat.le_of_ble_eq_true rfl) dX10_load__32 ⟨Nat.le_of_ble_eq_true rfl, Nat.le_of_ble_eq_true rfl⟩ (cN := 0) (sN := 0) ⟨rfl, rfl⟩ (fun H locs G => ?_)
    obtain ⟨rfl, rfl⟩ := op_2 h
    refine W.widen (k := 1) (n := 6) (Nat.le_of_ble_eq_true rfl) (Nat.le_of_ble_eq_true rfl) ?_
    exact kx_ret (k_iret F hr hlk G dX10_load__35)
  · have h := op_f h c0
    by_cases c1 : x1 = 1
    · have h := op_t h c1
      refine k_tab F dX10_load__1 (tgt := 36) 1 c1 (by decide) (by decide) rfl (by decide) ?_
      refine lv_aload_n F.1 F.2.1 dX10_load__36 rfl (lv_at hl 0 rfl) ?_
      refine kg_get F G 0 0 (by decide) rfl (N := 6) (Tt := TX10) rfl kf10 3 (by decide) kl591 (v := .ref (aW 0 0)) rfl dX10_load__37 ?_
      refine kg_get F G 7 0 (by decide) rfl (N := 14) (Tt := TX9) rfl kf9 11 (by decide) kl100 (v := .int ((ww 0) 7 0)) rfl dX10_load__40 ?_
      obtain ⟨rfl, rfl⟩ := op_2 h
      refine W.widen (k := 1) (n := 6) (Nat.le_of_ble_eq_true rfl) (Nat.le_of_ble_eq_true rfl) ?_
      exact kx_ret (k_iret F hr hlk G dX10_load__43)
    · have h := op_f h c1
      by_cases c2 : x1 = 2
      · have h := op_t h c2
        refine k_tab F dX10_load__1 (tgt := 44) 2 c2 (by decide) (by decide) rfl (by decide) ?_
        refine lv_aload_n F.1 F.2.1 dX10_load__44 rfl (lv_at hl 0 rfl) ?_
        refine kg_get F G 0 0 (by decide) rfl (N := 6) (Tt := TX10) rfl kf10 3 (by decide) kl591 (v := .ref (aW 0 0)) rfl dX10_load__45 ?_
        refine kg_get F G 7 0 (by decide) rfl (N := 14) (Tt := TX9) rfl kf9 2 (by decide) kl102 (v := .ref (aW 0 9)) rfl dX10_load__48 ?_
        obtain ⟨r_2, hc, h⟩ := op_b h
        refine k_callVR (rv := (some (.int r_2))) (Wc := (gW T aP (aW 0) v (ww 0))) (W2 := (gW T aP (aW 0) v (ww 0))) (Wn := (gU T aF aR aD aP aH aW tx ps nm v vn hs ww)) (As := []) (rest := []) F G (mX3_reservedForAll l D T aP (aW 0) v (ww 0) hc) (cwV 0 F.2.2.2.2 (kg_c kl694 (kg_c kl527 (kg_c kl528 (kg_c kl46 (kg_c kl172 kg_a))))) rfl rfl rfl (by decide +kernel) ⟨Nat.le_of_ble_eq_true rfl, Nat.le_of_ble_eq_true rfl⟩) (kg_recv G 7 9 (by decide) rfl (q := (RX3, TX3, 7)) rfl) (kCut_g (g' := (gFc T aF aR aD aP aH aW tx ps nm v vn hs ww)) [4, 7] G (by decide) (by decide) (gF_same [4, 7] (Or.inr rfl) (Or.inr ⟨rfl, rfl⟩) (Or.inr ⟨rfl, rfl⟩) (Or.inr rfl) (fun _ => Or.inr rfl)) gF_addr) rfl hl.1 rfl (Nat.le_of_ble_eq_true rfl) dX10_load__51 ⟨Nat.le_of_ble_eq_true rfl, Nat.le_of_ble_eq_true rfl⟩ (cN := 0) (sN := 0) ⟨rfl, rfl⟩ (fun H locs G => ?_)
        obtain ⟨rfl, rfl⟩ := op_2 h
        refine W.widen (k := 1) (n := 6) (Nat.le_of_ble_eq_true rfl) (Nat.le_of_ble_eq_true rfl) ?_
        exact kx_ret (k_iret F hr hlk G dX10_load__54)
      · have h := op_f h c2
        refine lv_tableOut (tgt := 55) F.1 F.2.1 dX10_load__1 (tab_out 3 (by decide) (lt_s (lt_s (lt_s lt_0 c0) c1) c2)) (by decide) ?_
        obtain ⟨rfl, rfl⟩ := op_2 h
        obtain ⟨sa, hsa⟩ := kx_msg G 6 rfl
        exact vx_throwSW (own := RX10) (cls := "java/lang/IllegalArgumentException") (text := "no such amount") (names := kNms) (ik := 78) (is := 270) (ic := 82) (mc := rmX10_load_.cells) (ms := rmX10_load_.slots) F.1 F.2.1 hst F.2.2.2.1 kx_f3 kx_nms (F.2.2.2.2 _ kl618) (F.2.2.2.2 _ kl619) hsa (kx_hat F G kxi2 kx_b3 (by decide +kernel)) kx_g3 G.2.2.2.2.1.2.2.2.2.1 G.2.2.2.2.1.2.2.2.2.2.1 G.2.2.2.1 (hl.1.trans F.2.2.1.symm) dX10_load__55 dX10_load__58 dX10_load__59 dX10_load__62 dX10_load__65 (fun x hx => (hex x hx).elim) (Nat.le_of_ble_eq_true rfl) (Nat.le_of_ble_eq_true rfl) (Nat.le_of_ble_eq_true rfl) (Nat.le_of_ble_eq_true rfl) hlk (kx_after G (by decide)) G.2.2.2.1.2.2 (Nat.le_of_ble_eq_true rfl) (Nat.le_of_ble_eq_true rfl)
abbrev rmX10_strain : Room := ({ frames := 0, cells := 0, slots := 0, locals := 0 } : Room)
noncomputable def qX10_strain (tx : Nat → Nat → Int32) (ps : Nat → Nat → Int32) (nm : Nat → Int64) (v : Nat → Nat → Int32) (vn : Nat → Int64) (hs : Nat → Nat → Int32) (ww : Nat → Nat → Nat → Int32) : Option (UInt64) :=
  if 1 ≤ ((ww 0) 2 0) then gd (vf_n64 (FP.ddiv (FP.i2d ((ww 0) 7 0)) (FP.i2d ((ww 0) 2 0)))) (some (FP.ddiv (FP.i2d ((ww 0) 7 0)) (FP.i2d ((ww 0) 2 0)))) else some FP.dconst0

set_option maxHeartbeats 8000000 in
set_option maxRecDepth 100000 in
theorem mX10_strain (l : Launch) (D : va_G) (T : Nat → ClassId) (aF : Nat → Nat) (aR : Nat → Nat) (aD : Nat → Nat) (aP : Nat → Nat) (aH : Nat → Nat) (aW : Nat → Nat → Nat) (tx : Nat → Nat → Int32) (ps : Nat → Nat → Int32) (nm : Nat → Int64) (v : Nat → Nat → Int32) (vn : Nat → Int64) (hs : Nat → Nat → Int32) (ww : Nat → Nat → Nat → Int32) {rR : UInt64} (hres : qX10_strain tx ps nm v vn hs ww = some (rR)) : Ct l yX10_strain (Cond.code yX10_strain cX10_strain 1 (some .double) :: kAll) rmX10_strain D T [.ref (aF 0)] (gU T aF aR aD aP aH aW tx ps nm v vn hs ww) (some (.double rR)) (gU T aF aR aD aP aH aW tx ps nm v vn hs ww) := by
  refine Ct.of (cc := cX10_strain) (maxL := 1) (ret := (some .double)) (by decide +kernel) rfl (Nat.le_of_ble_eq_true rfl) ?_
  intro pr en st mi ag bl me co A ls F hr hlk hnm G hl
  have hl : lv_has ls 1 [(0, .ref (aF 0))] := hl
  have h := hres
  unfold qX10_strain at h
  refine lv_aload_n F.1 F.2.1 dX10_strain_0 rfl (lv_at hl 0 rfl) ?_
  refine kg_get F G 0 0 (by decide) rfl (N := 6) (Tt := TX10) rfl kf10 3 (by decide) kl591 (v := .ref (aW 0 0)) rfl dX10_strain_1 ?_
  refine kg_get F G 7 0 (by decide) rfl (N := 14) (Tt := TX9) rfl kf9 6 (by decide) kl95 (v := .int ((ww 0) 2 0)) rfl dX10_strain_4 ?_
  refine lv_iconst (v := 1) F.1 F.2.1 dX10_strain_7 (by decide) ?_
  refine lv_icmp_ge (tgt := 15) F.1 F.2.1 dX10_strain_8 (by decide) (fun c => ?_) (fun c => ?_)
  · have h := op_t h c
    refine lv_aload_n F.1 F.2.1 dX10_strain_15 rfl (lv_at hl 0 rfl) ?_
    refine kg_get F G 0 0 (by decide) rfl (N := 6) (Tt := TX10) rfl kf10 3 (by decide) kl591 (v := .ref (aW 0 0)) rfl dX10_strain_16 ?_
    refine kg_get F G 7 0 (by decide) rfl (N := 14) (Tt := TX9) rfl kf9 11 (by decide) kl100 (v := .int ((ww 0) 7 0)) rfl dX10_strain_19 ?_
    refine lv_i2d F.1 F.2.1 dX10_strain_22 ?_
    refine lv_aload_n F.1 F.2.1 dX10_strain_23 rfl (lv_at hl 0 rfl) ?_
    refine kg_get F G 0 0 (by decide) rfl (N := 6) (Tt := TX10) rfl kf10 3 (by decide) kl591 (v := .ref (aW 0 0)) rfl dX10_strain_24 ?_
    refine kg_get F G 7 0 (by decide) rfl (N := 14) (Tt := TX9) rfl kf9 6 (by decide) kl95 (v := .int ((ww 0) 2 0)) rfl dX10_strain_27 ?_
    refine lv_i2d F.1 F.2.1 dX10_strain_30 ?_
    obtain ⟨c, h⟩ := op_g h
    refine lv_ddiv F.1 F.2.1 dX10_strain_31 c ?_
    obtain rfl := op_1 h
    exact k_dret F hr hlk G dX10_strain_32
  · have h := op_f h c
    refine lv_dconst0 F.1 F.2.1 dX10_strain_11 ?_
    refine lv_goto (tgt := 32) F.1 F.2.1 dX10_strain_12 (by decide) ?_
    obtain rfl := op_1 h
    exact k_dret F hr hlk G dX10_strain_32
abbrev rmX10_message : Room := ({ frames := 6, cells := 1, slots := 6, locals := 90 } : Room)
noncomputable def qX10_message (tx : Nat → Nat → Int32) (ps : Nat → Nat → Int32) (nm : Nat → Int64) (v : Nat → Nat → Int32) (vn : Nat → Int64) (hs : Nat → Nat → Int32) (ww : Nat → Nat → Nat → Int32) (x1 : Int32) (x2 : Int32) : Option (Nat × Int32) :=
  (jn (fun (_ : Unit) => some (2, 0)) fun j20 => if x1 < 0 then (j20 ()) else if x1 < ((ww 0) 31 0) then (if x2 = 0 then gd (vp_in x1 72) (some (0, (((ww 0) 28) x1.toNatClampNeg))) else if x2 = 1 then gd (vp_in x1 72) (some (0, (((ww 0) 29) x1.toNatClampNeg))) else if x2 = 2 then gd (vp_in x1 72) (some (0, (((ww 0) 30) x1.toNatClampNeg))) else some (3, 0)) else (j20 ()))

set_option maxHeartbeats 8000000 in
set_option maxRecDepth 100000 in
theorem mX10_message (l : Launch) (hst : l.stackTraces = false) (D : va_G) (T : Nat → ClassId) (aF : Nat → Nat) (aR : Nat → Nat) (aD : Nat → Nat) (aP : Nat → Nat) (aH : Nat → Nat) (aW : Nat → Nat → Nat) (tx : Nat → Nat → Int32) (ps : Nat → Nat → Int32) (nm : Nat → Int64) (v : Nat → Nat → Int32) (vn : Nat → Int64) (hs : Nat → Nat → Int32) (ww : Nat → Nat → Nat → Int32) (x1 : Int32) (x2 : Int32) {eR : Nat} {rR : Int32} (hres : qX10_message tx ps nm v vn hs ww x1 x2 = some (eR, rR)) : Cx l yX10_message (Cond.code yX10_message cX10_message 4 (some .int) :: kAll) rmX10_message D T [.ref (aF 0), .int x1, .int x2] (gU T aF aR aD aP aH aW tx ps nm v vn hs ww) eR (some (.int rR)) (gU T aF aR aD aP aH aW tx ps nm v vn hs ww) := by
  refine Cx.of (cc := cX10_message) (maxL := 4) (ret := (some .int)) (by decide +kernel) rfl (Nat.le_of_ble_eq_true rfl) ?_
  intro pr en st mi ag bl me co A ls F hr hlk hex G hl
  have hl : lv_has ls 4 [(0, .ref (aF 0)), (1, .int x1), (2, .int x2)] := hl
  have h := hres
  unfold qX10_message at h
  refine lv_aload_n F.1 F.2.1 dX10_message_0 rfl (lv_at hl 0 rfl) ?_
  refine kg_get F G 0 0 (by decide) rfl (N := 6) (Tt := TX10) rfl kf10 3 (by decide) kl591 (v := .ref (aW 0 0)) rfl dX10_message_1 ?_
  refine kg_get F G 7 0 (by decide) rfl (N := 14) (Tt := TX9) rfl kf9 3 (by decide) kl103 (v := .ref (aW 0 19)) rfl dX10_message_4 ?_
  refine lv_astore_n (lv' := [(3, .ref (aW 0 19)), (0, .ref (aF 0)), (1, .int x1), (2, .int x2)]) F.1 F.2.1 dX10_message_7 rfl hl (by decide) rfl (fun ls hl => ?_)
  refine lv_iload_n F.1 F.2.1 dX10_message_8 rfl (lv_at hl 2 rfl) ?_
  obtain ⟨j20, hj20, h⟩ := op_j h
  have J20 : ∀ (H : Heap) (locs : List Loc) (ls : Array Slot), j20 () = some (eR, rR) → Rg D T A st (gU T aF aR aD aP aH aW tx ps nm v vn hs ww) H locs → lv_has ls 4 [] → W pr l en rmX10_message st mi ag bl me co H locs 0 0 (vx_MQ bl (kQx eR (some (.int rR)) D (gU T aF aR aD aP aH aW tx ps nm v vn hs ww) A) (kXx eR D (gU T aF aR aD aP aH aW tx ps nm v vn hs ww) A) ag st rmX10_message.cells rmX10_message.slots A) (F0 mi 20 ls []) := by
    intro H locs ls h G hl
    rw [hj20] at h
    obtain ⟨rfl, rfl⟩ := op_2 h
    obtain ⟨sa, hsa⟩ := kx_msg G 7 rfl
    exact vx_throwSW (own := RX10) (cls := "java/lang/IndexOutOfBoundsException") (text := "no such message") (names := kNms) (ik := 69) (is := 272) (ic := 73) (mc := rmX10_message.cells) (ms := rmX10_message.slots) F.1 F.2.1 hst F.2.2.2.1 kx_f2 kx_nms (F.2.2.2.2 _ kl615) (F.2.2.2.2 _ kl616) hsa (kx_hat F G kxi1 kx_b2 (by decide +kernel)) kx_g2 G.2.2.2.2.1.2.2.2.2.1 G.2.2.2.2.1.2.2.2.2.2.1 G.2.2.2.1 (hl.1.trans F.2.2.1.symm) dX10_message_20 dX10_message_23 dX10_message_24 dX10_message_27 dX10_message_30 (fun x hx => (hex x hx).elim) (Nat.le_of_ble_eq_true rfl) (Nat.le_of_ble_eq_true rfl) (Nat.le_of_ble_eq_true rfl) (Nat.le_of_ble_eq_true rfl) hlk (kx_after G (by decide)) G.2.2.2.1.2.2 (Nat.le_of_ble_eq_true rfl) (Nat.le_of_ble_eq_true rfl)
  clear hj20
  refine lv_if_lt (tgt := 20) F.1 F.2.1 dX10_message_9 (by decide) (fun c => ?_) (fun c => ?_)
  · have h := op_t h c
    exact J20 _ _ _ h G (lv_sub hl [] rfl)
  · have h := op_f h c
    refine lv_iload_n F.1 F.2.1 dX10_message_12 rfl (lv_at hl 2 rfl) ?_
    refine lv_aload_n F.1 F.2.1 dX10_message_13 rfl (lv_at hl 0 rfl) ?_
    refine kg_get F G 7 19 (by decide) rfl (N := 9) (Tt := TX8) rfl kf8 4 (by decide) kl644 (v := .int ((ww 0) 31 0)) rfl dX10_message_14 ?_
    refine lv_icmp_lt (tgt := 31) F.1 F.2.1 dX10_message_17 (by decide) (fun c => ?_) (fun c => ?_)
    · have h := op_t h c
      refine lv_iload_n F.1 F.2.1 dX10_message_31 rfl (lv_at hl 3 rfl) ?_
      by_cases c0 : x2 = 0
      · have h := op_t h c0
        refine k_tab F dX10_message_32 (tgt := 60) 0 c0 (by decide) (by decide) rfl (by decide) ?_
        refine lv_aload_n F.1 F.2.1 dX10_message_60 rfl (lv_at hl 0 rfl) ?_
        refine kg_get F G 7 19 (by decide) rfl (N := 9) (Tt := TX8) rfl kf8 1 (by decide) kl697 (v := .ref (aW 0 20)) rfl dX10_message_61 ?_
        refine lv_iload_n F.1 F.2.1 dX10_message_64 rfl (lv_at hl 2 rfl) ?_
        obtain ⟨c, h⟩ := op_g h
        refine kg_iald F G 7 20 (by decide) rfl c dX10_message_65 ?_
        obtain ⟨rfl, rfl⟩ := op_2 h
        refine W.widen (k := 1) (n := 6) (Nat.le_of_ble_eq_true rfl) (Nat.le_of_ble_eq_true rfl) ?_
        exact kx_ret (k_iret F hr hlk G dX10_message_66)
      · have h := op_f h c0
        by_cases c1 : x2 = 1
        · have h := op_t h c1
          refine k_tab F dX10_message_32 (tgt := 67) 1 c1 (by decide) (by decide) rfl (by decide) ?_
          refine lv_aload_n F.1 F.2.1 dX10_message_67 rfl (lv_at hl 0 rfl) ?_
          refine kg_get F G 7 19 (by decide) rfl (N := 9) (Tt := TX8) rfl kf8 2 (by decide) kl698 (v := .ref (aW 0 21)) rfl dX10_message_68 ?_
          refine lv_iload_n F.1 F.2.1 dX10_message_71 rfl (lv_at hl 2 rfl) ?_
          obtain ⟨c, h⟩ := op_g h
          refine kg_iald F G 7 21 (by decide) rfl c dX10_message_72 ?_
          obtain ⟨rfl, rfl⟩ := op_2 h
          refine W.widen (k := 1) (n := 6) (Nat.le_of_ble_eq_true rfl) (Nat.le_of_ble_eq_true rfl) ?_
          exact kx_ret (k_iret F hr hlk G dX10_message_73)
        · have h := op_f h c1
          by_cases c2 : x2 = 2
          · have h := op_t h c2
            refine k_tab F dX10_message_32 (tgt := 74) 2 c2 (by decide) (by decide) rfl (by decide) ?_
            refine lv_aload_n F.1 F.2.1 dX10_message_74 rfl (lv_at hl 0 rfl) ?_
            refine kg_get F G 7 19 (by decide) rfl (N := 9) (Tt := TX8) rfl kf8 3 (by decide) kl699 (v := .ref (aW 0 22)) rfl dX10_message_75 ?_
            refine lv_iload_n F.1 F.2.1 dX10_message_78 rfl (lv_at hl 2 rfl) ?_
            obtain ⟨c, h⟩ := op_g h
            refine kg_iald F G 7 22 (by decide) rfl c dX10_message_79 ?_
            obtain ⟨rfl, rfl⟩ := op_2 h
            refine W.widen (k := 1) (n := 6) (Nat.le_of_ble_eq_true rfl) (Nat.le_of_ble_eq_true rfl) ?_
            exact kx_ret (k_iret F hr hlk G dX10_message_80)
          · have h := op_f h c2
            refine lv_tableOut (tgt := 81) F.1 F.2.1 dX10_message_32 (tab_out 3 (by decide) (lt_s (lt_s (lt_s lt_0 c0) c1) c2)) (by decide) ?_
            obtain ⟨rfl, rfl⟩ := op_2 h
            obtain ⟨sa, hsa⟩ := kx_msg G 5 rfl
            exact vx_throwS (own := RX10) (cls := "java/lang/IllegalArgumentException") (text := "no such report") (names := kNms) (ik := 78) (is := 206) (ic := 82) (mc := rmX10_message.cells) (ms := rmX10_message.slots) F.1 F.2.1 hst F.2.2.2.1 kx_f3 kx_nms (F.2.2.2.2 _ kl618) (F.2.2.2.2 _ kl619) hsa (kx_hat F G kxi2 kx_b3 (by decide +kernel)) kx_g3 G.2.2.2.2.1.2.2.2.2.1 G.2.2.2.2.1.2.2.2.2.2.1 G.2.2.2.1 (hl.1.trans F.2.2.1.symm) dX10_message_81 dX10_message_84 dX10_message_85 dX10_message_87 dX10_message_90 (fun x hx => (hex x hx).elim) (Nat.le_of_ble_eq_true rfl) (Nat.le_of_ble_eq_true rfl) (Nat.le_of_ble_eq_true rfl) (Nat.le_of_ble_eq_true rfl) hlk (kx_after G (by decide)) G.2.2.2.1.2.2 (Nat.le_of_ble_eq_true rfl) (Nat.le_of_ble_eq_true rfl)
    · have h := op_f h c
      exact J20 _ _ _ h G (lv_sub hl [] rfl)
abbrev rmX10_traffic : Room := ({ frames := 7, cells := 1, slots := 6, locals := 112 } : Room)
noncomputable def qX10_traffic (tx : Nat → Nat → Int32) (ps : Nat → Nat → Int32) (nm : Nat → Int64) (v : Nat → Nat → Int32) (vn : Nat → Int64) (hs : Nat → Nat → Int32) (ww : Nat → Nat → Nat → Int32) (x1 : Int32) (x2 : Int32) : Option (Nat × Int32) :=
  bd (qX10_checkRange x1 0 5) fun e_1 => if e_1 = 0 then if x2 = 0 then gd (vp_in x1 6) (some (0, (((ww 0) 32) x1.toNatClampNeg))) else gd (vp_in x1 6) (some (0, (((ww 0) 33) x1.toNatClampNeg))) else some (e_1, 0)

set_option maxHeartbeats 8000000 in
set_option maxRecDepth 100000 in
theorem mX10_traffic (l : Launch) (hst : l.stackTraces = false) (D : va_G) (T : Nat → ClassId) (aF : Nat → Nat) (aR : Nat → Nat) (aD : Nat → Nat) (aP : Nat → Nat) (aH : Nat → Nat) (aW : Nat → Nat → Nat) (tx : Nat → Nat → Int32) (ps : Nat → Nat → Int32) (nm : Nat → Int64) (v : Nat → Nat → Int32) (vn : Nat → Int64) (hs : Nat → Nat → Int32) (ww : Nat → Nat → Nat → Int32) (x1 : Int32) (x2 : Int32) {eR : Nat} {rR : Int32} (hres : qX10_traffic tx ps nm v vn hs ww x1 x2 = some (eR, rR)) : Cx l yX10_traffic (Cond.code yX10_traffic cX10_traffic 3 (some .int) :: kAll) rmX10_traffic D T [.ref (aF 0), .int x1, .int x2] (gU T aF aR aD aP aH aW tx ps nm v vn hs ww) eR (some (.int rR)) (gU T aF aR aD aP aH aW tx ps nm v vn hs ww) := by
  refine Cx.of (cc := cX10_traffic) (maxL := 3) (ret := (some .int)) (by decide +kernel) rfl (Nat.le_of_ble_eq_true rfl) ?_
  intro pr en st mi ag bl me co A ls F hr hlk hex G hl
  have hl : lv_has ls 3 [(0, .ref (aF 0)), (1, .int x1), (2, .int x2)] := hl
  have h := hres
  unfold qX10_traffic at h
  refine lv_iload_n F.1 F.2.1 dX10_traffic_0 rfl (lv_at hl 1 rfl) ?_
  refine lv_iconst (v := 0) F.1 F.2.1 dX10_traffic_1 (by decide) ?_
  refine lv_iconst (v := 5) F.1 F.2.1 dX10_traffic_2 (by decide) ?_
  obtain ⟨e_1, hc, h⟩ := op_b h
  refine kx_callS (rv := none) (Wc := ([] : va_W)) (W2 := ([] : va_W)) (Wn := (gU T aF aR aD aP aH aW tx ps nm v vn hs ww)) (As := [.int x1, .int 0, .int 5]) (rest := []) F G (mX10_checkRange l hst D T x1 0 5 hc) (va_cwS 3 F.2.2.2.2 (kg_c kl684 (kg_c kl685 (kg_c kl80 (kg_c kl682 kg_a)))) rfl rfl rfl (by decide +kernel) ⟨Nat.le_of_ble_eq_true rfl, Nat.le_of_ble_eq_true rfl⟩) (kCut_0 G) rfl hl.1 rfl (Nat.le_of_ble_eq_true rfl) dX10_traffic_3 ⟨Nat.le_of_ble_eq_true rfl, Nat.le_of_ble_eq_true rfl⟩ (cN := 1) (sN := 6) ⟨rfl, rfl⟩ (fun c ce q9 H locs G hce hcv hcl => ?_) (fun c H locs G => ?_)
  · have h := op_f h c
    obtain ⟨rfl, rfl⟩ := op_2 h
    exact kx_out hex hlk G c hce hcv hcl (Nat.le_of_ble_eq_true rfl) (Nat.le_of_ble_eq_true rfl)
  have h := op_t h c
  refine lv_iload_n F.1 F.2.1 dX10_traffic_6 rfl (lv_at hl 2 rfl) ?_
  refine lv_if_eq (tgt := 25) F.1 F.2.1 dX10_traffic_7 (by decide) (fun c => ?_) (fun c => ?_)
  · have h := op_t h c
    refine lv_aload_n F.1 F.2.1 dX10_traffic_25 rfl (lv_at hl 0 rfl) ?_
    refine kg_get F G 0 0 (by decide) rfl (N := 6) (Tt := TX10) rfl kf10 3 (by decide) kl591 (v := .ref (aW 0 0)) rfl dX10_traffic_26 ?_
    refine kg_get F G 7 0 (by decide) rfl (N := 14) (Tt := TX9) rfl kf9 3 (by decide) kl103 (v := .ref (aW 0 19)) rfl dX10_traffic_29 ?_
    refine kg_get F G 7 19 (by decide) rfl (N := 9) (Tt := TX8) rfl kf8 5 (by decide) kl702 (v := .ref (aW 0 23)) rfl dX10_traffic_32 ?_
    refine lv_iload_n F.1 F.2.1 dX10_traffic_35 rfl (lv_at hl 1 rfl) ?_
    obtain ⟨c, h⟩ := op_g h
    refine kg_iald F G 7 23 (by decide) rfl c dX10_traffic_36 ?_
    obtain ⟨rfl, rfl⟩ := op_2 h
    exact kx_ret (k_iret F hr hlk G dX10_traffic_37)
  · have h := op_f h c
    refine lv_aload_n F.1 F.2.1 dX10_traffic_10 rfl (lv_at hl 0 rfl) ?_
    refine kg_get F G 0 0 (by decide) rfl (N := 6) (Tt := TX10) rfl kf10 3 (by decide) kl591 (v := .ref (aW 0 0)) rfl dX10_traffic_11 ?_
    refine kg_get F G 7 0 (by decide) rfl (N := 14) (Tt := TX9) rfl kf9 3 (by decide) kl103 (v := .ref (aW 0 19)) rfl dX10_traffic_14 ?_
    refine kg_get F G 7 19 (by decide) rfl (N := 9) (Tt := TX8) rfl kf8 6 (by decide) kl701 (v := .ref (aW 0 24)) rfl dX10_traffic_17 ?_
    refine lv_iload_n F.1 F.2.1 dX10_traffic_20 rfl (lv_at hl 1 rfl) ?_
    obtain ⟨c, h⟩ := op_g h
    refine kg_iald F G 7 24 (by decide) rfl c dX10_traffic_21 ?_
    refine lv_goto (tgt := 37) F.1 F.2.1 dX10_traffic_22 (by decide) ?_
    obtain ⟨rfl, rfl⟩ := op_2 h
    exact kx_ret (k_iret F hr hlk G dX10_traffic_37)
abbrev rmX10_learned : Room := ({ frames := 6, cells := 1, slots := 6, locals := 90 } : Room)
noncomputable def qX10_learned (tx : Nat → Nat → Int32) (ps : Nat → Nat → Int32) (nm : Nat → Int64) (v : Nat → Nat → Int32) (vn : Nat → Int64) (hs : Nat → Nat → Int32) (ww : Nat → Nat → Nat → Int32) (x1 : Int32) : Option (Nat × Int32) :=
  (jn (fun (_ : Unit) => some (2, 0)) fun j23 => if x1 < 0 then (j23 ()) else if x1 < ((ww 0) 24 0) then gd (vp_in x1 12) (some (0, (((ww 0) 22) x1.toNatClampNeg))) else (j23 ()))

set_option maxHeartbeats 8000000 in
set_option maxRecDepth 100000 in
theorem mX10_learned (l : Launch) (hst : l.stackTraces = false) (D : va_G) (T : Nat → ClassId) (aF : Nat → Nat) (aR : Nat → Nat) (aD : Nat → Nat) (aP : Nat → Nat) (aH : Nat → Nat) (aW : Nat → Nat → Nat) (tx : Nat → Nat → Int32) (ps : Nat → Nat → Int32) (nm : Nat → Int64) (v : Nat → Nat → Int32) (vn : Nat → Int64) (hs : Nat → Nat → Int32) (ww : Nat → Nat → Nat → Int32) (x1 : Int32) {eR : Nat} {rR : Int32} (hres : qX10_learned tx ps nm v vn hs ww x1 = some (eR, rR)) : Cx l yX10_learned (Cond.code yX10_learned cX10_learned 3 (some .int) :: kAll) rmX10_learned D T [.ref (aF 0), .int x1] (gU T aF aR aD aP aH aW tx ps nm v vn hs ww) eR (some (.int rR)) (gU T aF aR aD aP aH aW tx ps nm v vn hs ww) := by
  refine Cx.of (cc := cX10_learned) (maxL := 3) (ret := (some .int)) (by decide +kernel) rfl (Nat.le_of_ble_eq_true rfl) ?_
  intro pr en st mi ag bl me co A ls F hr hlk hex G hl
  have hl : lv_has ls 3 [(0, .ref (aF 0)), (1, .int x1)] := hl
  have h := hres
  unfold qX10_learned at h
  refine lv_aload_n F.1 F.2.1 dX10_learned_0 rfl (lv_at hl 0 rfl) ?_
  refine kg_get F G 0 0 (by decide) rfl (N := 6) (Tt := TX10) rfl kf10 3 (by decide) kl591 (v := .ref (aW 0 0)) rfl dX10_learned_1 ?_
  refine kg_get F G 7 0 (by decide) rfl (N := 14) (Tt := TX9) rfl kf9 2 (by decide) kl102 (v := .ref (aW 0 9)) rfl dX10_learned_4 ?_
  refine kg_get F G 7 9 (by decide) rfl (N := 7) (Tt := TX3) rfl kf3 5 (by decide) kl672 (v := .ref (aW 0 13)) rfl dX10_learned_7 ?_
  refine lv_astore_n (lv' := [(2, .ref (aW 0 13)), (0, .ref (aF 0)), (1, .int x1)]) F.1 F.2.1 dX10_learned_10 rfl hl (by decide) rfl (fun ls hl => ?_)
  refine lv_iload_n F.1 F.2.1 dX10_learned_11 rfl (lv_at hl 2 rfl) ?_
  obtain ⟨j23, hj23, h⟩ := op_j h
  have J23 : ∀ (H : Heap) (locs : List Loc) (ls : Array Slot), j23 () = some (eR, rR) → Rg D T A st (gU T aF aR aD aP aH aW tx ps nm v vn hs ww) H locs → lv_has ls 3 [] → W pr l en rmX10_learned st mi ag bl me co H locs 0 0 (vx_MQ bl (kQx eR (some (.int rR)) D (gU T aF aR aD aP aH aW tx ps nm v vn hs ww) A) (kXx eR D (gU T aF aR aD aP aH aW tx ps nm v vn hs ww) A) ag st rmX10_learned.cells rmX10_learned.slots A) (F0 mi 23 ls []) := by
    intro H locs ls h G hl
    rw [hj23] at h
    obtain ⟨rfl, rfl⟩ := op_2 h
    obtain ⟨sa, hsa⟩ := kx_msg G 8 rfl
    exact vx_throwSW (own := RX10) (cls := "java/lang/IndexOutOfBoundsException") (text := "no such place") (names := kNms) (ik := 69) (is := 292) (ic := 73) (mc := rmX10_learned.cells) (ms := rmX10_learned.slots) F.1 F.2.1 hst F.2.2.2.1 kx_f2 kx_nms (F.2.2.2.2 _ kl615) (F.2.2.2.2 _ kl616) hsa (kx_hat F G kxi1 kx_b2 (by decide +kernel)) kx_g2 G.2.2.2.2.1.2.2.2.2.1 G.2.2.2.2.1.2.2.2.2.2.1 G.2.2.2.1 (hl.1.trans F.2.2.1.symm) dX10_learned_23 dX10_learned_26 dX10_learned_27 dX10_learned_30 dX10_learned_33 (fun x hx => (hex x hx).elim) (Nat.le_of_ble_eq_true rfl) (Nat.le_of_ble_eq_true rfl) (Nat.le_of_ble_eq_true rfl) (Nat.le_of_ble_eq_true rfl) hlk (kx_after G (by decide)) G.2.2.2.1.2.2 (Nat.le_of_ble_eq_true rfl) (Nat.le_of_ble_eq_true rfl)
  clear hj23
  refine lv_if_lt (tgt := 23) F.1 F.2.1 dX10_learned_12 (by decide) (fun c => ?_) (fun c => ?_)
  · have h := op_t h c
    exact J23 _ _ _ h G (lv_sub hl [] rfl)
  · have h := op_f h c
    refine lv_iload_n F.1 F.2.1 dX10_learned_15 rfl (lv_at hl 2 rfl) ?_
    refine lv_aload_n F.1 F.2.1 dX10_learned_16 rfl (lv_at hl 0 rfl) ?_
    refine kg_get F G 7 13 (by decide) rfl (N := 3) (Tt := TX1) rfl kf1 2 (by decide) kl704 (v := .int ((ww 0) 24 0)) rfl dX10_learned_17 ?_
    refine lv_icmp_lt (tgt := 34) F.1 F.2.1 dX10_learned_20 (by decide) (fun c => ?_) (fun c => ?_)
    · have h := op_t h c
      refine lv_aload_n F.1 F.2.1 dX10_learned_34 rfl (lv_at hl 0 rfl) ?_
      refine kg_get F G 7 13 (by decide) rfl (N := 3) (Tt := TX1) rfl kf1 0 (by decide) kl705 (v := .ref (aW 0 14)) rfl dX10_learned_35 ?_
      refine lv_iload_n F.1 F.2.1 dX10_learned_38 rfl (lv_at hl 2 rfl) ?_
      obtain ⟨c, h⟩ := op_g h
      refine kg_iald F G 7 14 (by decide) rfl c dX10_learned_39 ?_
      obtain ⟨rfl, rfl⟩ := op_2 h
      refine W.widen (k := 1) (n := 6) (Nat.le_of_ble_eq_true rfl) (Nat.le_of_ble_eq_true rfl) ?_
      exact kx_ret (k_iret F hr hlk G dX10_learned_40)
    · have h := op_f h c
      exact J23 _ _ _ h G (lv_sub hl [] rfl)
abbrev rmX10_grants : Room := ({ frames := 3, cells := 0, slots := 0, locals := 72 } : Room)
noncomputable def qX10_grants (tx : Nat → Nat → Int32) (ps : Nat → Nat → Int32) (nm : Nat → Int64) (v : Nat → Nat → Int32) (vn : Nat → Int64) (hs : Nat → Nat → Int32) (ww : Nat → Nat → Nat → Int32) : Option (Int32 × (Nat → Nat → Nat → Int32)) :=
  bd2 (qX9_grantable v (ww 0)) fun r_1 w_2 => (bs (va_up ww 0 w_2) fun ww_3 => some (r_1, ww_3))

set_option maxHeartbeats 8000000 in
set_option maxRecDepth 100000 in
theorem mX10_grants (l : Launch) (D : va_G) (T : Nat → ClassId) (aF : Nat → Nat) (aR : Nat → Nat) (aD : Nat → Nat) (aP : Nat → Nat) (aH : Nat → Nat) (aW : Nat → Nat → Nat) (tx : Nat → Nat → Int32) (ps : Nat → Nat → Int32) (nm : Nat → Int64) (v : Nat → Nat → Int32) (vn : Nat → Int64) (hs : Nat → Nat → Int32) (ww : Nat → Nat → Nat → Int32) {rR : Int32} {wwR : Nat → Nat → Nat → Int32} (hres : qX10_grants tx ps nm v vn hs ww = some (rR, wwR)) : Ct l yX10_grants (Cond.code yX10_grants cX10_grants 1 (some .int) :: kAll) rmX10_grants D T [.ref (aF 0)] (gU T aF aR aD aP aH aW tx ps nm v vn hs ww) (some (.int rR)) (gU T aF aR aD aP aH aW tx ps nm v vn hs wwR) := by
  refine Ct.of (cc := cX10_grants) (maxL := 1) (ret := (some .int)) (by decide +kernel) rfl (Nat.le_of_ble_eq_true rfl) ?_
  intro pr en st mi ag bl me co A ls F hr hlk hnm G hl
  have hl : lv_has ls 1 [(0, .ref (aF 0))] := hl
  have h := hres
  unfold qX10_grants at h
  refine lv_aload_n F.1 F.2.1 dX10_grants_0 rfl (lv_at hl 0 rfl) ?_
  refine kg_get F G 0 0 (by decide) rfl (N := 6) (Tt := TX10) rfl kf10 3 (by decide) kl591 (v := .ref (aW 0 0)) rfl dX10_grants_1 ?_
  obtain ⟨r_1, w_2, hc, h⟩ := op_b2 h
  obtain ⟨ww_3, e9, h⟩ := op_st h
  refine k_callVR (rv := (some (.int r_1))) (Wc := (gW T aP (aW 0) v (ww 0))) (W2 := (gW T aP (aW 0) v w_2)) (Wn := (gU T aF aR aD aP aH aW tx ps nm v vn hs ww_3)) (As := []) (rest := []) F G (mX9_grantable l D T aP (aW 0) v (ww 0) hc) (cwV 0 F.2.2.2.2 (kg_c kl707 (kg_c kl531 (kg_c kl532 (kg_c kl64 (kg_c kl520 kg_a))))) rfl rfl rfl (by decide +kernel) ⟨Nat.le_of_ble_eq_true rfl, Nat.le_of_ble_eq_true rfl⟩) (kg_recv G 7 0 (by decide) rfl (q := (RX9, TX9, 14)) rfl) (by subst e9; exact kCut_g (g' := (gFc T aF aR aD aP aH aW tx ps nm v vn hs (va_up ww 0 w_2))) [4, 7] G (by decide) (by decide) (gF_same [4, 7] (Or.inr rfl) (Or.inr ⟨rfl, rfl⟩) (Or.inr ⟨rfl, rfl⟩) (Or.inr rfl) (gW_up 0 _ 7 (by simp))) gF_addr) rfl hl.1 rfl (Nat.le_of_ble_eq_true rfl) dX10_grants_4 ⟨Nat.le_of_ble_eq_true rfl, Nat.le_of_ble_eq_true rfl⟩ (cN := 0) (sN := 0) ⟨rfl, rfl⟩ (fun H locs G => ?_)
  clear e9
  obtain ⟨rfl, rfl⟩ := op_2 h
  exact k_iret F hr hlk G dX10_grants_7
abbrev rmX10_why : Room := ({ frames := 7, cells := 1, slots := 6, locals := 111 } : Room)
noncomputable def qX10_why (tx : Nat → Nat → Int32) (ps : Nat → Nat → Int32) (nm : Nat → Int64) (v : Nat → Nat → Int32) (vn : Nat → Int64) (hs : Nat → Nat → Int32) (ww : Nat → Nat → Nat → Int32) (x1 : Int32) : Option (Nat × Int32 × (Nat → Nat → Nat → Int32)) :=
  bd (qX10_checkOutlet tx ps nm v vn hs ww x1) fun e_1 => if e_1 = 0 then bd2 (qX9_reasonAgainst v (ww 0) x1) fun r_2 w_3 => (bs (va_up ww 0 w_3) fun ww_4 => some (0, r_2, ww_4)) else some (e_1, 0, ww)

set_option maxHeartbeats 8000000 in
set_option maxRecDepth 100000 in
theorem mX10_why (l : Launch) (hst : l.stackTraces = false) (D : va_G) (T : Nat → ClassId) (aF : Nat → Nat) (aR : Nat → Nat) (aD : Nat → Nat) (aP : Nat → Nat) (aH : Nat → Nat) (aW : Nat → Nat → Nat) (tx : Nat → Nat → Int32) (ps : Nat → Nat → Int32) (nm : Nat → Int64) (v : Nat → Nat → Int32) (vn : Nat → Int64) (hs : Nat → Nat → Int32) (ww : Nat → Nat → Nat → Int32) (x1 : Int32) {eR : Nat} {rR : Int32} {wwR : Nat → Nat → Nat → Int32} (hres : qX10_why tx ps nm v vn hs ww x1 = some (eR, rR, wwR)) : Cx l yX10_why (Cond.code yX10_why cX10_why 2 (some .int) :: kAll) rmX10_why D T [.ref (aF 0), .int x1] (gU T aF aR aD aP aH aW tx ps nm v vn hs ww) eR (some (.int rR)) (gU T aF aR aD aP aH aW tx ps nm v vn hs wwR) := by
  refine Cx.of (cc := cX10_why) (maxL := 2) (ret := (some .int)) (by decide +kernel) rfl (Nat.le_of_ble_eq_true rfl) ?_
  intro pr en st mi ag bl me co A ls F hr hlk hex G hl
  have hl : lv_has ls 2 [(0, .ref (aF 0)), (1, .int x1)] := hl
  have h := hres
  unfold qX10_why at h
  refine lv_aload_n F.1 F.2.1 dX10_why_0 rfl (lv_at hl 0 rfl) ?_
  refine lv_iload_n F.1 F.2.1 dX10_why_1 rfl (lv_at hl 1 rfl) ?_
  obtain ⟨e_1, hc, h⟩ := op_b h
  refine kx_callV (rv := none) (Wc := (gU T aF aR aD aP aH aW tx ps nm v vn hs ww)) (W2 := (gU T aF aR aD aP aH aW tx ps nm v vn hs ww)) (Wn := (gU T aF aR aD aP aH aW tx ps nm v vn hs ww)) (As := [.int x1]) (rest := []) F G (mX10_checkOutlet l hst D T aF aR aD aP aH aW tx ps nm v vn hs ww x1 hc) (cwV 1 F.2.2.2.2 (kg_c kl664 (kg_c kl665 (kg_c kl666 (kg_c kl80 (kg_c kl653 kg_a))))) rfl rfl rfl (by decide +kernel) ⟨Nat.le_of_ble_eq_true rfl, Nat.le_of_ble_eq_true rfl⟩) (kg_recv G 0 0 (by decide) rfl (q := (RX10, TX10, 6)) rfl) (kCut_F G) rfl hl.1 rfl (Nat.le_of_ble_eq_true rfl) dX10_why_2 ⟨Nat.le_of_ble_eq_true rfl, Nat.le_of_ble_eq_true rfl⟩ (cN := 1) (sN := 6) ⟨rfl, rfl⟩ (fun c ce q9 H locs G hce hcv hcl => ?_) (fun c H locs G => ?_)
  · have h := op_f h c
    obtain ⟨rfl, rfl, rfl⟩ := op_3 h
    exact kx_out hex hlk G c hce hcv hcl (Nat.le_of_ble_eq_true rfl) (Nat.le_of_ble_eq_true rfl)
  have h := op_t h c
  refine lv_aload_n F.1 F.2.1 dX10_why_5 rfl (lv_at hl 0 rfl) ?_
  refine kg_get F G 0 0 (by decide) rfl (N := 6) (Tt := TX10) rfl kf10 3 (by decide) kl591 (v := .ref (aW 0 0)) rfl dX10_why_6 ?_
  refine lv_iload_n F.1 F.2.1 dX10_why_9 rfl (lv_at hl 1 rfl) ?_
  obtain ⟨r_2, w_3, hc, h⟩ := op_b2 h
  obtain ⟨ww_4, e9, h⟩ := op_st h
  refine k_callVR (rv := (some (.int r_2))) (Wc := (gW T aP (aW 0) v (ww 0))) (W2 := (gW T aP (aW 0) v w_3)) (Wn := (gU T aF aR aD aP aH aW tx ps nm v vn hs ww_4)) (As := [.int x1]) (rest := []) F G (mX9_reasonAgainst l D T aP (aW 0) v (ww 0) x1 hc) (cwV 1 F.2.2.2.2 (kg_c kl709 (kg_c kl710 (kg_c kl711 (kg_c kl64 (kg_c kl579 kg_a))))) rfl rfl rfl (by decide +kernel) ⟨Nat.le_of_ble_eq_true rfl, Nat.le_of_ble_eq_true rfl⟩) (kg_recv G 7 0 (by decide) rfl (q := (RX9, TX9, 14)) rfl) (by subst e9; exact kCut_g (g' := (gFc T aF aR aD aP aH aW tx ps nm v vn hs (va_up ww 0 w_3))) [4, 7] G (by decide) (by decide) (gF_same [4, 7] (Or.inr rfl) (Or.inr ⟨rfl, rfl⟩) (Or.inr ⟨rfl, rfl⟩) (Or.inr rfl) (gW_up 0 _ 7 (by simp))) gF_addr) rfl hl.1 rfl (Nat.le_of_ble_eq_true rfl) dX10_why_10 ⟨Nat.le_of_ble_eq_true rfl, Nat.le_of_ble_eq_true rfl⟩ (cN := 1) (sN := 6) ⟨rfl, rfl⟩ (fun H locs G => ?_)
  clear e9
  obtain ⟨rfl, rfl, rfl⟩ := op_3 h
  exact kx_ret (k_iret F hr hlk G dX10_why_13)
abbrev rmX10_runsIn : Room := ({ frames := 7, cells := 2, slots := 12, locals := 149 } : Room)
noncomputable def qX10_runsIn (tx : Nat → Nat → Int32) (ps : Nat → Nat → Int32) (nm : Nat → Int64) (v : Nat → Nat → Int32) (vn : Nat → Int64) (hs : Nat → Nat → Int32) (ww : Nat → Nat → Nat → Int32) (x1 : Int32) : Option (Nat × Int32 × (Nat → Nat → Nat → Int32)) :=
  bd (qX10_checkOutlet tx ps nm v vn hs ww x1) fun e_1 => if e_1 = 0 then bd (qX10_copyState (ww 0) (ww 1)) fun w2_2 => (bs (va_up ww 1 w2_2) fun ww_3 => bd3 (qX10_ticksUntilRunning tx ps nm v vn hs ww_3 (1 <<< (x1 &&& 31))) fun e_4 r_5 ww_6 => if e_4 = 0 then some (0, r_5, ww_6) else some (e_4, 0, ww_6)) else some (e_1, 0, ww)

set_option maxHeartbeats 8000000 in
set_option maxRecDepth 100000 in
theorem mX10_runsIn (l : Launch) (hst : l.stackTraces = false) (D : va_G) (T : Nat → ClassId) (aF : Nat → Nat) (aR : Nat → Nat) (aD : Nat → Nat) (aP : Nat → Nat) (aH : Nat → Nat) (aW : Nat → Nat → Nat) (tx : Nat → Nat → Int32) (ps : Nat → Nat → Int32) (nm : Nat → Int64) (v : Nat → Nat → Int32) (vn : Nat → Int64) (hs : Nat → Nat → Int32) (ww : Nat → Nat → Nat → Int32) (x1 : Int32) {eR : Nat} {rR : Int32} {wwR : Nat → Nat → Nat → Int32} (hres : qX10_runsIn tx ps nm v vn hs ww x1 = some (eR, rR, wwR)) : Cx l yX10_runsIn (Cond.code yX10_runsIn cX10_runsIn 2 (some .int) :: kAll) rmX10_runsIn D T [.ref (aF 0), .int x1] (gU T aF aR aD aP aH aW tx ps nm v vn hs ww) eR (some (.int rR)) (gU T aF aR aD aP aH aW tx ps nm v vn hs wwR) := by
  refine Cx.of (cc := cX10_runsIn) (maxL := 2) (ret := (some .int)) (by decide +kernel) rfl (Nat.le_of_ble_eq_true rfl) ?_
  intro pr en st mi ag bl me co A ls F hr hlk hex G hl
  have hl : lv_has ls 2 [(0, .ref (aF 0)), (1, .int x1)] := hl
  have h := hres
  unfold qX10_runsIn at h
  refine lv_aload_n F.1 F.2.1 dX10_runsIn_0 rfl (lv_at hl 0 rfl) ?_
  refine lv_iload_n F.1 F.2.1 dX10_runsIn_1 rfl (lv_at hl 1 rfl) ?_
  obtain ⟨e_1, hc, h⟩ := op_b h
  refine kx_callV (rv := none) (Wc := (gU T aF aR aD aP aH aW tx ps nm v vn hs ww)) (W2 := (gU T aF aR aD aP aH aW tx ps nm v vn hs ww)) (Wn := (gU T aF aR aD aP aH aW tx ps nm v vn hs ww)) (As := [.int x1]) (rest := []) F G (mX10_checkOutlet l hst D T aF aR aD aP aH aW tx ps nm v vn hs ww x1 hc) (cwV 1 F.2.2.2.2 (kg_c kl664 (kg_c kl665 (kg_c kl666 (kg_c kl80 (kg_c kl653 kg_a))))) rfl rfl rfl (by decide +kernel) ⟨Nat.le_of_ble_eq_true rfl, Nat.le_of_ble_eq_true rfl⟩) (kg_recv G 0 0 (by decide) rfl (q := (RX10, TX10, 6)) rfl) (kCut_F G) rfl hl.1 rfl (Nat.le_of_ble_eq_true rfl) dX10_runsIn_2 ⟨Nat.le_of_ble_eq_true rfl, Nat.le_of_ble_eq_true rfl⟩ (cN := 1) (sN := 6) ⟨rfl, rfl⟩ (fun c ce q9 H locs G hce hcv hcl => ?_) (fun c H locs G => ?_)
  · have h := op_f h c
    obtain ⟨rfl, rfl, rfl⟩ := op_3 h
    exact kx_out hex hlk G c hce hcv hcl (Nat.le_of_ble_eq_true rfl) (Nat.le_of_ble_eq_true rfl)
  have h := op_t h c
  refine lv_aload_n F.1 F.2.1 dX10_runsIn_5 rfl (lv_at hl 0 rfl) ?_
  refine kg_get F G 0 0 (by decide) rfl (N := 6) (Tt := TX10) rfl kf10 3 (by decide) kl591 (v := .ref (aW 0 0)) rfl dX10_runsIn_6 ?_
  refine lv_aload_n F.1 F.2.1 dX10_runsIn_9 rfl (lv_at hl 0 rfl) ?_
  refine kg_get F G 0 0 (by decide) rfl (N := 6) (Tt := TX10) rfl kf10 4 (by decide) kl592 (v := .ref (aW 1 0)) rfl dX10_runsIn_10 ?_
  obtain ⟨w2_2, hc, h⟩ := op_b h
  obtain ⟨ww_3, e9, h⟩ := op_st h
  refine k_callS (rv := none) (Wc := (gWW T aP (aW 0) (aW 1) (ww 0) (ww 1))) (W2 := (gWW T aP (aW 0) (aW 1) (ww 0) w2_2)) (Wn := (gU T aF aR aD aP aH aW tx ps nm v vn hs ww_3)) (As := [.ref (aW 0 0), .ref (aW 1 0)]) (rest := []) F G (mX10_copyState l D T aP (aW 0) (aW 1) (ww 0) (ww 1) hc) (va_cwS 2 F.2.2.2.2 (kg_c kl715 (kg_c kl116 (kg_c kl80 (kg_c kl92 kg_a)))) rfl rfl rfl (by decide +kernel) ⟨Nat.le_of_ble_eq_true rfl, Nat.le_of_ble_eq_true rfl⟩) (by subst e9; exact kCut_g (g' := (gFc T aF aR aD aP aH aW tx ps nm v vn hs (va_up ww 1 w2_2))) [7, 8] G (by decide) (by decide) (gF_same [7, 8] (Or.inr rfl) (Or.inr ⟨rfl, rfl⟩) (Or.inr ⟨rfl, rfl⟩) (Or.inr rfl) (gW_up 1 _ 7 (by simp))) gF_addr) rfl hl.1 rfl (Nat.le_of_ble_eq_true rfl) dX10_runsIn_13 ⟨Nat.le_of_ble_eq_true rfl, Nat.le_of_ble_eq_true rfl⟩ (cN := 1) (sN := 6) ⟨rfl, rfl⟩ (fun H locs G => ?_)
  clear e9
  refine lv_aload_n F.1 F.2.1 dX10_runsIn_16 rfl (lv_at hl 0 rfl) ?_
  refine lv_iconst (v := 1) F.1 F.2.1 dX10_runsIn_17 (by decide) ?_
  refine lv_iload_n F.1 F.2.1 dX10_runsIn_18 rfl (lv_at hl 1 rfl) ?_
  refine lv_ishl F.1 F.2.1 dX10_runsIn_19 ?_
  obtain ⟨e_4, r_5, ww_6, hc, h⟩ := op_b3 h
  refine kx_callV (rv := (some (.int r_5))) (Wc := (gU T aF aR aD aP aH aW tx ps nm v vn hs ww_3)) (W2 := (gU T aF aR aD aP aH aW tx ps nm v vn hs ww_6)) (Wn := (gU T aF aR aD aP aH aW tx ps nm v vn hs ww_6)) (As := [.int (1 <<< (x1 &&& 31))]) (rest := []) F G (mX10_ticksUntilRunning l hst D T aF aR aD aP aH aW tx ps nm v vn hs ww_3 (1 <<< (x1 &&& 31)) hc) (cwV 1 F.2.2.2.2 (kg_c kl716 (kg_c kl717 (kg_c kl718 (kg_c kl80 (kg_c kl712 kg_a))))) rfl rfl rfl (by decide +kernel) ⟨Nat.le_of_ble_eq_true rfl, Nat.le_of_ble_eq_true rfl⟩) (kg_recv G 0 0 (by decide) rfl (q := (RX10, TX10, 6)) rfl) (kCut_F G) rfl hl.1 rfl (Nat.le_of_ble_eq_true rfl) dX10_runsIn_20 ⟨Nat.le_of_ble_eq_true rfl, Nat.le_of_ble_eq_true rfl⟩ (cN := 2) (sN := 12) ⟨rfl, rfl⟩ (fun c ce q9 H locs G hce hcv hcl => ?_) (fun c H locs G => ?_)
  · have h := op_f h c
    obtain ⟨rfl, rfl, rfl⟩ := op_3 h
    exact kx_out hex hlk G c hce hcv hcl (Nat.le_of_ble_eq_true rfl) (Nat.le_of_ble_eq_true rfl)
  have h := op_t h c
  obtain ⟨rfl, rfl, rfl⟩ := op_3 h
  exact kx_ret (k_iret F hr hlk G dX10_runsIn_23)
abbrev rmX10_allIn : Room := ({ frames := 7, cells := 2, slots := 12, locals := 149 } : Room)
noncomputable def qX10_allIn (tx : Nat → Nat → Int32) (ps : Nat → Nat → Int32) (nm : Nat → Int64) (v : Nat → Nat → Int32) (vn : Nat → Int64) (hs : Nat → Nat → Int32) (ww : Nat → Nat → Nat → Int32) (x1 : Int32) : Option (Nat × Int32 × (Nat → Nat → Nat → Int32)) :=
  bd (qX10_checkRange x1 0 3) fun e_1 => if e_1 = 0 then bd (qX10_copyState (ww 0) (ww 1)) fun w2_2 => (bs (va_up ww 1 w2_2) fun ww_3 => (jn (fun (ww_4 : Nat → Nat → Nat → Int32) => bd (qX9_entitled v (ww_4 1)) fun r_5 => bd3 (qX10_ticksUntilRunning tx ps nm v vn hs ww_4 r_5) fun e_6 r_7 ww_8 => if e_6 = 0 then some (0, r_7, ww_8) else some (e_6, 0, ww_8)) fun j81 => if x1 = 1 then (bs (va_up ww_3 1 (va_up (ww_3 1) 35 (fun _ => 1))) fun ww_13 => (j81 ww_13)) else if x1 = 2 then (jn (fun (y_11 : Int32) => gd (narrow .boolean (.int y_11) = .int y_11 ∧ fits .boolean (.int y_11) = true) (bs (va_up ww_3 1 (va_up (ww_3 1) 4 (fun _ => y_11))) fun ww_12 => (j81 ww_12))) fun j60 => if ((ww_3 1) 4 0) = 0 then (j60 1) else (j60 0)) else if x1 = 3 then bd (qX3_forgetLearned v (ww_3 1)) fun w_9 => (bs (va_up ww_3 1 w_9) fun ww_10 => (j81 ww_10)) else (j81 ww_3))) else some (e_1, 0, ww)

set_option maxHeartbeats 8000000 in
set_option maxRecDepth 100000 in
theorem mX10_allIn (l : Launch) (hst : l.stackTraces = false) (D : va_G) (T : Nat → ClassId) (aF : Nat → Nat) (aR : Nat → Nat) (aD : Nat → Nat) (aP : Nat → Nat) (aH : Nat → Nat) (aW : Nat → Nat → Nat) (tx : Nat → Nat → Int32) (ps : Nat → Nat → Int32) (nm : Nat → Int64) (v : Nat → Nat → Int32) (vn : Nat → Int64) (hs : Nat → Nat → Int32) (ww : Nat → Nat → Nat → Int32) (x1 : Int32) {eR : Nat} {rR : Int32} {wwR : Nat → Nat → Nat → Int32} (hres : qX10_allIn tx ps nm v vn hs ww x1 = some (eR, rR, wwR)) : Cx l yX10_allIn (Cond.code yX10_allIn cX10_allIn 2 (some .int) :: kAll) rmX10_allIn D T [.ref (aF 0), .int x1] (gU T aF aR aD aP aH aW tx ps nm v vn hs ww) eR (some (.int rR)) (gU T aF aR aD aP aH aW tx ps nm v vn hs wwR) := by
  refine Cx.of (cc := cX10_allIn) (maxL := 2) (ret := (some .int)) (by decide +kernel) rfl (Nat.le_of_ble_eq_true rfl) ?_
  intro pr en st mi ag bl me co A ls F hr hlk hex G hl
  have hl : lv_has ls 2 [(0, .ref (aF 0)), (1, .int x1)] := hl
  have h := hres
  unfold qX10_allIn at h
  refine lv_iload_n F.1 F.2.1 dX10_allIn_0 rfl (lv_at hl 1 rfl) ?_
  refine lv_iconst (v := 0) F.1 F.2.1 dX10_allIn_1 (by decide) ?_
  refine lv_iconst (v := 3) F.1 F.2.1 dX10_allIn_2 (by decide) ?_
  obtain ⟨e_1, hc, h⟩ := op_b h
  refine kx_callS (rv := none) (Wc := ([] : va_W)) (W2 := ([] : va_W)) (Wn := (gU T aF aR aD aP aH aW tx ps nm v vn hs ww)) (As := [.int x1, .int 0, .int 3]) (rest := []) F G (mX10_checkRange l hst D T x1 0 3 hc) (va_cwS 3 F.2.2.2.2 (kg_c kl684 (kg_c kl685 (kg_c kl80 (kg_c kl682 kg_a)))) rfl rfl rfl (by decide +kernel) ⟨Nat.le_of_ble_eq_true rfl, Nat.le_of_ble_eq_true rfl⟩) (kCut_0 G) rfl hl.1 rfl (Nat.le_of_ble_eq_true rfl) dX10_allIn_3 ⟨Nat.le_of_ble_eq_true rfl, Nat.le_of_ble_eq_true rfl⟩ (cN := 1) (sN := 6) ⟨rfl, rfl⟩ (fun c ce q9 H locs G hce hcv hcl => ?_) (fun c H locs G => ?_)
  · have h := op_f h c
    obtain ⟨rfl, rfl, rfl⟩ := op_3 h
    exact kx_out hex hlk G c hce hcv hcl (Nat.le_of_ble_eq_true rfl) (Nat.le_of_ble_eq_true rfl)
  have h := op_t h c
  refine lv_aload_n F.1 F.2.1 dX10_allIn_6 rfl (lv_at hl 0 rfl) ?_
  refine kg_get F G 0 0 (by decide) rfl (N := 6) (Tt := TX10) rfl kf10 3 (by decide) kl591 (v := .ref (aW 0 0)) rfl dX10_allIn_7 ?_
  refine lv_aload_n F.1 F.2.1 dX10_allIn_10 rfl (lv_at hl 0 rfl) ?_
  refine kg_get F G 0 0 (by decide) rfl (N := 6) (Tt := TX10) rfl kf10 4 (by decide) kl592 (v := .ref (aW 1 0)) rfl dX10_allIn_11 ?_
  obtain ⟨w2_2, hc, h⟩ := op_b h
  obtain ⟨ww_3, e9, h⟩ := op_st h
  refine k_callS (rv := none) (Wc := (gWW T aP (aW 0) (aW 1) (ww 0) (ww 1))) (W2 := (gWW T aP (aW 0) (aW 1) (ww 0) w2_2)) (Wn := (gU T aF aR aD aP aH aW tx ps nm v vn hs ww_3)) (As := [.ref (aW 0 0), .ref (aW 1 0)]) (rest := []) F G (mX10_copyState l D T aP (aW 0) (aW 1) (ww 0) (ww 1) hc) (va_cwS 2 F.2.2.2.2 (kg_c kl715 (kg_c kl116 (kg_c kl80 (kg_c kl92 kg_a)))) rfl rfl rfl (by decide +kernel) ⟨Nat.le_of_ble_eq_true rfl, Nat.le_of_ble_eq_true rfl⟩) (by subst e9; exact kCut_g (g' := (gFc T aF aR aD aP aH aW tx ps nm v vn hs (va_up ww 1 w2_2))) [7, 8] G (by decide) (by decide) (gF_same [7, 8] (Or.inr rfl) (Or.inr ⟨rfl, rfl⟩) (Or.inr ⟨rfl, rfl⟩) (Or.inr rfl) (gW_up 1 _ 7 (by simp))) gF_addr) rfl hl.1 rfl (Nat.le_of_ble_eq_true rfl) dX10_allIn_14 ⟨Nat.le_of_ble_eq_true rfl, Nat.le_of_ble_eq_true rfl⟩ (cN := 1) (sN := 6) ⟨rfl, rfl⟩ (fun H locs G => ?_)
  clear e9
  refine lv_iload_n F.1 F.2.1 dX10_allIn_17 rfl (lv_at hl 1 rfl) ?_
  refine lv_iconst (v := 1) F.1 F.2.1 dX10_allIn_18 (by decide) ?_
  obtain ⟨j81, hj81, h⟩ := op_j h
  have J81 : ∀ (ww_4 : Nat → Nat → Nat → Int32) (H : Heap) (locs : List Loc) (ls : Array Slot), j81 ww_4 = some (eR, rR, wwR) → Rg D T A st (gU T aF aR aD aP aH aW tx ps nm v vn hs ww_4) H locs → lv_has ls 2 [(0, .ref (aF 0))] → W pr l en rmX10_allIn st mi ag bl me co H locs 1 6 (vx_MQ bl (kQx eR (some (.int rR)) D (gU T aF aR aD aP aH aW tx ps nm v vn hs wwR) A) (kXx eR D (gU T aF aR aD aP aH aW tx ps nm v vn hs wwR) A) ag st rmX10_allIn.cells rmX10_allIn.slots A) (F0 mi 81 ls []) := by
    intro ww_4 H locs ls h G hl
    rw [hj81] at h
    refine lv_aload_n F.1 F.2.1 dX10_allIn_81 rfl (lv_at hl 0 rfl) ?_
    refine lv_aload_n F.1 F.2.1 dX10_allIn_82 rfl (lv_at hl 0 rfl) ?_
    refine kg_get F G 0 0 (by decide) rfl (N := 6) (Tt := TX10) rfl kf10 4 (by decide) kl592 (v := .ref (aW 1 0)) rfl dX10_allIn_83 ?_
    obtain ⟨r_5, hc, h⟩ := op_b h
    refine k_callVR (rv := (some (.int r_5))) (Wc := (gW T aP (aW 1) v (ww_4 1))) (W2 := (gW T aP (aW 1) v (ww_4 1))) (Wn := (gU T aF aR aD aP aH aW tx ps nm v vn hs ww_4)) (As := []) (rest := [.ref (aF 0)]) F G (mX9_entitled l D T aP (aW 1) v (ww_4 1) hc) (cwV 0 F.2.2.2.2 (kg_c kl691 (kg_c kl558 (kg_c kl559 (kg_c kl64 (kg_c kl487 kg_a))))) rfl rfl rfl (by decide +kernel) ⟨Nat.le_of_ble_eq_true rfl, Nat.le_of_ble_eq_true rfl⟩) (kg_recv G 8 0 (by decide) rfl (q := (RX9, TX9, 14)) rfl) (kCut_g (g' := (gFc T aF aR aD aP aH aW tx ps nm v vn hs ww_4)) [4, 8] G (by decide) (by decide) (gF_same [4, 8] (Or.inr rfl) (Or.inr ⟨rfl, rfl⟩) (Or.inr ⟨rfl, rfl⟩) (Or.inr rfl) (fun _ => Or.inr rfl)) gF_addr) rfl hl.1 rfl (Nat.le_of_ble_eq_true rfl) dX10_allIn_86 ⟨Nat.le_of_ble_eq_true rfl, Nat.le_of_ble_eq_true rfl⟩ (cN := 1) (sN := 6) ⟨rfl, rfl⟩ (fun H locs G => ?_)
    obtain ⟨e_6, r_7, ww_8, hc, h⟩ := op_b3 h
    refine kx_callV (rv := (some (.int r_7))) (Wc := (gU T aF aR aD aP aH aW tx ps nm v vn hs ww_4)) (W2 := (gU T aF aR aD aP aH aW tx ps nm v vn hs ww_8)) (Wn := (gU T aF aR aD aP aH aW tx ps nm v vn hs ww_8)) (As := [.int r_5]) (rest := []) F G (mX10_ticksUntilRunning l hst D T aF aR aD aP aH aW tx ps nm v vn hs ww_4 r_5 hc) (cwV 1 F.2.2.2.2 (kg_c kl716 (kg_c kl717 (kg_c kl718 (kg_c kl80 (kg_c kl712 kg_a))))) rfl rfl rfl (by decide +kernel) ⟨Nat.le_of_ble_eq_true rfl, Nat.le_of_ble_eq_true rfl⟩) (kg_recv G 0 0 (by decide) rfl (q := (RX10, TX10, 6)) rfl) (kCut_F G) rfl hl.1 rfl (Nat.le_of_ble_eq_true rfl) dX10_allIn_89 ⟨Nat.le_of_ble_eq_true rfl, Nat.le_of_ble_eq_true rfl⟩ (cN := 2) (sN := 12) ⟨rfl, rfl⟩ (fun c ce q9 H locs G hce hcv hcl => ?_) (fun c H locs G => ?_)
    · have h := op_f h c
      obtain ⟨rfl, rfl, rfl⟩ := op_3 h
      exact kx_out hex hlk G c hce hcv hcl (Nat.le_of_ble_eq_true rfl) (Nat.le_of_ble_eq_true rfl)
    have h := op_t h c
    obtain ⟨rfl, rfl, rfl⟩ := op_3 h
    exact kx_ret (k_iret F hr hlk G dX10_allIn_92)
  clear hj81
  refine lv_icmp_ne (tgt := 36) F.1 F.2.1 dX10_allIn_19 (by decide) (fun c => ?_) (fun c => ?_)
  · have h := op_f h c
    refine lv_iload_n F.1 F.2.1 dX10_allIn_36 rfl (lv_at hl 1 rfl) ?_
    refine lv_iconst (v := 2) F.1 F.2.1 dX10_allIn_37 (by decide) ?_
    refine lv_icmp_ne (tgt := 66) F.1 F.2.1 dX10_allIn_38 (by decide) (fun c => ?_) (fun c => ?_)
    · have h := op_f h c
      refine lv_iload_n F.1 F.2.1 dX10_allIn_66 rfl (lv_at hl 1 rfl) ?_
      refine lv_iconst (v := 3) F.1 F.2.1 dX10_allIn_67 (by decide) ?_
      refine lv_icmp_ne (tgt := 81) F.1 F.2.1 dX10_allIn_68 (by decide) (fun c => ?_) (fun c => ?_)
      · have h := op_f h c
        exact J81 ww_3 _ _ _ h G (lv_sub hl [0] rfl)
      · have h := op_t h c
        refine lv_aload_n F.1 F.2.1 dX10_allIn_71 rfl (lv_at hl 0 rfl) ?_
        refine kg_get F G 0 0 (by decide) rfl (N := 6) (Tt := TX10) rfl kf10 4 (by decide) kl592 (v := .ref (aW 1 0)) rfl dX10_allIn_72 ?_
        refine kg_get F G 8 0 (by decide) rfl (N := 14) (Tt := TX9) rfl kf9 2 (by decide) kl102 (v := .ref (aW 1 9)) rfl dX10_allIn_75 ?_
        obtain ⟨w_9, hc, h⟩ := op_b h
        obtain ⟨ww_10, e9, h⟩ := op_st h
        refine k_callVR (rv := none) (Wc := (gW T aP (aW 1) v (ww_3 1))) (W2 := (gW T aP (aW 1) v w_9)) (Wn := (gU T aF aR aD aP aH aW tx ps nm v vn hs ww_10)) (As := []) (rest := []) F G (mX3_forgetLearned l D T aP (aW 1) v (ww_3 1) hc) (cwV 0 F.2.2.2.2 (kg_c kl721 (kg_c kl165 (kg_c kl166 (kg_c kl46 (kg_c kl156 kg_a))))) rfl rfl rfl (by decide +kernel) ⟨Nat.le_of_ble_eq_true rfl, Nat.le_of_ble_eq_true rfl⟩) (kg_recv G 8 9 (by decide) rfl (q := (RX3, TX3, 7)) rfl) (by subst e9; exact kCut_g (g' := (gFc T aF aR aD aP aH aW tx ps nm v vn hs (va_up ww_3 1 w_9))) [4, 8] G (by decide) (by decide) (gF_same [4, 8] (Or.inr rfl) (Or.inr ⟨rfl, rfl⟩) (Or.inr ⟨rfl, rfl⟩) (Or.inr rfl) (gW_up 1 _ 7 (by simp))) gF_addr) rfl hl.1 rfl (Nat.le_of_ble_eq_true rfl) dX10_allIn_78 ⟨Nat.le_of_ble_eq_true rfl, Nat.le_of_ble_eq_true rfl⟩ (cN := 1) (sN := 6) ⟨rfl, rfl⟩ (fun H locs G => ?_)
        clear e9
        exact J81 ww_10 _ _ _ h G (lv_sub hl [0] rfl)
    · have h := op_t h c
      refine lv_aload_n F.1 F.2.1 dX10_allIn_41 rfl (lv_at hl 0 rfl) ?_
      refine kg_get F G 0 0 (by decide) rfl (N := 6) (Tt := TX10) rfl kf10 4 (by decide) kl592 (v := .ref (aW 1 0)) rfl dX10_allIn_42 ?_
      refine lv_aload_n F.1 F.2.1 dX10_allIn_45 rfl (lv_at hl 0 rfl) ?_
      refine kg_get F G 0 0 (by decide) rfl (N := 6) (Tt := TX10) rfl kf10 4 (by decide) kl592 (v := .ref (aW 1 0)) rfl dX10_allIn_46 ?_
      refine kg_get F G 8 0 (by decide) rfl (N := 14) (Tt := TX9) rfl kf9 8 (by decide) kl97 (v := .int ((ww_3 1) 4 0)) rfl dX10_allIn_49 ?_
      obtain ⟨j60, hj60, h⟩ := op_j h
      have J60 : ∀ (y_11 : Int32) (H : Heap) (locs : List Loc) (ls : Array Slot), j60 y_11 = some (eR, rR, wwR) → Rg D T A st (gU T aF aR aD aP aH aW tx ps nm v vn hs ww_3) H locs → lv_has ls 2 [(0, .ref (aF 0))] → W pr l en rmX10_allIn st mi ag bl me co H locs 1 6 (vx_MQ bl (kQx eR (some (.int rR)) D (gU T aF aR aD aP aH aW tx ps nm v vn hs wwR) A) (kXx eR D (gU T aF aR aD aP aH aW tx ps nm v vn hs wwR) A) ag st rmX10_allIn.cells rmX10_allIn.slots A) (F0 mi 60 ls [.int y_11, .ref (aW 1 0)]) := by
        intro y_11 H locs ls h G hl
        rw [hj60] at h
        obtain ⟨c, h⟩ := op_g h
        obtain ⟨ww_12, e9, h⟩ := op_st h
        refine kg_put (g' := (gFc T aF aR aD aP aH aW tx ps nm v vn hs ww_12)) F G 8 0 (by decide) rfl (N := 14) (Tt := TX9) rfl kf9 tyX9_ok nmX9 8 (by decide) kl97 rfl (v := .int y_11) c.1 c.2 (Nat.le_of_ble_eq_true rfl) dX10_allIn_60 (by subst e9; rfl) (by subst e9; exact fun k hk h9 => (gF_same [8] (Or.inr rfl) (Or.inr ⟨rfl, rfl⟩) (Or.inr ⟨rfl, rfl⟩) (Or.inr rfl) (gW_up 1 _ 7 (by simp))) k hk (not_cons h9)) (fun H locs G => ?_)
        clear e9
        refine lv_goto (tgt := 81) F.1 F.2.1 dX10_allIn_63 (by decide) ?_
        exact J81 ww_12 _ _ _ h G hl
      clear hj60
      refine lv_if_ne (tgt := 59) F.1 F.2.1 dX10_allIn_52 (by decide) (fun c => ?_) (fun c => ?_)
      · have h := op_f h c
        refine lv_iconst (v := 0) F.1 F.2.1 dX10_allIn_59 (by decide) ?_
        exact J60 0 _ _ _ h G (lv_sub hl [0] rfl)
      · have h := op_t h c
        refine lv_iconst (v := 1) F.1 F.2.1 dX10_allIn_55 (by decide) ?_
        refine lv_goto (tgt := 60) F.1 F.2.1 dX10_allIn_56 (by decide) ?_
        exact J60 1 _ _ _ h G (lv_sub hl [0] rfl)
  · have h := op_t h c
    refine lv_aload_n F.1 F.2.1 dX10_allIn_22 rfl (lv_at hl 0 rfl) ?_
    refine kg_get F G 0 0 (by decide) rfl (N := 6) (Tt := TX10) rfl kf10 4 (by decide) kl592 (v := .ref (aW 1 0)) rfl dX10_allIn_23 ?_
    refine kg_get F G 8 0 (by decide) rfl (N := 14) (Tt := TX9) rfl kf9 3 (by decide) kl103 (v := .ref (aW 1 19)) rfl dX10_allIn_26 ?_
    refine lv_iconst (v := 1) F.1 F.2.1 dX10_allIn_29 (by decide) ?_
    obtain ⟨ww_13, e9, h⟩ := op_st h
    refine kg_put (g' := (gFc T aF aR aD aP aH aW tx ps nm v vn hs ww_13)) F G 8 19 (by decide) rfl (N := 9) (Tt := TX8) rfl kf8 tyX8_ok nmX8 8 (by decide) kl720 rfl (v := .int 1) rfl rfl (Nat.le_of_ble_eq_true rfl) dX10_allIn_30 (by subst e9; rfl) (by subst e9; exact fun k hk h9 => (gF_same [8] (Or.inr rfl) (Or.inr ⟨rfl, rfl⟩) (Or.inr ⟨rfl, rfl⟩) (Or.inr rfl) (gW_up 1 _ 7 (by simp))) k hk (not_cons h9)) (fun H locs G => ?_)
    clear e9
    refine lv_goto (tgt := 81) F.1 F.2.1 dX10_allIn_33 (by decide) ?_
    exact J81 ww_13 _ _ _ h G (lv_sub hl [0] rfl)
abbrev rmX10_peakIn : Room := ({ frames := 7, cells := 2, slots := 12, locals := 149 } : Room)
noncomputable def qX10_peakIn (tx : Nat → Nat → Int32) (ps : Nat → Nat → Int32) (nm : Nat → Int64) (v : Nat → Nat → Int32) (vn : Nat → Int64) (hs : Nat → Nat → Int32) (ww : Nat → Nat → Nat → Int32) (x1 : Int32) (x2 : Int32) : Option (Nat × Int32 × (Nat → Nat → Nat → Int32)) :=
  bd (qX10_checkRange x1 1 500) fun e_1 => if e_1 = 0 then bd (qX10_checkRange x2 1 9999) fun e_2 => if e_2 = 0 then bd (qX10_copyState (ww 0) (ww 1)) fun w2_3 => (bs (va_up ww 1 w2_3) fun ww_4 => (bs (va_up ww_4 1 (va_up (ww_4 1) 2 (fun _ => x2))) fun ww_5 => (bs (va_up ww_5 1 (va_up (ww_5 1) 7 (fun _ => 0))) fun ww_6 => bd (qX9_passTicks v (ww_6 1) x1) fun w_7 => (bs (va_up ww_6 1 w_7) fun ww_8 => some (0, ((ww_8 1) 7 0), ww_8))))) else some (e_2, 0, ww) else some (e_1, 0, ww)

set_option maxHeartbeats 8000000 in
set_option maxRecDepth 100000 in
theorem mX10_peakIn (l : Launch) (hst : l.stackTraces = false) (D : va_G) (T : Nat → ClassId) (aF : Nat → Nat) (aR : Nat → Nat) (aD : Nat → Nat) (aP : Nat → Nat) (aH : Nat → Nat) (aW : Nat → Nat → Nat) (tx : Nat → Nat → Int32) (ps : Nat → Nat → Int32) (nm : Nat → Int64) (v : Nat → Nat → Int32) (vn : Nat → Int64) (hs : Nat → Nat → Int32) (ww : Nat → Nat → Nat → Int32) (x1 : Int32) (x2 : Int32) {eR : Nat} {rR : Int32} {wwR : Nat → Nat → Nat → Int32} (hres : qX10_peakIn tx ps nm v vn hs ww x1 x2 = some (eR, rR, wwR)) : Cx l yX10_peakIn (Cond.code yX10_peakIn cX10_peakIn 3 (some .int) :: kAll) rmX10_peakIn D T [.ref (aF 0), .int x1, .int x2] (gU T aF aR aD aP aH aW tx ps nm v vn hs ww) eR (some (.int rR)) (gU T aF aR aD aP aH aW tx ps nm v vn hs wwR) := by
  refine Cx.of (cc := cX10_peakIn) (maxL := 3) (ret := (some .int)) (by decide +kernel) rfl (Nat.le_of_ble_eq_true rfl) ?_
  intro pr en st mi ag bl me co A ls F hr hlk hex G hl
  have hl : lv_has ls 3 [(0, .ref (aF 0)), (1, .int x1), (2, .int x2)] := hl
  have h := hres
  unfold qX10_peakIn at h
  refine lv_iload_n F.1 F.2.1 dX10_peakIn_0 rfl (lv_at hl 1 rfl) ?_
  refine lv_iconst (v := 1) F.1 F.2.1 dX10_peakIn_1 (by decide) ?_
  refine lv_sipush (v := 500) F.1 F.2.1 dX10_peakIn_2 (by decide) ?_
  obtain ⟨e_1, hc, h⟩ := op_b h
  refine kx_callS (rv := none) (Wc := ([] : va_W)) (W2 := ([] : va_W)) (Wn := (gU T aF aR aD aP aH aW tx ps nm v vn hs ww)) (As := [.int x1, .int 1, .int 500]) (rest := []) F G (mX10_checkRange l hst D T x1 1 500 hc) (va_cwS 3 F.2.2.2.2 (kg_c kl684 (kg_c kl685 (kg_c kl80 (kg_c kl682 kg_a)))) rfl rfl rfl (by decide +kernel) ⟨Nat.le_of_ble_eq_true rfl, Nat.le_of_ble_eq_true rfl⟩) (kCut_0 G) rfl hl.1 rfl (Nat.le_of_ble_eq_true rfl) dX10_peakIn_5 ⟨Nat.le_of_ble_eq_true rfl, Nat.le_of_ble_eq_true rfl⟩ (cN := 1) (sN := 6) ⟨rfl, rfl⟩ (fun c ce q9 H locs G hce hcv hcl => ?_) (fun c H locs G => ?_)
  · have h := op_f h c
    obtain ⟨rfl, rfl, rfl⟩ := op_3 h
    exact kx_out hex hlk G c hce hcv hcl (Nat.le_of_ble_eq_true rfl) (Nat.le_of_ble_eq_true rfl)
  have h := op_t h c
  refine lv_iload_n F.1 F.2.1 dX10_peakIn_8 rfl (lv_at hl 2 rfl) ?_
  refine lv_iconst (v := 1) F.1 F.2.1 dX10_peakIn_9 (by decide) ?_
  refine lv_sipush (v := 9999) F.1 F.2.1 dX10_peakIn_10 (by decide) ?_
  obtain ⟨e_2, hc, h⟩ := op_b h
  refine kx_callS (rv := none) (Wc := ([] : va_W)) (W2 := ([] : va_W)) (Wn := (gU T aF aR aD aP aH aW tx ps nm v vn hs ww)) (As := [.int x2, .int 1, .int 9999]) (rest := []) F G (mX10_checkRange l hst D T x2 1 9999 hc) (va_cwS 3 F.2.2.2.2 (kg_c kl684 (kg_c kl685 (kg_c kl80 (kg_c kl682 kg_a)))) rfl rfl rfl (by decide +kernel) ⟨Nat.le_of_ble_eq_true rfl, Nat.le_of_ble_eq_true rfl⟩) (kCut_0 G) rfl hl.1 rfl (Nat.le_of_ble_eq_true rfl) dX10_peakIn_13 ⟨Nat.le_of_ble_eq_true rfl, Nat.le_of_ble_eq_true rfl⟩ (cN := 2) (sN := 12) ⟨rfl, rfl⟩ (fun c ce q9 H locs G hce hcv hcl => ?_) (fun c H locs G => ?_)
  · have h := op_f h c
    obtain ⟨rfl, rfl, rfl⟩ := op_3 h
    exact kx_out hex hlk G c hce hcv hcl (Nat.le_of_ble_eq_true rfl) (Nat.le_of_ble_eq_true rfl)
  have h := op_t h c
  refine lv_aload_n F.1 F.2.1 dX10_peakIn_16 rfl (lv_at hl 0 rfl) ?_
  refine kg_get F G 0 0 (by decide) rfl (N := 6) (Tt := TX10) rfl kf10 3 (by decide) kl591 (v := .ref (aW 0 0)) rfl dX10_peakIn_17 ?_
  refine lv_aload_n F.1 F.2.1 dX10_peakIn_20 rfl (lv_at hl 0 rfl) ?_
  refine kg_get F G 0 0 (by decide) rfl (N := 6) (Tt := TX10) rfl kf10 4 (by decide) kl592 (v := .ref (aW 1 0)) rfl dX10_peakIn_21 ?_
  obtain ⟨w2_3, hc, h⟩ := op_b h
  obtain ⟨ww_4, e9, h⟩ := op_st h
  refine k_callS (rv := none) (Wc := (gWW T aP (aW 0) (aW 1) (ww 0) (ww 1))) (W2 := (gWW T aP (aW 0) (aW 1) (ww 0) w2_3)) (Wn := (gU T aF aR aD aP aH aW tx ps nm v vn hs ww_4)) (As := [.ref (aW 0 0), .ref (aW 1 0)]) (rest := []) F G (mX10_copyState l D T aP (aW 0) (aW 1) (ww 0) (ww 1) hc) (va_cwS 2 F.2.2.2.2 (kg_c kl715 (kg_c kl116 (kg_c kl80 (kg_c kl92 kg_a)))) rfl rfl rfl (by decide +kernel) ⟨Nat.le_of_ble_eq_true rfl, Nat.le_of_ble_eq_true rfl⟩) (by subst e9; exact kCut_g (g' := (gFc T aF aR aD aP aH aW tx ps nm v vn hs (va_up ww 1 w2_3))) [7, 8] G (by decide) (by decide) (gF_same [7, 8] (Or.inr rfl) (Or.inr ⟨rfl, rfl⟩) (Or.inr ⟨rfl, rfl⟩) (Or.inr rfl) (gW_up 1 _ 7 (by simp))) gF_addr) rfl hl.1 rfl (Nat.le_of_ble_eq_true rfl) dX10_peakIn_24 ⟨Nat.le_of_ble_eq_true rfl, Nat.le_of_ble_eq_true rfl⟩ (cN := 2) (sN := 12) ⟨rfl, rfl⟩ (fun H locs G => ?_)
  clear e9
  refine lv_aload_n F.1 F.2.1 dX10_peakIn_27 rfl (lv_at hl 0 rfl) ?_
  refine kg_get F G 0 0 (by decide) rfl (N := 6) (Tt := TX10) rfl kf10 4 (by decide) kl592 (v := .ref (aW 1 0)) rfl dX10_peakIn_28 ?_
  refine lv_iload_n F.1 F.2.1 dX10_peakIn_31 rfl (lv_at hl 2 rfl) ?_
  obtain ⟨ww_5, e9, h⟩ := op_st h
  refine kg_put (g' := (gFc T aF aR aD aP aH aW tx ps nm v vn hs ww_5)) F G 8 0 (by decide) rfl (N := 14) (Tt := TX9) rfl kf9 tyX9_ok nmX9 6 (by decide) kl95 rfl (v := .int x2) rfl rfl (Nat.le_of_ble_eq_true rfl) dX10_peakIn_32 (by subst e9; rfl) (by subst e9; exact fun k hk h9 => (gF_same [8] (Or.inr rfl) (Or.inr ⟨rfl, rfl⟩) (Or.inr ⟨rfl, rfl⟩) (Or.inr rfl) (gW_up 1 _ 7 (by simp))) k hk (not_cons h9)) (fun H locs G => ?_)
  clear e9
  refine lv_aload_n F.1 F.2.1 dX10_peakIn_35 rfl (lv_at hl 0 rfl) ?_
  refine kg_get F G 0 0 (by decide) rfl (N := 6) (Tt := TX10) rfl kf10 4 (by decide) kl592 (v := .ref (aW 1 0)) rfl dX10_peakIn_36 ?_
  refine lv_iconst (v := 0) F.1 F.2.1 dX10_peakIn_39 (by decide) ?_
  obtain ⟨ww_6, e9, h⟩ := op_st h
  refine kg_put (g' := (gFc T aF aR aD aP aH aW tx ps nm v vn hs ww_6)) F G 8 0 (by decide) rfl (N := 14) (Tt := TX9) rfl kf9 tyX9_ok nmX9 11 (by decide) kl100 rfl (v := .int 0) rfl rfl (Nat.le_of_ble_eq_true rfl) dX10_peakIn_40 (by subst e9; rfl) (by subst e9; exact fun k hk h9 => (gF_same [8] (Or.inr rfl) (Or.inr ⟨rfl, rfl⟩) (Or.inr ⟨rfl, rfl⟩) (Or.inr rfl) (gW_up 1 _ 7 (by simp))) k hk (not_cons h9)) (fun H locs G => ?_)
  clear e9
  refine lv_aload_n F.1 F.2.1 dX10_peakIn_43 rfl (lv_at hl 0 rfl) ?_
  refine kg_get F G 0 0 (by decide) rfl (N := 6) (Tt := TX10) rfl kf10 4 (by decide) kl592 (v := .ref (aW 1 0)) rfl dX10_peakIn_44 ?_
  refine lv_iload_n F.1 F.2.1 dX10_peakIn_47 rfl (lv_at hl 1 rfl) ?_
  obtain ⟨w_7, hc, h⟩ := op_b h
  obtain ⟨ww_8, e9, h⟩ := op_st h
  refine k_callVR (rv := none) (Wc := (gW T aP (aW 1) v (ww_6 1))) (W2 := (gW T aP (aW 1) v w_7)) (Wn := (gU T aF aR aD aP aH aW tx ps nm v vn hs ww_8)) (As := [.int x1]) (rest := []) F G (mX9_passTicks l D T aP (aW 1) v (ww_6 1) x1 hc) (cwV 1 F.2.2.2.2 (kg_c kl723 (kg_c kl724 (kg_c kl725 (kg_c kl64 (kg_c kl575 kg_a))))) rfl rfl rfl (by decide +kernel) ⟨Nat.le_of_ble_eq_true rfl, Nat.le_of_ble_eq_true rfl⟩) (kg_recv G 8 0 (by decide) rfl (q := (RX9, TX9, 14)) rfl) (by subst e9; exact kCut_g (g' := (gFc T aF aR aD aP aH aW tx ps nm v vn hs (va_up ww_6 1 w_7))) [4, 8] G (by decide) (by decide) (gF_same [4, 8] (Or.inr rfl) (Or.inr ⟨rfl, rfl⟩) (Or.inr ⟨rfl, rfl⟩) (Or.inr rfl) (gW_up 1 _ 7 (by simp))) gF_addr) rfl hl.1 rfl (Nat.le_of_ble_eq_true rfl) dX10_peakIn_48 ⟨Nat.le_of_ble_eq_true rfl, Nat.le_of_ble_eq_true rfl⟩ (cN := 2) (sN := 12) ⟨rfl, rfl⟩ (fun H locs G => ?_)
  clear e9
  refine lv_aload_n F.1 F.2.1 dX10_peakIn_51 rfl (lv_at hl 0 rfl) ?_
  refine kg_get F G 0 0 (by decide) rfl (N := 6) (Tt := TX10) rfl kf10 4 (by decide) kl592 (v := .ref (aW 1 0)) rfl dX10_peakIn_52 ?_
  refine kg_get F G 8 0 (by decide) rfl (N := 14) (Tt := TX9) rfl kf9 11 (by decide) kl100 (v := .int ((ww_8 1) 7 0)) rfl dX10_peakIn_55 ?_
  obtain ⟨rfl, rfl, rfl⟩ := op_3 h
  exact kx_ret (k_iret F hr hlk G dX10_peakIn_58)
abbrev rmX10_sentIn : Room := ({ frames := 7, cells := 2, slots := 12, locals := 149 } : Room)
noncomputable def qX10_sentIn (tx : Nat → Nat → Int32) (ps : Nat → Nat → Int32) (nm : Nat → Int64) (v : Nat → Nat → Int32) (vn : Nat → Int64) (hs : Nat → Nat → Int32) (ww : Nat → Nat → Nat → Int32) (x1 : Int32) (x2 : Int32) : Option (Nat × Int32 × (Nat → Nat → Nat → Int32)) :=
  bd (qX10_checkRange x1 1 500) fun e_1 => if e_1 = 0 then bd (qX10_checkRange x2 1 20) fun e_2 => if e_2 = 0 then bd (qX10_copyState (ww 0) (ww 1)) fun w2_3 => (bs (va_up ww 1 w2_3) fun ww_4 => (bs (va_up ww_4 1 (va_up (ww_4 1) 3 (fun _ => x2))) fun ww_5 => bd (qX9_passTicks v (ww_5 1) x1) fun w_6 => (bs (va_up ww_5 1 w_6) fun ww_7 => some (0, (((ww_7 1) 34 0) - ((ww_7 0) 34 0)), ww_7)))) else some (e_2, 0, ww) else some (e_1, 0, ww)

set_option maxHeartbeats 8000000 in
set_option maxRecDepth 100000 in
theorem mX10_sentIn (l : Launch) (hst : l.stackTraces = false) (D : va_G) (T : Nat → ClassId) (aF : Nat → Nat) (aR : Nat → Nat) (aD : Nat → Nat) (aP : Nat → Nat) (aH : Nat → Nat) (aW : Nat → Nat → Nat) (tx : Nat → Nat → Int32) (ps : Nat → Nat → Int32) (nm : Nat → Int64) (v : Nat → Nat → Int32) (vn : Nat → Int64) (hs : Nat → Nat → Int32) (ww : Nat → Nat → Nat → Int32) (x1 : Int32) (x2 : Int32) {eR : Nat} {rR : Int32} {wwR : Nat → Nat → Nat → Int32} (hres : qX10_sentIn tx ps nm v vn hs ww x1 x2 = some (eR, rR, wwR)) : Cx l yX10_sentIn (Cond.code yX10_sentIn cX10_sentIn 3 (some .int) :: kAll) rmX10_sentIn D T [.ref (aF 0), .int x1, .int x2] (gU T aF aR aD aP aH aW tx ps nm v vn hs ww) eR (some (.int rR)) (gU T aF aR aD aP aH aW tx ps nm v vn hs wwR) := by
  refine Cx.of (cc := cX10_sentIn) (maxL := 3) (ret := (some .int)) (by decide +kernel) rfl (Nat.le_of_ble_eq_true rfl) ?_
  intro pr en st mi ag bl me co A ls F hr hlk hex G hl
  have hl : lv_has ls 3 [(0, .ref (aF 0)), (1, .int x1), (2, .int x2)] := hl
  have h := hres
  unfold qX10_sentIn at h
  refine lv_iload_n F.1 F.2.1 dX10_sentIn_0 rfl (lv_at hl 1 rfl) ?_
  refine lv_iconst (v := 1) F.1 F.2.1 dX10_sentIn_1 (by decide) ?_
  refine lv_sipush (v := 500) F.1 F.2.1 dX10_sentIn_2 (by decide) ?_
  obtain ⟨e_1, hc, h⟩ := op_b h
  refine kx_callS (rv := none) (Wc := ([] : va_W)) (W2 := ([] : va_W)) (Wn := (gU T aF aR aD aP aH aW tx ps nm v vn hs ww)) (As := [.int x1, .int 1, .int 500]) (rest := []) F G (mX10_checkRange l hst D T x1 1 500 hc) (va_cwS 3 F.2.2.2.2 (kg_c kl684 (kg_c kl685 (kg_c kl80 (kg_c kl682 kg_a)))) rfl rfl rfl (by decide +kernel) ⟨Nat.le_of_ble_eq_true rfl, Nat.le_of_ble_eq_true rfl⟩) (kCut_0 G) rfl hl.1 rfl (Nat.le_of_ble_eq_true rfl) dX10_sentIn_5 ⟨Nat.le_of_ble_eq_true rfl, Nat.le_of_ble_eq_true rfl⟩ (cN := 1) (sN := 6) ⟨rfl, rfl⟩ (fun c ce q9 H locs G hce hcv hcl => ?_) (fun c H locs G => ?_)
  · have h := op_f h c
    obtain ⟨rfl, rfl, rfl⟩ := op_3 h
    exact kx_out hex hlk G c hce hcv hcl (Nat.le_of_ble_eq_true rfl) (Nat.le_of_ble_eq_true rfl)
  have h := op_t h c
  refine lv_iload_n F.1 F.2.1 dX10_sentIn_8 rfl (lv_at hl 2 rfl) ?_
  refine lv_iconst (v := 1) F.1 F.2.1 dX10_sentIn_9 (by decide) ?_
  refine lv_bipush (v := 20) F.1 F.2.1 dX10_sentIn_10 (by decide) ?_
  obtain ⟨e_2, hc, h⟩ := op_b h
  refine kx_callS (rv := none) (Wc := ([] : va_W)) (W2 := ([] : va_W)) (Wn := (gU T aF aR aD aP aH aW tx ps nm v vn hs ww)) (As := [.int x2, .int 1, .int 20]) (rest := []) F G (mX10_checkRange l hst D T x2 1 20 hc) (va_cwS 3 F.2.2.2.2 (kg_c kl684 (kg_c kl685 (kg_c kl80 (kg_c kl682 kg_a)))) rfl rfl rfl (by decide +kernel) ⟨Nat.le_of_ble_eq_true rfl, Nat.le_of_ble_eq_true rfl⟩) (kCut_0 G) rfl hl.1 rfl (Nat.le_of_ble_eq_true rfl) dX10_sentIn_12 ⟨Nat.le_of_ble_eq_true rfl, Nat.le_of_ble_eq_true rfl⟩ (cN := 2) (sN := 12) ⟨rfl, rfl⟩ (fun c ce q9 H locs G hce hcv hcl => ?_) (fun c H locs G => ?_)
  · have h := op_f h c
    obtain ⟨rfl, rfl, rfl⟩ := op_3 h
    exact kx_out hex hlk G c hce hcv hcl (Nat.le_of_ble_eq_true rfl) (Nat.le_of_ble_eq_true rfl)
  have h := op_t h c
  refine lv_aload_n F.1 F.2.1 dX10_sentIn_15 rfl (lv_at hl 0 rfl) ?_
  refine kg_get F G 0 0 (by decide) rfl (N := 6) (Tt := TX10) rfl kf10 3 (by decide) kl591 (v := .ref (aW 0 0)) rfl dX10_sentIn_16 ?_
  refine lv_aload_n F.1 F.2.1 dX10_sentIn_19 rfl (lv_at hl 0 rfl) ?_
  refine kg_get F G 0 0 (by decide) rfl (N := 6) (Tt := TX10) rfl kf10 4 (by decide) kl592 (v := .ref (aW 1 0)) rfl dX10_sentIn_20 ?_
  obtain ⟨w2_3, hc, h⟩ := op_b h
  obtain ⟨ww_4, e9, h⟩ := op_st h
  refine k_callS (rv := none) (Wc := (gWW T aP (aW 0) (aW 1) (ww 0) (ww 1))) (W2 := (gWW T aP (aW 0) (aW 1) (ww 0) w2_3)) (Wn := (gU T aF aR aD aP aH aW tx ps nm v vn hs ww_4)) (As := [.ref (aW 0 0), .ref (aW 1 0)]) (rest := []) F G (mX10_copyState l D T aP (aW 0) (aW 1) (ww 0) (ww 1) hc) (va_cwS 2 F.2.2.2.2 (kg_c kl715 (kg_c kl116 (kg_c kl80 (kg_c kl92 kg_a)))) rfl rfl rfl (by decide +kernel) ⟨Nat.le_of_ble_eq_true rfl, Nat.le_of_ble_eq_true rfl⟩) (by subst e9; exact kCut_g (g' := (gFc T aF aR aD aP aH aW tx ps nm v vn hs (va_up ww 1 w2_3))) [7, 8] G (by decide) (by decide) (gF_same [7, 8] (Or.inr rfl) (Or.inr ⟨rfl, rfl⟩) (Or.inr ⟨rfl, rfl⟩) (Or.inr rfl) (gW_up 1 _ 7 (by simp))) gF_addr) rfl hl.1 rfl (Nat.le_of_ble_eq_true rfl) dX10_sentIn_23 ⟨Nat.le_of_ble_eq_true rfl, Nat.le_of_ble_eq_true rfl⟩ (cN := 2) (sN := 12) ⟨rfl, rfl⟩ (fun H locs G => ?_)
  clear e9
  refine lv_aload_n F.1 F.2.1 dX10_sentIn_26 rfl (lv_at hl 0 rfl) ?_
  refine kg_get F G 0 0 (by decide) rfl (N := 6) (Tt := TX10) rfl kf10 4 (by decide) kl592 (v := .ref (aW 1 0)) rfl dX10_sentIn_27 ?_
  refine lv_iload_n F.1 F.2.1 dX10_sentIn_30 rfl (lv_at hl 2 rfl) ?_
  obtain ⟨ww_5, e9, h⟩ := op_st h
  refine kg_put (g' := (gFc T aF aR aD aP aH aW tx ps nm v vn hs ww_5)) F G 8 0 (by decide) rfl (N := 14) (Tt := TX9) rfl kf9 tyX9_ok nmX9 7 (by decide) kl96 rfl (v := .int x2) rfl rfl (Nat.le_of_ble_eq_true rfl) dX10_sentIn_31 (by subst e9; rfl) (by subst e9; exact fun k hk h9 => (gF_same [8] (Or.inr rfl) (Or.inr ⟨rfl, rfl⟩) (Or.inr ⟨rfl, rfl⟩) (Or.inr rfl) (gW_up 1 _ 7 (by simp))) k hk (not_cons h9)) (fun H locs G => ?_)
  clear e9
  refine lv_aload_n F.1 F.2.1 dX10_sentIn_34 rfl (lv_at hl 0 rfl) ?_
  refine kg_get F G 0 0 (by decide) rfl (N := 6) (Tt := TX10) rfl kf10 4 (by decide) kl592 (v := .ref (aW 1 0)) rfl dX10_sentIn_35 ?_
  refine lv_iload_n F.1 F.2.1 dX10_sentIn_38 rfl (lv_at hl 1 rfl) ?_
  obtain ⟨w_6, hc, h⟩ := op_b h
  obtain ⟨ww_7, e9, h⟩ := op_st h
  refine k_callVR (rv := none) (Wc := (gW T aP (aW 1) v (ww_5 1))) (W2 := (gW T aP (aW 1) v w_6)) (Wn := (gU T aF aR aD aP aH aW tx ps nm v vn hs ww_7)) (As := [.int x1]) (rest := []) F G (mX9_passTicks l D T aP (aW 1) v (ww_5 1) x1 hc) (cwV 1 F.2.2.2.2 (kg_c kl723 (kg_c kl724 (kg_c kl725 (kg_c kl64 (kg_c kl575 kg_a))))) rfl rfl rfl (by decide +kernel) ⟨Nat.le_of_ble_eq_true rfl, Nat.le_of_ble_eq_true rfl⟩) (kg_recv G 8 0 (by decide) rfl (q := (RX9, TX9, 14)) rfl) (by subst e9; exact kCut_g (g' := (gFc T aF aR aD aP aH aW tx ps nm v vn hs (va_up ww_5 1 w_6))) [4, 8] G (by decide) (by decide) (gF_same [4, 8] (Or.inr rfl) (Or.inr ⟨rfl, rfl⟩) (Or.inr ⟨rfl, rfl⟩) (Or.inr rfl) (gW_up 1 _ 7 (by simp))) gF_addr) rfl hl.1 rfl (Nat.le_of_ble_eq_true rfl) dX10_sentIn_39 ⟨Nat.le_of_ble_eq_true rfl, Nat.le_of_ble_eq_true rfl⟩ (cN := 2) (sN := 12) ⟨rfl, rfl⟩ (fun H locs G => ?_)
  clear e9
  refine lv_aload_n F.1 F.2.1 dX10_sentIn_42 rfl (lv_at hl 0 rfl) ?_
  refine kg_get F G 0 0 (by decide) rfl (N := 6) (Tt := TX10) rfl kf10 4 (by decide) kl592 (v := .ref (aW 1 0)) rfl dX10_sentIn_43 ?_
  refine kg_get F G 8 0 (by decide) rfl (N := 14) (Tt := TX9) rfl kf9 3 (by decide) kl103 (v := .ref (aW 1 19)) rfl dX10_sentIn_46 ?_
  refine kg_get F G 8 19 (by decide) rfl (N := 9) (Tt := TX8) rfl kf8 7 (by decide) kl645 (v := .int ((ww_7 1) 34 0)) rfl dX10_sentIn_49 ?_
  refine lv_aload_n F.1 F.2.1 dX10_sentIn_52 rfl (lv_at hl 0 rfl) ?_
  refine kg_get F G 0 0 (by decide) rfl (N := 6) (Tt := TX10) rfl kf10 3 (by decide) kl591 (v := .ref (aW 0 0)) rfl dX10_sentIn_53 ?_
  refine kg_get F G 7 0 (by decide) rfl (N := 14) (Tt := TX9) rfl kf9 3 (by decide) kl103 (v := .ref (aW 0 19)) rfl dX10_sentIn_56 ?_
  refine kg_get F G 7 19 (by decide) rfl (N := 9) (Tt := TX8) rfl kf8 7 (by decide) kl645 (v := .int ((ww_7 0) 34 0)) rfl dX10_sentIn_59 ?_
  refine lv_isub F.1 F.2.1 dX10_sentIn_62 ?_
  obtain ⟨rfl, rfl, rfl⟩ := op_3 h
  exact kx_ret (k_iret F hr hlk G dX10_sentIn_63)
abbrev rmX10_run : Room := ({ frames := 7, cells := 2, slots := 12, locals := 149 } : Room)
noncomputable def qX10_run (tx : Nat → Nat → Int32) (ps : Nat → Nat → Int32) (nm : Nat → Int64) (v : Nat → Nat → Int32) (vn : Nat → Int64) (hs : Nat → Nat → Int32) (ww : Nat → Nat → Nat → Int32) (x1 : Int32) : Option (Nat × Int32 × (Nat → Nat → Int32) × (Nat → Nat → Nat → Int32)) :=
  bd (qX10_checkRange x1 1 200) fun e_1 => if e_1 = 0 then if (((ww 0) 0 0) + x1) ≤ 5000 then bd2 (qX0_keep hs ww) fun hs_2 ww_3 => bd (qX9_passTicks v (ww_3 0) x1) fun w_4 => (bs (va_up ww_3 0 w_4) fun ww_5 => bd (qX2_inState v (ww_5 0) 3) fun r_6 => bd (qJ6_bitCount_0f7a4 r_6) fun r_7 => some (0, r_7, hs_2, ww_5)) else some (1, 0, hs, ww) else some (e_1, 0, hs, ww)

set_option maxHeartbeats 8000000 in
set_option maxRecDepth 100000 in
theorem mX10_run (l : Launch) (hst : l.stackTraces = false) (D : va_G) (T : Nat → ClassId) (aF : Nat → Nat) (aR : Nat → Nat) (aD : Nat → Nat) (aP : Nat → Nat) (aH : Nat → Nat) (aW : Nat → Nat → Nat) (tx : Nat → Nat → Int32) (ps : Nat → Nat → Int32) (nm : Nat → Int64) (v : Nat → Nat → Int32) (vn : Nat → Int64) (hs : Nat → Nat → Int32) (ww : Nat → Nat → Nat → Int32) (x1 : Int32) {eR : Nat} {rR : Int32} {hsR : Nat → Nat → Int32} {wwR : Nat → Nat → Nat → Int32} (hres : qX10_run tx ps nm v vn hs ww x1 = some (eR, rR, hsR, wwR)) : Cx l yX10_run (Cond.code yX10_run cX10_run 2 (some .int) :: kAll) rmX10_run D T [.ref (aF 0), .int x1] (gU T aF aR aD aP aH aW tx ps nm v vn hs ww) eR (some (.int rR)) (gU T aF aR aD aP aH aW tx ps nm v vn hsR wwR) := by
  refine Cx.of (cc := cX10_run) (maxL := 2) (ret := (some .int)) (by decide +kernel) rfl (Nat.le_of_ble_eq_true rfl) ?_
  intro pr en st mi ag bl me co A ls F hr hlk hex G hl
  have hl : lv_has ls 2 [(0, .ref (aF 0)), (1, .int x1)] := hl
  have h := hres
  unfold qX10_run at h
  refine lv_iload_n F.1 F.2.1 dX10_run_0 rfl (lv_at hl 1 rfl) ?_
  refine lv_iconst (v := 1) F.1 F.2.1 dX10_run_1 (by decide) ?_
  refine lv_sipush (v := 200) F.1 F.2.1 dX10_run_2 (by decide) ?_
  obtain ⟨e_1, hc, h⟩ := op_b h
  refine kx_callS (rv := none) (Wc := ([] : va_W)) (W2 := ([] : va_W)) (Wn := (gU T aF aR aD aP aH aW tx ps nm v vn hs ww)) (As := [.int x1, .int 1, .int 200]) (rest := []) F G (mX10_checkRange l hst D T x1 1 200 hc) (va_cwS 3 F.2.2.2.2 (kg_c kl684 (kg_c kl685 (kg_c kl80 (kg_c kl682 kg_a)))) rfl rfl rfl (by decide +kernel) ⟨Nat.le_of_ble_eq_true rfl, Nat.le_of_ble_eq_true rfl⟩) (kCut_0 G) rfl hl.1 rfl (Nat.le_of_ble_eq_true rfl) dX10_run_5 ⟨Nat.le_of_ble_eq_true rfl, Nat.le_of_ble_eq_true rfl⟩ (cN := 1) (sN := 6) ⟨rfl, rfl⟩ (fun c ce q9 H locs G hce hcv hcl => ?_) (fun c H locs G => ?_)
  · have h := op_f h c
    obtain ⟨rfl, rfl, rfl, rfl⟩ := op_4 h
    exact kx_out hex hlk G c hce hcv hcl (Nat.le_of_ble_eq_true rfl) (Nat.le_of_ble_eq_true rfl)
  have h := op_t h c
  refine lv_aload_n F.1 F.2.1 dX10_run_8 rfl (lv_at hl 0 rfl) ?_
  refine kg_get F G 0 0 (by decide) rfl (N := 6) (Tt := TX10) rfl kf10 3 (by decide) kl591 (v := .ref (aW 0 0)) rfl dX10_run_9 ?_
  refine kg_get F G 7 0 (by decide) rfl (N := 14) (Tt := TX9) rfl kf9 4 (by decide) kl93 (v := .int ((ww 0) 0 0)) rfl dX10_run_12 ?_
  refine lv_iload_n F.1 F.2.1 dX10_run_15 rfl (lv_at hl 1 rfl) ?_
  refine lv_iadd F.1 F.2.1 dX10_run_16 ?_
  refine lv_sipush (v := 5000) F.1 F.2.1 dX10_run_17 (by decide) ?_
  refine lv_icmp_le (tgt := 34) F.1 F.2.1 dX10_run_20 (by decide) (fun c => ?_) (fun c => ?_)
  · have h := op_t h c
    refine lv_aload_n F.1 F.2.1 dX10_run_34 rfl (lv_at hl 0 rfl) ?_
    refine kg_get F G 0 0 (by decide) rfl (N := 6) (Tt := TX10) rfl kf10 5 (by decide) kl596 (v := .ref (aH 0)) rfl dX10_run_35 ?_
    refine lv_aload_n F.1 F.2.1 dX10_run_38 rfl (lv_at hl 0 rfl) ?_
    refine kg_get F G 0 0 (by decide) rfl (N := 6) (Tt := TX10) rfl kf10 3 (by decide) kl591 (v := .ref (aW 0 0)) rfl dX10_run_39 ?_
    obtain ⟨hs_2, ww_3, hc, h⟩ := op_b2 h
    refine k_callVR (rv := none) (Wc := (gHU T aP aH aW hs ww)) (W2 := (gHU T aP aH aW hs_2 ww_3)) (Wn := (gU T aF aR aD aP aH aW tx ps nm v vn hs_2 ww_3)) (As := [.ref (aW 0 0)]) (rest := []) F G (mX0_keep l D T aP aH aW hs ww hc) (cwV 1 F.2.2.2.2 (kg_c kl728 (kg_c kl729 (kg_c kl730 (kg_c kl595 (kg_c kl113 kg_a))))) rfl rfl rfl (by decide +kernel) ⟨Nat.le_of_ble_eq_true rfl, Nat.le_of_ble_eq_true rfl⟩) (kg_recv G 6 0 (by decide) rfl (q := (RX0, TX0, 5)) rfl) (kCut_H G) rfl hl.1 rfl (Nat.le_of_ble_eq_true rfl) dX10_run_42 ⟨Nat.le_of_ble_eq_true rfl, Nat.le_of_ble_eq_true rfl⟩ (cN := 1) (sN := 6) ⟨rfl, rfl⟩ (fun H locs G => ?_)
    refine lv_aload_n F.1 F.2.1 dX10_run_45 rfl (lv_at hl 0 rfl) ?_
    refine kg_get F G 0 0 (by decide) rfl (N := 6) (Tt := TX10) rfl kf10 3 (by decide) kl591 (v := .ref (aW 0 0)) rfl dX10_run_46 ?_
    refine lv_iload_n F.1 F.2.1 dX10_run_49 rfl (lv_at hl 1 rfl) ?_
    obtain ⟨w_4, hc, h⟩ := op_b h
    obtain ⟨ww_5, e9, h⟩ := op_st h
    refine k_callVR (rv := none) (Wc := (gW T aP (aW 0) v (ww_3 0))) (W2 := (gW T aP (aW 0) v w_4)) (Wn := (gU T aF aR aD aP aH aW tx ps nm v vn hs_2 ww_5)) (As := [.int x1]) (rest := []) F G (mX9_passTicks l D T aP (aW 0) v (ww_3 0) x1 hc) (cwV 1 F.2.2.2.2 (kg_c kl723 (kg_c kl724 (kg_c kl725 (kg_c kl64 (kg_c kl575 kg_a))))) rfl rfl rfl (by decide +kernel) ⟨Nat.le_of_ble_eq_true rfl, Nat.le_of_ble_eq_true rfl⟩) (kg_recv G 7 0 (by decide) rfl (q := (RX9, TX9, 14)) rfl) (by subst e9; exact kCut_g (g' := (gFc T aF aR aD aP aH aW tx ps nm v vn hs_2 (va_up ww_3 0 w_4))) [4, 7] G (by decide) (by decide) (gF_same [4, 7] (Or.inr rfl) (Or.inr ⟨rfl, rfl⟩) (Or.inr ⟨rfl, rfl⟩) (Or.inr rfl) (gW_up 0 _ 7 (by simp))) gF_addr) rfl hl.1 rfl (Nat.le_of_ble_eq_true rfl) dX10_run_50 ⟨Nat.le_of_ble_eq_true rfl, Nat.le_of_ble_eq_true rfl⟩ (cN := 1) (sN := 6) ⟨rfl, rfl⟩ (fun H locs G => ?_)
    clear e9
    refine lv_aload_n F.1 F.2.1 dX10_run_53 rfl (lv_at hl 0 rfl) ?_
    refine kg_get F G 0 0 (by decide) rfl (N := 6) (Tt := TX10) rfl kf10 3 (by decide) kl591 (v := .ref (aW 0 0)) rfl dX10_run_54 ?_
    refine kg_get F G 7 0 (by decide) rfl (N := 14) (Tt := TX9) rfl kf9 1 (by decide) kl101 (v := .ref (aW 0 2)) rfl dX10_run_57 ?_
    refine lv_iconst (v := 3) F.1 F.2.1 dX10_run_60 (by decide) ?_
    obtain ⟨r_6, hc, h⟩ := op_b h
    refine k_callVR (rv := (some (.int r_6))) (Wc := (gW T aP (aW 0) v (ww_5 0))) (W2 := (gW T aP (aW 0) v (ww_5 0))) (Wn := (gU T aF aR aD aP aH aW tx ps nm v vn hs_2 ww_5)) (As := [.int 3]) (rest := []) F G (mX2_inState l D T aP (aW 0) v (ww_5 0) 3 hc) (cwV 1 F.2.2.2.2 (kg_c kl687 (kg_c kl688 (kg_c kl689 (kg_c kl42 (kg_c kl138 kg_a))))) rfl rfl rfl (by decide +kernel) ⟨Nat.le_of_ble_eq_true rfl, Nat.le_of_ble_eq_true rfl⟩) (kg_recv G 7 2 (by decide) rfl (q := (RX2, TX2, 9)) rfl) (kCut_g (g' := (gFc T aF aR aD aP aH aW tx ps nm v vn hs_2 ww_5)) [4, 7] G (by decide) (by decide) (gF_same [4, 7] (Or.inr rfl) (Or.inr ⟨rfl, rfl⟩) (Or.inr ⟨rfl, rfl⟩) (Or.inr rfl) (fun _ => Or.inr rfl)) gF_addr) rfl hl.1 rfl (Nat.le_of_ble_eq_true rfl) dX10_run_61 ⟨Nat.le_of_ble_eq_true rfl, Nat.le_of_ble_eq_true rfl⟩ (cN := 1) (sN := 6) ⟨rfl, rfl⟩ (fun H locs G => ?_)
    obtain ⟨r_7, hc, h⟩ := op_b h
    refine k_callS (rv := (some (.int r_7))) (Wc := ([] : va_W)) (W2 := ([] : va_W)) (Wn := (gU T aF aR aD aP aH aW tx ps nm v vn hs_2 ww_5)) (As := [.int r_6]) (rest := []) F G (mJ6_bitCount_0f7a4 l D T r_6 hc) (va_cwS 1 F.2.2.2.2 (kg_c kl731 (kg_c kl367 (kg_c kl368 (kg_c kl361 kg_a)))) rfl rfl rfl (by decide +kernel) ⟨Nat.le_of_ble_eq_true rfl, Nat.le_of_ble_eq_true rfl⟩) (kCut_0 G) rfl hl.1 rfl (Nat.le_of_ble_eq_true rfl) dX10_run_64 ⟨Nat.le_of_ble_eq_true rfl, Nat.le_of_ble_eq_true rfl⟩ (cN := 1) (sN := 6) ⟨rfl, rfl⟩ (fun H locs G => ?_)
    obtain ⟨rfl, rfl, rfl, rfl⟩ := op_4 h
    refine W.widen (k := 2) (n := 12) (Nat.le_of_ble_eq_true rfl) (Nat.le_of_ble_eq_true rfl) ?_
    exact kx_ret (k_iret F hr hlk G dX10_run_67)
  · have h := op_f h c
    obtain ⟨rfl, rfl, rfl, rfl⟩ := op_4 h
    obtain ⟨sa, hsa⟩ := kx_msg G 9 rfl
    exact vx_throwSW (own := RX10) (cls := "java/lang/IllegalStateException") (text := "time ends before") (names := kNms) (ik := 58) (is := 317) (ic := 62) (mc := rmX10_run.cells) (ms := rmX10_run.slots) F.1 F.2.1 hst F.2.2.2.1 kx_f1 kx_nms (F.2.2.2.2 _ kl608) (F.2.2.2.2 _ kl609) hsa (kx_hat F G kxi0 kx_b1 (by decide +kernel)) kx_g1 G.2.2.2.2.1.2.2.2.2.1 G.2.2.2.2.1.2.2.2.2.2.1 G.2.2.2.1 (hl.1.trans F.2.2.1.symm) dX10_run_23 dX10_run_26 dX10_run_27 dX10_run_30 dX10_run_33 (fun x hx => (hex x hx).elim) (Nat.le_of_ble_eq_true rfl) (Nat.le_of_ble_eq_true rfl) (Nat.le_of_ble_eq_true rfl) (Nat.le_of_ble_eq_true rfl) hlk (kx_after G (by decide)) G.2.2.2.1.2.2 (Nat.le_of_ble_eq_true rfl) (Nat.le_of_ble_eq_true rfl)
abbrev rmX10_blackout : Room := ({ frames := 7, cells := 1, slots := 6, locals := 125 } : Room)
noncomputable def qX10_blackout (tx : Nat → Nat → Int32) (ps : Nat → Nat → Int32) (nm : Nat → Int64) (v : Nat → Nat → Int32) (vn : Nat → Int64) (hs : Nat → Nat → Int32) (ww : Nat → Nat → Nat → Int32) (x1 : Int32) : Option (Nat × Int32 × (Nat → Nat → Int32) × (Nat → Nat → Nat → Int32)) :=
  bd (qX10_checkRange x1 1 50) fun e_1 => if e_1 = 0 then bd2 (qX0_keep hs ww) fun hs_2 ww_3 => bd (qX9_beginBlackout v (ww_3 0) x1) fun w_4 => (bs (va_up ww_3 0 w_4) fun ww_5 => some (0, ((ww_5 0) 1 0), hs_2, ww_5)) else some (e_1, 0, hs, ww)

set_option maxHeartbeats 8000000 in
set_option maxRecDepth 100000 in
theorem mX10_blackout (l : Launch) (hst : l.stackTraces = false) (D : va_G) (T : Nat → ClassId) (aF : Nat → Nat) (aR : Nat → Nat) (aD : Nat → Nat) (aP : Nat → Nat) (aH : Nat → Nat) (aW : Nat → Nat → Nat) (tx : Nat → Nat → Int32) (ps : Nat → Nat → Int32) (nm : Nat → Int64) (v : Nat → Nat → Int32) (vn : Nat → Int64) (hs : Nat → Nat → Int32) (ww : Nat → Nat → Nat → Int32) (x1 : Int32) {eR : Nat} {rR : Int32} {hsR : Nat → Nat → Int32} {wwR : Nat → Nat → Nat → Int32} (hres : qX10_blackout tx ps nm v vn hs ww x1 = some (eR, rR, hsR, wwR)) : Cx l yX10_blackout (Cond.code yX10_blackout cX10_blackout 2 (some .int) :: kAll) rmX10_blackout D T [.ref (aF 0), .int x1] (gU T aF aR aD aP aH aW tx ps nm v vn hs ww) eR (some (.int rR)) (gU T aF aR aD aP aH aW tx ps nm v vn hsR wwR) := by
  refine Cx.of (cc := cX10_blackout) (maxL := 2) (ret := (some .int)) (by decide +kernel) rfl (Nat.le_of_ble_eq_true rfl) ?_
  intro pr en st mi ag bl me co A ls F hr hlk hex G hl
  have hl : lv_has ls 2 [(0, .ref (aF 0)), (1, .int x1)] := hl
  have h := hres
  unfold qX10_blackout at h
  refine lv_iload_n F.1 F.2.1 dX10_blackout_0 rfl (lv_at hl 1 rfl) ?_
  refine lv_iconst (v := 1) F.1 F.2.1 dX10_blackout_1 (by decide) ?_
  refine lv_bipush (v := 50) F.1 F.2.1 dX10_blackout_2 (by decide) ?_
  obtain ⟨e_1, hc, h⟩ := op_b h
  refine kx_callS (rv := none) (Wc := ([] : va_W)) (W2 := ([] : va_W)) (Wn := (gU T aF aR aD aP aH aW tx ps nm v vn hs ww)) (As := [.int x1, .int 1, .int 50]) (rest := []) F G (mX10_checkRange l hst D T x1 1 50 hc) (va_cwS 3 F.2.2.2.2 (kg_c kl684 (kg_c kl685 (kg_c kl80 (kg_c kl682 kg_a)))) rfl rfl rfl (by decide +kernel) ⟨Nat.le_of_ble_eq_true rfl, Nat.le_of_ble_eq_true rfl⟩) (kCut_0 G) rfl hl.1 rfl (Nat.le_of_ble_eq_true rfl) dX10_blackout_4 ⟨Nat.le_of_ble_eq_true rfl, Nat.le_of_ble_eq_true rfl⟩ (cN := 1) (sN := 6) ⟨rfl, rfl⟩ (fun c ce q9 H locs G hce hcv hcl => ?_) (fun c H locs G => ?_)
  · have h := op_f h c
    obtain ⟨rfl, rfl, rfl, rfl⟩ := op_4 h
    exact kx_out hex hlk G c hce hcv hcl (Nat.le_of_ble_eq_true rfl) (Nat.le_of_ble_eq_true rfl)
  have h := op_t h c
  refine lv_aload_n F.1 F.2.1 dX10_blackout_7 rfl (lv_at hl 0 rfl) ?_
  refine kg_get F G 0 0 (by decide) rfl (N := 6) (Tt := TX10) rfl kf10 5 (by decide) kl596 (v := .ref (aH 0)) rfl dX10_blackout_8 ?_
  refine lv_aload_n F.1 F.2.1 dX10_blackout_11 rfl (lv_at hl 0 rfl) ?_
  refine kg_get F G 0 0 (by decide) rfl (N := 6) (Tt := TX10) rfl kf10 3 (by decide) kl591 (v := .ref (aW 0 0)) rfl dX10_blackout_12 ?_
  obtain ⟨hs_2, ww_3, hc, h⟩ := op_b2 h
  refine k_callVR (rv := none) (Wc := (gHU T aP aH aW hs ww)) (W2 := (gHU T aP aH aW hs_2 ww_3)) (Wn := (gU T aF aR aD aP aH aW tx ps nm v vn hs_2 ww_3)) (As := [.ref (aW 0 0)]) (rest := []) F G (mX0_keep l D T aP aH aW hs ww hc) (cwV 1 F.2.2.2.2 (kg_c kl728 (kg_c kl729 (kg_c kl730 (kg_c kl595 (kg_c kl113 kg_a))))) rfl rfl rfl (by decide +kernel) ⟨Nat.le_of_ble_eq_true rfl, Nat.le_of_ble_eq_true rfl⟩) (kg_recv G 6 0 (by decide) rfl (q := (RX0, TX0, 5)) rfl) (kCut_H G) rfl hl.1 rfl (Nat.le_of_ble_eq_true rfl) dX10_blackout_15 ⟨Nat.le_of_ble_eq_true rfl, Nat.le_of_ble_eq_true rfl⟩ (cN := 1) (sN := 6) ⟨rfl, rfl⟩ (fun H locs G => ?_)
  refine lv_aload_n F.1 F.2.1 dX10_blackout_18 rfl (lv_at hl 0 rfl) ?_
  refine kg_get F G 0 0 (by decide) rfl (N := 6) (Tt := TX10) rfl kf10 3 (by decide) kl591 (v := .ref (aW 0 0)) rfl dX10_blackout_19 ?_
  refine lv_iload_n F.1 F.2.1 dX10_blackout_22 rfl (lv_at hl 1 rfl) ?_
  obtain ⟨w_4, hc, h⟩ := op_b h
  obtain ⟨ww_5, e9, h⟩ := op_st h
  refine k_callVR (rv := none) (Wc := (gW T aP (aW 0) v (ww_3 0))) (W2 := (gW T aP (aW 0) v w_4)) (Wn := (gU T aF aR aD aP aH aW tx ps nm v vn hs_2 ww_5)) (As := [.int x1]) (rest := []) F G (mX9_beginBlackout l D T aP (aW 0) v (ww_3 0) x1 hc) (cwV 1 F.2.2.2.2 (kg_c kl733 (kg_c kl545 (kg_c kl546 (kg_c kl64 (kg_c kl460 kg_a))))) rfl rfl rfl (by decide +kernel) ⟨Nat.le_of_ble_eq_true rfl, Nat.le_of_ble_eq_true rfl⟩) (kg_recv G 7 0 (by decide) rfl (q := (RX9, TX9, 14)) rfl) (by subst e9; exact kCut_g (g' := (gFc T aF aR aD aP aH aW tx ps nm v vn hs_2 (va_up ww_3 0 w_4))) [4, 7] G (by decide) (by decide) (gF_same [4, 7] (Or.inr rfl) (Or.inr ⟨rfl, rfl⟩) (Or.inr ⟨rfl, rfl⟩) (Or.inr rfl) (gW_up 0 _ 7 (by simp))) gF_addr) rfl hl.1 rfl (Nat.le_of_ble_eq_true rfl) dX10_blackout_23 ⟨Nat.le_of_ble_eq_true rfl, Nat.le_of_ble_eq_true rfl⟩ (cN := 1) (sN := 6) ⟨rfl, rfl⟩ (fun H locs G => ?_)
  clear e9
  refine lv_aload_n F.1 F.2.1 dX10_blackout_26 rfl (lv_at hl 0 rfl) ?_
  refine kg_get F G 0 0 (by decide) rfl (N := 6) (Tt := TX10) rfl kf10 3 (by decide) kl591 (v := .ref (aW 0 0)) rfl dX10_blackout_27 ?_
  refine kg_get F G 7 0 (by decide) rfl (N := 14) (Tt := TX9) rfl kf9 5 (by decide) kl94 (v := .int ((ww_5 0) 1 0)) rfl dX10_blackout_30 ?_
  obtain ⟨rfl, rfl, rfl, rfl⟩ := op_4 h
  exact kx_ret (k_iret F hr hlk G dX10_blackout_33)
abbrev rmX10_want : Room := ({ frames := 7, cells := 1, slots := 6, locals := 125 } : Room)
noncomputable def qX10_want (tx : Nat → Nat → Int32) (ps : Nat → Nat → Int32) (nm : Nat → Int64) (v : Nat → Nat → Int32) (vn : Nat → Int64) (hs : Nat → Nat → Int32) (ww : Nat → Nat → Nat → Int32) (x1 : Int32) (x2 : Int32) : Option (Nat × Int32 × (Nat → Nat → Int32) × (Nat → Nat → Nat → Int32)) :=
  bd (qX10_checkOutlet tx ps nm v vn hs ww x1) fun e_1 => if e_1 = 0 then bd2 (qX0_keep hs ww) fun hs_2 ww_3 => bd (qX2_doesWant v (ww_3 0) x1) fun r_4 => (jn (fun (_ : Unit) => if x2 = 0 then if r_4 = 0 then gd (narrow .boolean (.int r_4) = .int r_4) (some (0, r_4, hs_2, ww_3)) else bd (qX2_becomeIdle v (ww_3 0) x1) fun w_5 => (bs (va_up ww_3 0 w_5) fun ww_6 => gd (narrow .boolean (.int r_4) = .int r_4) (some (0, r_4, hs_2, ww_6))) else gd (narrow .boolean (.int r_4) = .int r_4) (some (0, r_4, hs_2, ww_3))) fun j50 => if x2 = 0 then (j50 ()) else if r_4 = 0 then bd (qX2_beginToWait v (ww_3 0) x1) fun w_7 => (bs (va_up ww_3 0 w_7) fun ww_8 => gd (narrow .boolean (.int r_4) = .int r_4) (some (0, r_4, hs_2, ww_8))) else (j50 ())) else some (e_1, 0, hs, ww)

set_option maxHeartbeats 8000000 in
set_option maxRecDepth 100000 in
theorem mX10_want (l : Launch) (hst : l.stackTraces = false) (D : va_G) (T : Nat → ClassId) (aF : Nat → Nat) (aR : Nat → Nat) (aD : Nat → Nat) (aP : Nat → Nat) (aH : Nat → Nat) (aW : Nat → Nat → Nat) (tx : Nat → Nat → Int32) (ps : Nat → Nat → Int32) (nm : Nat → Int64) (v : Nat → Nat → Int32) (vn : Nat → Int64) (hs : Nat → Nat → Int32) (ww : Nat → Nat → Nat → Int32) (x1 : Int32) (x2 : Int32) {eR : Nat} {rR : Int32} {hsR : Nat → Nat → Int32} {wwR : Nat → Nat → Nat → Int32} (hres : qX10_want tx ps nm v vn hs ww x1 x2 = some (eR, rR, hsR, wwR)) : Cx l yX10_want (Cond.code yX10_want cX10_want 4 (some .boolean) :: kAll) rmX10_want D T [.ref (aF 0), .int x1, .int x2] (gU T aF aR aD aP aH aW tx ps nm v vn hs ww) eR (some (.int rR)) (gU T aF aR aD aP aH aW tx ps nm v vn hsR wwR) := by
  refine Cx.of (cc := cX10_want) (maxL := 4) (ret := (some .boolean)) (by decide +kernel) rfl (Nat.le_of_ble_eq_true rfl) ?_
  intro pr en st mi ag bl me co A ls F hr hlk hex G hl
  have hl : lv_has ls 4 [(0, .ref (aF 0)), (1, .int x1), (2, .int x2)] := hl
  have h := hres
  unfold qX10_want at h
  refine lv_aload_n F.1 F.2.1 dX10_want_0 rfl (lv_at hl 0 rfl) ?_
  refine lv_iload_n F.1 F.2.1 dX10_want_1 rfl (lv_at hl 1 rfl) ?_
  obtain ⟨e_1, hc, h⟩ := op_b h
  refine kx_callV (rv := none) (Wc := (gU T aF aR aD aP aH aW tx ps nm v vn hs ww)) (W2 := (gU T aF aR aD aP aH aW tx ps nm v vn hs ww)) (Wn := (gU T aF aR aD aP aH aW tx ps nm v vn hs ww)) (As := [.int x1]) (rest := []) F G (mX10_checkOutlet l hst D T aF aR aD aP aH aW tx ps nm v vn hs ww x1 hc) (cwV 1 F.2.2.2.2 (kg_c kl664 (kg_c kl665 (kg_c kl666 (kg_c kl80 (kg_c kl653 kg_a))))) rfl rfl rfl (by decide +kernel) ⟨Nat.le_of_ble_eq_true rfl, Nat.le_of_ble_eq_true rfl⟩) (kg_recv G 0 0 (by decide) rfl (q := (RX10, TX10, 6)) rfl) (kCut_F G) rfl hl.1 rfl (Nat.le_of_ble_eq_true rfl) dX10_want_2 ⟨Nat.le_of_ble_eq_true rfl, Nat.le_of_ble_eq_true rfl⟩ (cN := 1) (sN := 6) ⟨rfl, rfl⟩ (fun c ce q9 H locs G hce hcv hcl => ?_) (fun c H locs G => ?_)
  · have h := op_f h c
    obtain ⟨rfl, rfl, rfl, rfl⟩ := op_4 h
    exact kx_out hex hlk G c hce hcv hcl (Nat.le_of_ble_eq_true rfl) (Nat.le_of_ble_eq_true rfl)
  have h := op_t h c
  refine lv_aload_n F.1 F.2.1 dX10_want_5 rfl (lv_at hl 0 rfl) ?_
  refine kg_get F G 0 0 (by decide) rfl (N := 6) (Tt := TX10) rfl kf10 5 (by decide) kl596 (v := .ref (aH 0)) rfl dX10_want_6 ?_
  refine lv_aload_n F.1 F.2.1 dX10_want_9 rfl (lv_at hl 0 rfl) ?_
  refine kg_get F G 0 0 (by decide) rfl (N := 6) (Tt := TX10) rfl kf10 3 (by decide) kl591 (v := .ref (aW 0 0)) rfl dX10_want_10 ?_
  obtain ⟨hs_2, ww_3, hc, h⟩ := op_b2 h
  refine k_callVR (rv := none) (Wc := (gHU T aP aH aW hs ww)) (W2 := (gHU T aP aH aW hs_2 ww_3)) (Wn := (gU T aF aR aD aP aH aW tx ps nm v vn hs_2 ww_3)) (As := [.ref (aW 0 0)]) (rest := []) F G (mX0_keep l D T aP aH aW hs ww hc) (cwV 1 F.2.2.2.2 (kg_c kl728 (kg_c kl729 (kg_c kl730 (kg_c kl595 (kg_c kl113 kg_a))))) rfl rfl rfl (by decide +kernel) ⟨Nat.le_of_ble_eq_true rfl, Nat.le_of_ble_eq_true rfl⟩) (kg_recv G 6 0 (by decide) rfl (q := (RX0, TX0, 5)) rfl) (kCut_H G) rfl hl.1 rfl (Nat.le_of_ble_eq_true rfl) dX10_want_13 ⟨Nat.le_of_ble_eq_true rfl, Nat.le_of_ble_eq_true rfl⟩ (cN := 1) (sN := 6) ⟨rfl, rfl⟩ (fun H locs G => ?_)
  refine lv_aload_n F.1 F.2.1 dX10_want_16 rfl (lv_at hl 0 rfl) ?_
  refine kg_get F G 0 0 (by decide) rfl (N := 6) (Tt := TX10) rfl kf10 3 (by decide) kl591 (v := .ref (aW 0 0)) rfl dX10_want_17 ?_
  refine kg_get F G 7 0 (by decide) rfl (N := 14) (Tt := TX9) rfl kf9 1 (by decide) kl101 (v := .ref (aW 0 2)) rfl dX10_want_20 ?_
  refine lv_iload_n F.1 F.2.1 dX10_want_23 rfl (lv_at hl 1 rfl) ?_
  obtain ⟨r_4, hc, h⟩ := op_b h
  refine k_callVR (rv := (some (.int r_4))) (Wc := (gW T aP (aW 0) v (ww_3 0))) (W2 := (gW T aP (aW 0) v (ww_3 0))) (Wn := (gU T aF aR aD aP aH aW tx ps nm v vn hs_2 ww_3)) (As := [.int x1]) (rest := []) F G (mX2_doesWant l D T aP (aW 0) v (ww_3 0) x1 hc) (cwV 1 F.2.2.2.2 (kg_c kl667 (kg_c kl146 (kg_c kl147 (kg_c kl42 (kg_c kl137 kg_a))))) rfl rfl rfl (by decide +kernel) ⟨Nat.le_of_ble_eq_true rfl, Nat.le_of_ble_eq_true rfl⟩) (kg_recv G 7 2 (by decide) rfl (q := (RX2, TX2, 9)) rfl) (kCut_g (g' := (gFc T aF aR aD aP aH aW tx ps nm v vn hs_2 ww_3)) [4, 7] G (by decide) (by decide) (gF_same [4, 7] (Or.inr rfl) (Or.inr ⟨rfl, rfl⟩) (Or.inr ⟨rfl, rfl⟩) (Or.inr rfl) (fun _ => Or.inr rfl)) gF_addr) rfl hl.1 rfl (Nat.le_of_ble_eq_true rfl) dX10_want_24 ⟨Nat.le_of_ble_eq_true rfl, Nat.le_of_ble_eq_true rfl⟩ (cN := 1) (sN := 6) ⟨rfl, rfl⟩ (fun H locs G => ?_)
  refine lv_istore_n (lv' := [(3, .int r_4), (0, .ref (aF 0)), (1, .int x1), (2, .int x2)]) F.1 F.2.1 dX10_want_27 rfl hl (by decide) rfl (fun ls hl => ?_)
  refine lv_iload_n F.1 F.2.1 dX10_want_28 rfl (lv_at hl 3 rfl) ?_
  obtain ⟨j50, hj50, h⟩ := op_j h
  have J50 : ∀ (H : Heap) (locs : List Loc) (ls : Array Slot), j50 () = some (eR, rR, hsR, wwR) → Rg D T A st (gU T aF aR aD aP aH aW tx ps nm v vn hs_2 ww_3) H locs → lv_has ls 4 [(0, .ref (aF 0)), (1, .int x1), (2, .int x2), (3, .int r_4)] → W pr l en rmX10_want st mi ag bl me co H locs 1 6 (vx_MQ bl (kQx eR (some (.int rR)) D (gU T aF aR aD aP aH aW tx ps nm v vn hsR wwR) A) (kXx eR D (gU T aF aR aD aP aH aW tx ps nm v vn hsR wwR) A) ag st rmX10_want.cells rmX10_want.slots A) (F0 mi 50 ls []) := by
    intro H locs ls h G hl
    rw [hj50] at h
    refine lv_iload_n F.1 F.2.1 dX10_want_50 rfl (lv_at hl 2 rfl) ?_
    refine lv_if_ne (tgt := 69) F.1 F.2.1 dX10_want_51 (by decide) (fun c => ?_) (fun c => ?_)
    · have h := op_f h c
      refine lv_iload_n F.1 F.2.1 dX10_want_69 rfl (lv_at hl 3 rfl) ?_
      obtain ⟨c, h⟩ := op_g h
      obtain ⟨rfl, rfl, rfl, rfl⟩ := op_4 h
      exact kx_ret (k_zret F hr c hlk G dX10_want_70)
    · have h := op_t h c
      refine lv_iload_n F.1 F.2.1 dX10_want_54 rfl (lv_at hl 3 rfl) ?_
      refine lv_if_eq (tgt := 69) F.1 F.2.1 dX10_want_55 (by decide) (fun c => ?_) (fun c => ?_)
      · have h := op_t h c
        refine lv_iload_n F.1 F.2.1 dX10_want_69 rfl (lv_at hl 3 rfl) ?_
        obtain ⟨c, h⟩ := op_g h
        obtain ⟨rfl, rfl, rfl, rfl⟩ := op_4 h
        exact kx_ret (k_zret F hr c hlk G dX10_want_70)
      · have h := op_f h c
        refine lv_aload_n F.1 F.2.1 dX10_want_58 rfl (lv_at hl 0 rfl) ?_
        refine kg_get F G 0 0 (by decide) rfl (N := 6) (Tt := TX10) rfl kf10 3 (by decide) kl591 (v := .ref (aW 0 0)) rfl dX10_want_59 ?_
        refine kg_get F G 7 0 (by decide) rfl (N := 14) (Tt := TX9) rfl kf9 1 (by decide) kl101 (v := .ref (aW 0 2)) rfl dX10_want_62 ?_
        refine lv_iload_n F.1 F.2.1 dX10_want_65 rfl (lv_at hl 1 rfl) ?_
        obtain ⟨w_5, hc, h⟩ := op_b h
        obtain ⟨ww_6, e9, h⟩ := op_st h
        refine k_callVR (rv := none) (Wc := (gW T aP (aW 0) v (ww_3 0))) (W2 := (gW T aP (aW 0) v w_5)) (Wn := (gU T aF aR aD aP aH aW tx ps nm v vn hs_2 ww_6)) (As := [.int x1]) (rest := []) F G (mX2_becomeIdle l D T aP (aW 0) v (ww_3 0) x1 hc) (cwV 1 F.2.2.2.2 (kg_c kl736 (kg_c kl737 (kg_c kl738 (kg_c kl42 (kg_c kl143 kg_a))))) rfl rfl rfl (by decide +kernel) ⟨Nat.le_of_ble_eq_true rfl, Nat.le_of_ble_eq_true rfl⟩) (kg_recv G 7 2 (by decide) rfl (q := (RX2, TX2, 9)) rfl) (by subst e9; exact kCut_g (g' := (gFc T aF aR aD aP aH aW tx ps nm v vn hs_2 (va_up ww_3 0 w_5))) [4, 7] G (by decide) (by decide) (gF_same [4, 7] (Or.inr rfl) (Or.inr ⟨rfl, rfl⟩) (Or.inr ⟨rfl, rfl⟩) (Or.inr rfl) (gW_up 0 _ 7 (by simp))) gF_addr) rfl hl.1 rfl (Nat.le_of_ble_eq_true rfl) dX10_want_66 ⟨Nat.le_of_ble_eq_true rfl, Nat.le_of_ble_eq_true rfl⟩ (cN := 1) (sN := 6) ⟨rfl, rfl⟩ (fun H locs G => ?_)
        clear e9
        refine lv_iload_n F.1 F.2.1 dX10_want_69 rfl (lv_at hl 3 rfl) ?_
        obtain ⟨c, h⟩ := op_g h
        obtain ⟨rfl, rfl, rfl, rfl⟩ := op_4 h
        exact kx_ret (k_zret F hr c hlk G dX10_want_70)
  clear hj50
  refine lv_if_eq (tgt := 50) F.1 F.2.1 dX10_want_29 (by decide) (fun c => ?_) (fun c => ?_)
  · have h := op_t h c
    exact J50 _ _ _ h G (lv_sub hl [1, 2, 3, 0] rfl)
  · have h := op_f h c
    refine lv_iload_n F.1 F.2.1 dX10_want_32 rfl (lv_at hl 0 rfl) ?_
    refine lv_if_ne (tgt := 50) F.1 F.2.1 dX10_want_33 (by decide) (fun c => ?_) (fun c => ?_)
    · have h := op_f h c
      exact J50 _ _ _ h G (lv_sub hl [1, 2, 3, 0] rfl)
    · have h := op_t h c
      refine lv_aload_n F.1 F.2.1 dX10_want_36 rfl (lv_at hl 1 rfl) ?_
      refine kg_get F G 0 0 (by decide) rfl (N := 6) (Tt := TX10) rfl kf10 3 (by decide) kl591 (v := .ref (aW 0 0)) rfl dX10_want_37 ?_
      refine kg_get F G 7 0 (by decide) rfl (N := 14) (Tt := TX9) rfl kf9 1 (by decide) kl101 (v := .ref (aW 0 2)) rfl dX10_want_40 ?_
      refine lv_iload_n F.1 F.2.1 dX10_want_43 rfl (lv_at hl 2 rfl) ?_
      obtain ⟨w_7, hc, h⟩ := op_b h
      obtain ⟨ww_8, e9, h⟩ := op_st h
      refine k_callVR (rv := none) (Wc := (gW T aP (aW 0) v (ww_3 0))) (W2 := (gW T aP (aW 0) v w_7)) (Wn := (gU T aF aR aD aP aH aW tx ps nm v vn hs_2 ww_8)) (As := [.int x1]) (rest := []) F G (mX2_beginToWait l D T aP (aW 0) v (ww_3 0) x1 hc) (cwV 1 F.2.2.2.2 (kg_c kl735 (kg_c kl149 (kg_c kl150 (kg_c kl42 (kg_c kl142 kg_a))))) rfl rfl rfl (by decide +kernel) ⟨Nat.le_of_ble_eq_true rfl, Nat.le_of_ble_eq_true rfl⟩) (kg_recv G 7 2 (by decide) rfl (q := (RX2, TX2, 9)) rfl) (by subst e9; exact kCut_g (g' := (gFc T aF aR aD aP aH aW tx ps nm v vn hs_2 (va_up ww_3 0 w_7))) [4, 7] G (by decide) (by decide) (gF_same [4, 7] (Or.inr rfl) (Or.inr ⟨rfl, rfl⟩) (Or.inr ⟨rfl, rfl⟩) (Or.inr rfl) (gW_up 0 _ 7 (by simp))) gF_addr) rfl hl.1 rfl (Nat.le_of_ble_eq_true rfl) dX10_want_44 ⟨Nat.le_of_ble_eq_true rfl, Nat.le_of_ble_eq_true rfl⟩ (cN := 1) (sN := 6) ⟨rfl, rfl⟩ (fun H locs G => ?_)
      clear e9
      refine lv_goto (tgt := 69) F.1 F.2.1 dX10_want_47 (by decide) ?_
      refine lv_iload_n F.1 F.2.1 dX10_want_69 rfl (lv_at hl 0 rfl) ?_
      obtain ⟨c, h⟩ := op_g h
      obtain ⟨rfl, rfl, rfl, rfl⟩ := op_4 h
      exact kx_ret (k_zret F hr c hlk G dX10_want_70)
abbrev rmX10_setFuse : Room := ({ frames := 7, cells := 1, slots := 6, locals := 125 } : Room)
noncomputable def qX10_setFuse (tx : Nat → Nat → Int32) (ps : Nat → Nat → Int32) (nm : Nat → Int64) (v : Nat → Nat → Int32) (vn : Nat → Int64) (hs : Nat → Nat → Int32) (ww : Nat → Nat → Nat → Int32) (x1 : Int32) : Option (Nat × Int32 × (Nat → Nat → Int32) × (Nat → Nat → Nat → Int32)) :=
  bd (qX10_checkRange x1 1 9999) fun e_1 => if e_1 = 0 then bd2 (qX0_keep hs ww) fun hs_2 ww_3 => (bs (va_up ww_3 0 (va_up (ww_3 0) 2 (fun _ => x1))) fun ww_4 => some (0, ((ww_3 0) 2 0), hs_2, ww_4)) else some (e_1, 0, hs, ww)

set_option maxHeartbeats 8000000 in
set_option maxRecDepth 100000 in
theorem mX10_setFuse (l : Launch) (hst : l.stackTraces = false) (D : va_G) (T : Nat → ClassId) (aF : Nat → Nat) (aR : Nat → Nat) (aD : Nat → Nat) (aP : Nat → Nat) (aH : Nat → Nat) (aW : Nat → Nat → Nat) (tx : Nat → Nat → Int32) (ps : Nat → Nat → Int32) (nm : Nat → Int64) (v : Nat → Nat → Int32) (vn : Nat → Int64) (hs : Nat → Nat → Int32) (ww : Nat → Nat → Nat → Int32) (x1 : Int32) {eR : Nat} {rR : Int32} {hsR : Nat → Nat → Int32} {wwR : Nat → Nat → Nat → Int32} (hres : qX10_setFuse tx ps nm v vn hs ww x1 = some (eR, rR, hsR, wwR)) : Cx l yX10_setFuse (Cond.code yX10_setFuse cX10_setFuse 3 (some .int) :: kAll) rmX10_setFuse D T [.ref (aF 0), .int x1] (gU T aF aR aD aP aH aW tx ps nm v vn hs ww) eR (some (.int rR)) (gU T aF aR aD aP aH aW tx ps nm v vn hsR wwR) := by
  refine Cx.of (cc := cX10_setFuse) (maxL := 3) (ret := (some .int)) (by decide +kernel) rfl (Nat.le_of_ble_eq_true rfl) ?_
  intro pr en st mi ag bl me co A ls F hr hlk hex G hl
  have hl : lv_has ls 3 [(0, .ref (aF 0)), (1, .int x1)] := hl
  have h := hres
  unfold qX10_setFuse at h
  refine lv_iload_n F.1 F.2.1 dX10_setFuse_0 rfl (lv_at hl 1 rfl) ?_
  refine lv_iconst (v := 1) F.1 F.2.1 dX10_setFuse_1 (by decide) ?_
  refine lv_sipush (v := 9999) F.1 F.2.1 dX10_setFuse_2 (by decide) ?_
  obtain ⟨e_1, hc, h⟩ := op_b h
  refine kx_callS (rv := none) (Wc := ([] : va_W)) (W2 := ([] : va_W)) (Wn := (gU T aF aR aD aP aH aW tx ps nm v vn hs ww)) (As := [.int x1, .int 1, .int 9999]) (rest := []) F G (mX10_checkRange l hst D T x1 1 9999 hc) (va_cwS 3 F.2.2.2.2 (kg_c kl684 (kg_c kl685 (kg_c kl80 (kg_c kl682 kg_a)))) rfl rfl rfl (by decide +kernel) ⟨Nat.le_of_ble_eq_true rfl, Nat.le_of_ble_eq_true rfl⟩) (kCut_0 G) rfl hl.1 rfl (Nat.le_of_ble_eq_true rfl) dX10_setFuse_5 ⟨Nat.le_of_ble_eq_true rfl, Nat.le_of_ble_eq_true rfl⟩ (cN := 1) (sN := 6) ⟨rfl, rfl⟩ (fun c ce q9 H locs G hce hcv hcl => ?_) (fun c H locs G => ?_)
  · have h := op_f h c
    obtain ⟨rfl, rfl, rfl, rfl⟩ := op_4 h
    exact kx_out hex hlk G c hce hcv hcl (Nat.le_of_ble_eq_true rfl) (Nat.le_of_ble_eq_true rfl)
  have h := op_t h c
  refine lv_aload_n F.1 F.2.1 dX10_setFuse_8 rfl (lv_at hl 0 rfl) ?_
  refine kg_get F G 0 0 (by decide) rfl (N := 6) (Tt := TX10) rfl kf10 5 (by decide) kl596 (v := .ref (aH 0)) rfl dX10_setFuse_9 ?_
  refine lv_aload_n F.1 F.2.1 dX10_setFuse_12 rfl (lv_at hl 0 rfl) ?_
  refine kg_get F G 0 0 (by decide) rfl (N := 6) (Tt := TX10) rfl kf10 3 (by decide) kl591 (v := .ref (aW 0 0)) rfl dX10_setFuse_13 ?_
  obtain ⟨hs_2, ww_3, hc, h⟩ := op_b2 h
  refine k_callVR (rv := none) (Wc := (gHU T aP aH aW hs ww)) (W2 := (gHU T aP aH aW hs_2 ww_3)) (Wn := (gU T aF aR aD aP aH aW tx ps nm v vn hs_2 ww_3)) (As := [.ref (aW 0 0)]) (rest := []) F G (mX0_keep l D T aP aH aW hs ww hc) (cwV 1 F.2.2.2.2 (kg_c kl728 (kg_c kl729 (kg_c kl730 (kg_c kl595 (kg_c kl113 kg_a))))) rfl rfl rfl (by decide +kernel) ⟨Nat.le_of_ble_eq_true rfl, Nat.le_of_ble_eq_true rfl⟩) (kg_recv G 6 0 (by decide) rfl (q := (RX0, TX0, 5)) rfl) (kCut_H G) rfl hl.1 rfl (Nat.le_of_ble_eq_true rfl) dX10_setFuse_16 ⟨Nat.le_of_ble_eq_true rfl, Nat.le_of_ble_eq_true rfl⟩ (cN := 1) (sN := 6) ⟨rfl, rfl⟩ (fun H locs G => ?_)
  refine lv_aload_n F.1 F.2.1 dX10_setFuse_19 rfl (lv_at hl 0 rfl) ?_
  refine kg_get F G 0 0 (by decide) rfl (N := 6) (Tt := TX10) rfl kf10 3 (by decide) kl591 (v := .ref (aW 0 0)) rfl dX10_setFuse_20 ?_
  refine kg_get F G 7 0 (by decide) rfl (N := 14) (Tt := TX9) rfl kf9 6 (by decide) kl95 (v := .int ((ww_3 0) 2 0)) rfl dX10_setFuse_23 ?_
  refine lv_istore_n (lv' := [(2, .int ((ww_3 0) 2 0)), (0, .ref (aF 0)), (1, .int x1)]) F.1 F.2.1 dX10_setFuse_26 rfl hl (by decide) rfl (fun ls hl => ?_)
  refine lv_aload_n F.1 F.2.1 dX10_setFuse_27 rfl (lv_at hl 1 rfl) ?_
  refine kg_get F G 0 0 (by decide) rfl (N := 6) (Tt := TX10) rfl kf10 3 (by decide) kl591 (v := .ref (aW 0 0)) rfl dX10_setFuse_28 ?_
  refine lv_iload_n F.1 F.2.1 dX10_setFuse_31 rfl (lv_at hl 2 rfl) ?_
  obtain ⟨ww_4, e9, h⟩ := op_st h
  refine kg_put (g' := (gFc T aF aR aD aP aH aW tx ps nm v vn hs_2 ww_4)) F G 7 0 (by decide) rfl (N := 14) (Tt := TX9) rfl kf9 tyX9_ok nmX9 6 (by decide) kl95 rfl (v := .int x1) rfl rfl (Nat.le_of_ble_eq_true rfl) dX10_setFuse_32 (by subst e9; rfl) (by subst e9; exact fun k hk h9 => (gF_same [7] (Or.inr rfl) (Or.inr ⟨rfl, rfl⟩) (Or.inr ⟨rfl, rfl⟩) (Or.inr rfl) (gW_up 0 _ 7 (by simp))) k hk (not_cons h9)) (fun H locs G => ?_)
  clear e9
  refine lv_iload_n F.1 F.2.1 dX10_setFuse_35 rfl (lv_at hl 0 rfl) ?_
  obtain ⟨rfl, rfl, rfl, rfl⟩ := op_4 h
  exact kx_ret (k_iret F hr hlk G dX10_setFuse_36)
abbrev rmX10_setPriority : Room := ({ frames := 7, cells := 2, slots := 12, locals := 125 } : Room)
noncomputable def qX10_setPriority (tx : Nat → Nat → Int32) (ps : Nat → Nat → Int32) (nm : Nat → Int64) (v : Nat → Nat → Int32) (vn : Nat → Int64) (hs : Nat → Nat → Int32) (ww : Nat → Nat → Nat → Int32) (x1 : Int32) (x2 : Int32) : Option (Nat × Int32 × (Nat → Nat → Int32) × (Nat → Nat → Nat → Int32)) :=
  bd (qX10_checkOutlet tx ps nm v vn hs ww x1) fun e_1 => if e_1 = 0 then bd (qX10_checkRange x2 0 9) fun e_2 => if e_2 = 0 then bd2 (qX0_keep hs ww) fun hs_3 ww_4 => gd (vp_in x1 12) (gd (vp_in x1 12) (bs (va_up ww_4 0 (va_up (ww_4 0) 10 (upd ((ww_4 0) 10) x1.toNatClampNeg x2))) fun ww_5 => some (0, (((ww_4 0) 10) x1.toNatClampNeg), hs_3, ww_5))) else some (e_2, 0, hs, ww) else some (e_1, 0, hs, ww)

set_option maxHeartbeats 8000000 in
set_option maxRecDepth 100000 in
theorem mX10_setPriority (l : Launch) (hst : l.stackTraces = false) (D : va_G) (T : Nat → ClassId) (aF : Nat → Nat) (aR : Nat → Nat) (aD : Nat → Nat) (aP : Nat → Nat) (aH : Nat → Nat) (aW : Nat → Nat → Nat) (tx : Nat → Nat → Int32) (ps : Nat → Nat → Int32) (nm : Nat → Int64) (v : Nat → Nat → Int32) (vn : Nat → Int64) (hs : Nat → Nat → Int32) (ww : Nat → Nat → Nat → Int32) (x1 : Int32) (x2 : Int32) {eR : Nat} {rR : Int32} {hsR : Nat → Nat → Int32} {wwR : Nat → Nat → Nat → Int32} (hres : qX10_setPriority tx ps nm v vn hs ww x1 x2 = some (eR, rR, hsR, wwR)) : Cx l yX10_setPriority (Cond.code yX10_setPriority cX10_setPriority 4 (some .int) :: kAll) rmX10_setPriority D T [.ref (aF 0), .int x1, .int x2] (gU T aF aR aD aP aH aW tx ps nm v vn hs ww) eR (some (.int rR)) (gU T aF aR aD aP aH aW tx ps nm v vn hsR wwR) := by
  refine Cx.of (cc := cX10_setPriority) (maxL := 4) (ret := (some .int)) (by decide +kernel) rfl (Nat.le_of_ble_eq_true rfl) ?_
  intro pr en st mi ag bl me co A ls F hr hlk hex G hl
  have hl : lv_has ls 4 [(0, .ref (aF 0)), (1, .int x1), (2, .int x2)] := hl
  have h := hres
  unfold qX10_setPriority at h
  refine lv_aload_n F.1 F.2.1 dX10_setPriority_0 rfl (lv_at hl 0 rfl) ?_
  refine lv_iload_n F.1 F.2.1 dX10_setPriority_1 rfl (lv_at hl 1 rfl) ?_
  obtain ⟨e_1, hc, h⟩ := op_b h
  refine kx_callV (rv := none) (Wc := (gU T aF aR aD aP aH aW tx ps nm v vn hs ww)) (W2 := (gU T aF aR aD aP aH aW tx ps nm v vn hs ww)) (Wn := (gU T aF aR aD aP aH aW tx ps nm v vn hs ww)) (As := [.int x1]) (rest := []) F G (mX10_checkOutlet l hst D T aF aR aD aP aH aW tx ps nm v vn hs ww x1 hc) (cwV 1 F.2.2.2.2 (kg_c kl664 (kg_c kl665 (kg_c kl666 (kg_c kl80 (kg_c kl653 kg_a))))) rfl rfl rfl (by decide +kernel) ⟨Nat.le_of_ble_eq_true rfl, Nat.le_of_ble_eq_true rfl⟩) (kg_recv G 0 0 (by decide) rfl (q := (RX10, TX10, 6)) rfl) (kCut_F G) rfl hl.1 rfl (Nat.le_of_ble_eq_true rfl) dX10_setPriority_2 ⟨Nat.le_of_ble_eq_true rfl, Nat.le_of_ble_eq_true rfl⟩ (cN := 1) (sN := 6) ⟨rfl, rfl⟩ (fun c ce q9 H locs G hce hcv hcl => ?_) (fun c H locs G => ?_)
  · have h := op_f h c
    obtain ⟨rfl, rfl, rfl, rfl⟩ := op_4 h
    exact kx_out hex hlk G c hce hcv hcl (Nat.le_of_ble_eq_true rfl) (Nat.le_of_ble_eq_true rfl)
  have h := op_t h c
  refine lv_iload_n F.1 F.2.1 dX10_setPriority_5 rfl (lv_at hl 2 rfl) ?_
  refine lv_iconst (v := 0) F.1 F.2.1 dX10_setPriority_6 (by decide) ?_
  refine lv_bipush (v := 9) F.1 F.2.1 dX10_setPriority_7 (by decide) ?_
  obtain ⟨e_2, hc, h⟩ := op_b h
  refine kx_callS (rv := none) (Wc := ([] : va_W)) (W2 := ([] : va_W)) (Wn := (gU T aF aR aD aP aH aW tx ps nm v vn hs ww)) (As := [.int x2, .int 0, .int 9]) (rest := []) F G (mX10_checkRange l hst D T x2 0 9 hc) (va_cwS 3 F.2.2.2.2 (kg_c kl684 (kg_c kl685 (kg_c kl80 (kg_c kl682 kg_a)))) rfl rfl rfl (by decide +kernel) ⟨Nat.le_of_ble_eq_true rfl, Nat.le_of_ble_eq_true rfl⟩) (kCut_0 G) rfl hl.1 rfl (Nat.le_of_ble_eq_true rfl) dX10_setPriority_9 ⟨Nat.le_of_ble_eq_true rfl, Nat.le_of_ble_eq_true rfl⟩ (cN := 2) (sN := 12) ⟨rfl, rfl⟩ (fun c ce q9 H locs G hce hcv hcl => ?_) (fun c H locs G => ?_)
  · have h := op_f h c
    obtain ⟨rfl, rfl, rfl, rfl⟩ := op_4 h
    exact kx_out hex hlk G c hce hcv hcl (Nat.le_of_ble_eq_true rfl) (Nat.le_of_ble_eq_true rfl)
  have h := op_t h c
  refine lv_aload_n F.1 F.2.1 dX10_setPriority_12 rfl (lv_at hl 0 rfl) ?_
  refine kg_get F G 0 0 (by decide) rfl (N := 6) (Tt := TX10) rfl kf10 5 (by decide) kl596 (v := .ref (aH 0)) rfl dX10_setPriority_13 ?_
  refine lv_aload_n F.1 F.2.1 dX10_setPriority_16 rfl (lv_at hl 0 rfl) ?_
  refine kg_get F G 0 0 (by decide) rfl (N := 6) (Tt := TX10) rfl kf10 3 (by decide) kl591 (v := .ref (aW 0 0)) rfl dX10_setPriority_17 ?_
  obtain ⟨hs_3, ww_4, hc, h⟩ := op_b2 h
  refine k_callVR (rv := none) (Wc := (gHU T aP aH aW hs ww)) (W2 := (gHU T aP aH aW hs_3 ww_4)) (Wn := (gU T aF aR aD aP aH aW tx ps nm v vn hs_3 ww_4)) (As := [.ref (aW 0 0)]) (rest := []) F G (mX0_keep l D T aP aH aW hs ww hc) (cwV 1 F.2.2.2.2 (kg_c kl728 (kg_c kl729 (kg_c kl730 (kg_c kl595 (kg_c kl113 kg_a))))) rfl rfl rfl (by decide +kernel) ⟨Nat.le_of_ble_eq_true rfl, Nat.le_of_ble_eq_true rfl⟩) (kg_recv G 6 0 (by decide) rfl (q := (RX0, TX0, 5)) rfl) (kCut_H G) rfl hl.1 rfl (Nat.le_of_ble_eq_true rfl) dX10_setPriority_20 ⟨Nat.le_of_ble_eq_true rfl, Nat.le_of_ble_eq_true rfl⟩ (cN := 2) (sN := 12) ⟨rfl, rfl⟩ (fun H locs G => ?_)
  refine lv_aload_n F.1 F.2.1 dX10_setPriority_23 rfl (lv_at hl 0 rfl) ?_
  refine kg_get F G 0 0 (by decide) rfl (N := 6) (Tt := TX10) rfl kf10 3 (by decide) kl591 (v := .ref (aW 0 0)) rfl dX10_setPriority_24 ?_
  refine kg_get F G 7 0 (by decide) rfl (N := 14) (Tt := TX9) rfl kf9 1 (by decide) kl101 (v := .ref (aW 0 2)) rfl dX10_setPriority_27 ?_
  refine kg_get F G 7 2 (by decide) rfl (N := 9) (Tt := TX2) rfl kf2 1 (by decide) kl659 (v := .ref (aW 0 3)) rfl dX10_setPriority_30 ?_
  refine lv_iload_n F.1 F.2.1 dX10_setPriority_33 rfl (lv_at hl 1 rfl) ?_
  obtain ⟨c, h⟩ := op_g h
  refine kg_iald F G 7 3 (by decide) rfl c dX10_setPriority_34 ?_
  refine lv_istore_n (lv' := [(3, .int (((ww_4 0) 10) x1.toNatClampNeg)), (0, .ref (aF 0)), (1, .int x1), (2, .int x2)]) F.1 F.2.1 dX10_setPriority_35 rfl hl (by decide) rfl (fun ls hl => ?_)
  refine lv_aload_n F.1 F.2.1 dX10_setPriority_36 rfl (lv_at hl 1 rfl) ?_
  refine kg_get F G 0 0 (by decide) rfl (N := 6) (Tt := TX10) rfl kf10 3 (by decide) kl591 (v := .ref (aW 0 0)) rfl dX10_setPriority_37 ?_
  refine kg_get F G 7 0 (by decide) rfl (N := 14) (Tt := TX9) rfl kf9 1 (by decide) kl101 (v := .ref (aW 0 2)) rfl dX10_setPriority_40 ?_
  refine kg_get F G 7 2 (by decide) rfl (N := 9) (Tt := TX2) rfl kf2 1 (by decide) kl659 (v := .ref (aW 0 3)) rfl dX10_setPriority_43 ?_
  refine lv_iload_n F.1 F.2.1 dX10_setPriority_46 rfl (lv_at hl 2 rfl) ?_
  refine lv_iload_n F.1 F.2.1 dX10_setPriority_47 rfl (lv_at hl 3 rfl) ?_
  obtain ⟨c, h⟩ := op_g h
  obtain ⟨ww_5, e9, h⟩ := op_st h
  refine kg_iast (g' := (gFc T aF aR aD aP aH aW tx ps nm v vn hs_3 ww_5)) F G 7 3 (by decide) rfl c dX10_setPriority_48 (by subst e9; rfl) (by subst e9; exact fun k hk h9 => (gF_same [7] (Or.inr rfl) (Or.inr ⟨rfl, rfl⟩) (Or.inr ⟨rfl, rfl⟩) (Or.inr rfl) (gW_up 0 _ 7 (by simp))) k hk (not_cons h9)) (fun H locs G => ?_)
  clear e9
  refine lv_iload_n F.1 F.2.1 dX10_setPriority_49 rfl (lv_at hl 0 rfl) ?_
  obtain ⟨rfl, rfl, rfl, rfl⟩ := op_4 h
  exact kx_ret (k_iret F hr hlk G dX10_setPriority_50)
abbrev rmX10_forget : Room := ({ frames := 6, cells := 0, slots := 0, locals := 125 } : Room)
noncomputable def qX10_forget (tx : Nat → Nat → Int32) (ps : Nat → Nat → Int32) (nm : Nat → Int64) (v : Nat → Nat → Int32) (vn : Nat → Int64) (hs : Nat → Nat → Int32) (ww : Nat → Nat → Nat → Int32) : Option (Int32 × (Nat → Nat → Int32) × (Nat → Nat → Nat → Int32)) :=
  bd2 (qX0_keep hs ww) fun hs_1 ww_2 => bd (qJ6_bitCount_0f7a4 ((ww_2 0) 21 0)) fun r_3 => bd (qX3_forgetLearned v (ww_2 0)) fun w_4 => (bs (va_up ww_2 0 w_4) fun ww_5 => some (r_3, hs_1, ww_5))

set_option maxHeartbeats 8000000 in
set_option maxRecDepth 100000 in
theorem mX10_forget (l : Launch) (D : va_G) (T : Nat → ClassId) (aF : Nat → Nat) (aR : Nat → Nat) (aD : Nat → Nat) (aP : Nat → Nat) (aH : Nat → Nat) (aW : Nat → Nat → Nat) (tx : Nat → Nat → Int32) (ps : Nat → Nat → Int32) (nm : Nat → Int64) (v : Nat → Nat → Int32) (vn : Nat → Int64) (hs : Nat → Nat → Int32) (ww : Nat → Nat → Nat → Int32) {rR : Int32} {hsR : Nat → Nat → Int32} {wwR : Nat → Nat → Nat → Int32} (hres : qX10_forget tx ps nm v vn hs ww = some (rR, hsR, wwR)) : Ct l yX10_forget (Cond.code yX10_forget cX10_forget 2 (some .int) :: kAll) rmX10_forget D T [.ref (aF 0)] (gU T aF aR aD aP aH aW tx ps nm v vn hs ww) (some (.int rR)) (gU T aF aR aD aP aH aW tx ps nm v vn hsR wwR) := by
  refine Ct.of (cc := cX10_forget) (maxL := 2) (ret := (some .int)) (by decide +kernel) rfl (Nat.le_of_ble_eq_true rfl) ?_
  intro pr en st mi ag bl me co A ls F hr hlk hnm G hl
  have hl : lv_has ls 2 [(0, .ref (aF 0))] := hl
  have h := hres
  unfold qX10_forget at h
  refine lv_aload_n F.1 F.2.1 dX10_forget_0 rfl (lv_at hl 0 rfl) ?_
  refine kg_get F G 0 0 (by decide) rfl (N := 6) (Tt := TX10) rfl kf10 5 (by decide) kl596 (v := .ref (aH 0)) rfl dX10_forget_1 ?_
  refine lv_aload_n F.1 F.2.1 dX10_forget_4 rfl (lv_at hl 0 rfl) ?_
  refine kg_get F G 0 0 (by decide) rfl (N := 6) (Tt := TX10) rfl kf10 3 (by decide) kl591 (v := .ref (aW 0 0)) rfl dX10_forget_5 ?_
  obtain ⟨hs_1, ww_2, hc, h⟩ := op_b2 h
  refine k_callVR (rv := none) (Wc := (gHU T aP aH aW hs ww)) (W2 := (gHU T aP aH aW hs_1 ww_2)) (Wn := (gU T aF aR aD aP aH aW tx ps nm v vn hs_1 ww_2)) (As := [.ref (aW 0 0)]) (rest := []) F G (mX0_keep l D T aP aH aW hs ww hc) (cwV 1 F.2.2.2.2 (kg_c kl728 (kg_c kl729 (kg_c kl730 (kg_c kl595 (kg_c kl113 kg_a))))) rfl rfl rfl (by decide +kernel) ⟨Nat.le_of_ble_eq_true rfl, Nat.le_of_ble_eq_true rfl⟩) (kg_recv G 6 0 (by decide) rfl (q := (RX0, TX0, 5)) rfl) (kCut_H G) rfl hl.1 rfl (Nat.le_of_ble_eq_true rfl) dX10_forget_8 ⟨Nat.le_of_ble_eq_true rfl, Nat.le_of_ble_eq_true rfl⟩ (cN := 0) (sN := 0) ⟨rfl, rfl⟩ (fun H locs G => ?_)
  refine lv_aload_n F.1 F.2.1 dX10_forget_11 rfl (lv_at hl 0 rfl) ?_
  refine kg_get F G 0 0 (by decide) rfl (N := 6) (Tt := TX10) rfl kf10 3 (by decide) kl591 (v := .ref (aW 0 0)) rfl dX10_forget_12 ?_
  refine kg_get F G 7 0 (by decide) rfl (N := 14) (Tt := TX9) rfl kf9 2 (by decide) kl102 (v := .ref (aW 0 9)) rfl dX10_forget_15 ?_
  refine kg_get F G 7 9 (by decide) rfl (N := 7) (Tt := TX3) rfl kf3 4 (by decide) kl674 (v := .int ((ww_2 0) 21 0)) rfl dX10_forget_18 ?_
  obtain ⟨r_3, hc, h⟩ := op_b h
  refine k_callS (rv := (some (.int r_3))) (Wc := ([] : va_W)) (W2 := ([] : va_W)) (Wn := (gU T aF aR aD aP aH aW tx ps nm v vn hs_1 ww_2)) (As := [.int ((ww_2 0) 21 0)]) (rest := []) F G (mJ6_bitCount_0f7a4 l D T ((ww_2 0) 21 0) hc) (va_cwS 1 F.2.2.2.2 (kg_c kl731 (kg_c kl367 (kg_c kl368 (kg_c kl361 kg_a)))) rfl rfl rfl (by decide +kernel) ⟨Nat.le_of_ble_eq_true rfl, Nat.le_of_ble_eq_true rfl⟩) (kCut_0 G) rfl hl.1 rfl (Nat.le_of_ble_eq_true rfl) dX10_forget_21 ⟨Nat.le_of_ble_eq_true rfl, Nat.le_of_ble_eq_true rfl⟩ (cN := 0) (sN := 0) ⟨rfl, rfl⟩ (fun H locs G => ?_)
  refine lv_istore_n (lv' := [(1, .int r_3), (0, .ref (aF 0))]) F.1 F.2.1 dX10_forget_24 rfl hl (by decide) rfl (fun ls hl => ?_)
  refine lv_aload_n F.1 F.2.1 dX10_forget_25 rfl (lv_at hl 1 rfl) ?_
  refine kg_get F G 0 0 (by decide) rfl (N := 6) (Tt := TX10) rfl kf10 3 (by decide) kl591 (v := .ref (aW 0 0)) rfl dX10_forget_26 ?_
  refine kg_get F G 7 0 (by decide) rfl (N := 14) (Tt := TX9) rfl kf9 2 (by decide) kl102 (v := .ref (aW 0 9)) rfl dX10_forget_29 ?_
  obtain ⟨w_4, hc, h⟩ := op_b h
  obtain ⟨ww_5, e9, h⟩ := op_st h
  refine k_callVR (rv := none) (Wc := (gW T aP (aW 0) v (ww_2 0))) (W2 := (gW T aP (aW 0) v w_4)) (Wn := (gU T aF aR aD aP aH aW tx ps nm v vn hs_1 ww_5)) (As := []) (rest := []) F G (mX3_forgetLearned l D T aP (aW 0) v (ww_2 0) hc) (cwV 0 F.2.2.2.2 (kg_c kl721 (kg_c kl165 (kg_c kl166 (kg_c kl46 (kg_c kl156 kg_a))))) rfl rfl rfl (by decide +kernel) ⟨Nat.le_of_ble_eq_true rfl, Nat.le_of_ble_eq_true rfl⟩) (kg_recv G 7 9 (by decide) rfl (q := (RX3, TX3, 7)) rfl) (by subst e9; exact kCut_g (g' := (gFc T aF aR aD aP aH aW tx ps nm v vn hs_1 (va_up ww_2 0 w_4))) [4, 7] G (by decide) (by decide) (gF_same [4, 7] (Or.inr rfl) (Or.inr ⟨rfl, rfl⟩) (Or.inr ⟨rfl, rfl⟩) (Or.inr rfl) (gW_up 0 _ 7 (by simp))) gF_addr) rfl hl.1 rfl (Nat.le_of_ble_eq_true rfl) dX10_forget_32 ⟨Nat.le_of_ble_eq_true rfl, Nat.le_of_ble_eq_true rfl⟩ (cN := 0) (sN := 0) ⟨rfl, rfl⟩ (fun H locs G => ?_)
  clear e9
  refine lv_iload_n F.1 F.2.1 dX10_forget_35 rfl (lv_at hl 0 rfl) ?_
  obtain ⟨rfl, rfl, rfl⟩ := op_3 h
  exact k_iret F hr hlk G dX10_forget_36
abbrev rmX10_undo : Room := ({ frames := 6, cells := 1, slots := 6, locals := 125 } : Room)
noncomputable def qX10_undo (tx : Nat → Nat → Int32) (ps : Nat → Nat → Int32) (nm : Nat → Int64) (v : Nat → Nat → Int32) (vn : Nat → Int64) (hs : Nat → Nat → Int32) (ww : Nat → Nat → Nat → Int32) : Option (Nat × Int32 × (Nat → Nat → Int32) × (Nat → Nat → Nat → Int32)) :=
  if (hs 1 0) = 0 then some (1, 0, hs, ww) else bd2 (qX0_takeBack hs ww) fun hs_1 ww_2 => some (0, (hs_1 1 0), hs_1, ww_2)

set_option maxHeartbeats 8000000 in
set_option maxRecDepth 100000 in
theorem mX10_undo (l : Launch) (hst : l.stackTraces = false) (D : va_G) (T : Nat → ClassId) (aF : Nat → Nat) (aR : Nat → Nat) (aD : Nat → Nat) (aP : Nat → Nat) (aH : Nat → Nat) (aW : Nat → Nat → Nat) (tx : Nat → Nat → Int32) (ps : Nat → Nat → Int32) (nm : Nat → Int64) (v : Nat → Nat → Int32) (vn : Nat → Int64) (hs : Nat → Nat → Int32) (ww : Nat → Nat → Nat → Int32) {eR : Nat} {rR : Int32} {hsR : Nat → Nat → Int32} {wwR : Nat → Nat → Nat → Int32} (hres : qX10_undo tx ps nm v vn hs ww = some (eR, rR, hsR, wwR)) : Cx l yX10_undo (Cond.code yX10_undo cX10_undo 1 (some .int) :: kAll) rmX10_undo D T [.ref (aF 0)] (gU T aF aR aD aP aH aW tx ps nm v vn hs ww) eR (some (.int rR)) (gU T aF aR aD aP aH aW tx ps nm v vn hsR wwR) := by
  refine Cx.of (cc := cX10_undo) (maxL := 1) (ret := (some .int)) (by decide +kernel) rfl (Nat.le_of_ble_eq_true rfl) ?_
  intro pr en st mi ag bl me co A ls F hr hlk hex G hl
  have hl : lv_has ls 1 [(0, .ref (aF 0))] := hl
  have h := hres
  unfold qX10_undo at h
  refine lv_aload_n F.1 F.2.1 dX10_undo_0 rfl (lv_at hl 0 rfl) ?_
  refine kg_get F G 0 0 (by decide) rfl (N := 6) (Tt := TX10) rfl kf10 5 (by decide) kl596 (v := .ref (aH 0)) rfl dX10_undo_1 ?_
  refine kg_get F G 6 0 (by decide) rfl (N := 5) (Tt := TX0) rfl kf0 3 (by decide) kl647 (v := .int (hs 1 0)) rfl dX10_undo_4 ?_
  refine lv_if_ne (tgt := 21) F.1 F.2.1 dX10_undo_7 (by decide) (fun c => ?_) (fun c => ?_)
  · have h := op_f h c
    refine lv_aload_n F.1 F.2.1 dX10_undo_21 rfl (lv_at hl 0 rfl) ?_
    refine kg_get F G 0 0 (by decide) rfl (N := 6) (Tt := TX10) rfl kf10 5 (by decide) kl596 (v := .ref (aH 0)) rfl dX10_undo_22 ?_
    refine lv_aload_n F.1 F.2.1 dX10_undo_25 rfl (lv_at hl 0 rfl) ?_
    refine kg_get F G 0 0 (by decide) rfl (N := 6) (Tt := TX10) rfl kf10 3 (by decide) kl591 (v := .ref (aW 0 0)) rfl dX10_undo_26 ?_
    obtain ⟨hs_1, ww_2, hc, h⟩ := op_b2 h
    refine k_callVR (rv := none) (Wc := (gHU T aP aH aW hs ww)) (W2 := (gHU T aP aH aW hs_1 ww_2)) (Wn := (gU T aF aR aD aP aH aW tx ps nm v vn hs_1 ww_2)) (As := [.ref (aW 0 0)]) (rest := []) F G (mX0_takeBack l D T aP aH aW hs ww hc) (cwV 1 F.2.2.2.2 (kg_c kl743 (kg_c kl744 (kg_c kl745 (kg_c kl595 (kg_c kl117 kg_a))))) rfl rfl rfl (by decide +kernel) ⟨Nat.le_of_ble_eq_true rfl, Nat.le_of_ble_eq_true rfl⟩) (kg_recv G 6 0 (by decide) rfl (q := (RX0, TX0, 5)) rfl) (kCut_H G) rfl hl.1 rfl (Nat.le_of_ble_eq_true rfl) dX10_undo_29 ⟨Nat.le_of_ble_eq_true rfl, Nat.le_of_ble_eq_true rfl⟩ (cN := 0) (sN := 0) ⟨rfl, rfl⟩ (fun H locs G => ?_)
    refine lv_aload_n F.1 F.2.1 dX10_undo_32 rfl (lv_at hl 0 rfl) ?_
    refine kg_get F G 0 0 (by decide) rfl (N := 6) (Tt := TX10) rfl kf10 5 (by decide) kl596 (v := .ref (aH 0)) rfl dX10_undo_33 ?_
    refine kg_get F G 6 0 (by decide) rfl (N := 5) (Tt := TX0) rfl kf0 3 (by decide) kl647 (v := .int (hs_1 1 0)) rfl dX10_undo_36 ?_
    obtain ⟨rfl, rfl, rfl, rfl⟩ := op_4 h
    refine W.widen (k := 1) (n := 6) (Nat.le_of_ble_eq_true rfl) (Nat.le_of_ble_eq_true rfl) ?_
    exact kx_ret (k_iret F hr hlk G dX10_undo_39)
  · have h := op_t h c
    obtain ⟨rfl, rfl, rfl, rfl⟩ := op_4 h
    obtain ⟨sa, hsa⟩ := kx_msg G 10 rfl
    exact vx_throwSW (own := RX10) (cls := "java/lang/IllegalStateException") (text := "no change can be undone") (names := kNms) (ik := 58) (is := 340) (ic := 62) (mc := rmX10_undo.cells) (ms := rmX10_undo.slots) F.1 F.2.1 hst F.2.2.2.1 kx_f1 kx_nms (F.2.2.2.2 _ kl608) (F.2.2.2.2 _ kl609) hsa (kx_hat F G kxi0 kx_b1 (by decide +kernel)) kx_g1 G.2.2.2.2.1.2.2.2.2.1 G.2.2.2.2.1.2.2.2.2.2.1 G.2.2.2.1 (hl.1.trans F.2.2.1.symm) dX10_undo_10 dX10_undo_13 dX10_undo_14 dX10_undo_17 dX10_undo_20 (fun x hx => (hex x hx).elim) (Nat.le_of_ble_eq_true rfl) (Nat.le_of_ble_eq_true rfl) (Nat.le_of_ble_eq_true rfl) (Nat.le_of_ble_eq_true rfl) hlk (kx_after G (by decide)) G.2.2.2.1.2.2 (Nat.le_of_ble_eq_true rfl) (Nat.le_of_ble_eq_true rfl)
abbrev rmX10_save : Room := ({ frames := 7, cells := 1, slots := 6, locals := 126 } : Room)
noncomputable def qX10_save (tx : Nat → Nat → Int32) (ps : Nat → Nat → Int32) (nm : Nat → Int64) (v : Nat → Nat → Int32) (vn : Nat → Int64) (hs : Nat → Nat → Int32) (ww : Nat → Nat → Nat → Int32) (x1 : Int32) : Option (Nat × (Nat → Nat → Int32) × (Nat → Nat → Nat → Int32)) :=
  bd (qX10_checkSlot x1) fun e_1 => if e_1 = 0 then bd2 (qX0_putIn hs ww x1) fun hs_2 ww_3 => some (0, hs_2, ww_3) else some (e_1, hs, ww)

set_option maxHeartbeats 8000000 in
set_option maxRecDepth 100000 in
theorem mX10_save (l : Launch) (hst : l.stackTraces = false) (D : va_G) (T : Nat → ClassId) (aF : Nat → Nat) (aR : Nat → Nat) (aD : Nat → Nat) (aP : Nat → Nat) (aH : Nat → Nat) (aW : Nat → Nat → Nat) (tx : Nat → Nat → Int32) (ps : Nat → Nat → Int32) (nm : Nat → Int64) (v : Nat → Nat → Int32) (vn : Nat → Int64) (hs : Nat → Nat → Int32) (ww : Nat → Nat → Nat → Int32) (x1 : Int32) {eR : Nat} {hsR : Nat → Nat → Int32} {wwR : Nat → Nat → Nat → Int32} (hres : qX10_save tx ps nm v vn hs ww x1 = some (eR, hsR, wwR)) : Cx l yX10_save (Cond.code yX10_save cX10_save 2 none :: kAll) rmX10_save D T [.ref (aF 0), .int x1] (gU T aF aR aD aP aH aW tx ps nm v vn hs ww) eR none (gU T aF aR aD aP aH aW tx ps nm v vn hsR wwR) := by
  refine Cx.of (cc := cX10_save) (maxL := 2) (ret := none) (by decide +kernel) rfl (Nat.le_of_ble_eq_true rfl) ?_
  intro pr en st mi ag bl me co A ls F hr hlk hex G hl
  have hl : lv_has ls 2 [(0, .ref (aF 0)), (1, .int x1)] := hl
  have h := hres
  unfold qX10_save at h
  refine lv_iload_n F.1 F.2.1 dX10_save_0 rfl (lv_at hl 1 rfl) ?_
  obtain ⟨e_1, hc, h⟩ := op_b h
  refine kx_callS (rv := none) (Wc := ([] : va_W)) (W2 := ([] : va_W)) (Wn := (gU T aF aR aD aP aH aW tx ps nm v vn hs ww)) (As := [.int x1]) (rest := []) F G (mX10_checkSlot l hst D T x1 hc) (va_cwS 1 F.2.2.2.2 (kg_c kl748 (kg_c kl749 (kg_c kl80 (kg_c kl746 kg_a)))) rfl rfl rfl (by decide +kernel) ⟨Nat.le_of_ble_eq_true rfl, Nat.le_of_ble_eq_true rfl⟩) (kCut_0 G) rfl hl.1 rfl (Nat.le_of_ble_eq_true rfl) dX10_save_1 ⟨Nat.le_of_ble_eq_true rfl, Nat.le_of_ble_eq_true rfl⟩ (cN := 1) (sN := 6) ⟨rfl, rfl⟩ (fun c ce q9 H locs G hce hcv hcl => ?_) (fun c H locs G => ?_)
  · have h := op_f h c
    obtain ⟨rfl, rfl, rfl⟩ := op_3 h
    exact kx_out hex hlk G c hce hcv hcl (Nat.le_of_ble_eq_true rfl) (Nat.le_of_ble_eq_true rfl)
  have h := op_t h c
  refine lv_aload_n F.1 F.2.1 dX10_save_4 rfl (lv_at hl 0 rfl) ?_
  refine kg_get F G 0 0 (by decide) rfl (N := 6) (Tt := TX10) rfl kf10 5 (by decide) kl596 (v := .ref (aH 0)) rfl dX10_save_5 ?_
  refine lv_iload_n F.1 F.2.1 dX10_save_8 rfl (lv_at hl 1 rfl) ?_
  refine lv_aload_n F.1 F.2.1 dX10_save_9 rfl (lv_at hl 0 rfl) ?_
  refine kg_get F G 0 0 (by decide) rfl (N := 6) (Tt := TX10) rfl kf10 3 (by decide) kl591 (v := .ref (aW 0 0)) rfl dX10_save_10 ?_
  obtain ⟨hs_2, ww_3, hc, h⟩ := op_b2 h
  refine k_callVR (rv := none) (Wc := (gHU T aP aH aW hs ww)) (W2 := (gHU T aP aH aW hs_2 ww_3)) (Wn := (gU T aF aR aD aP aH aW tx ps nm v vn hs_2 ww_3)) (As := [.int x1, .ref (aW 0 0)]) (rest := []) F G (mX0_putIn l D T aP aH aW hs ww x1 hc) (cwV 2 F.2.2.2.2 (kg_c kl750 (kg_c kl751 (kg_c kl752 (kg_c kl595 (kg_c kl123 kg_a))))) rfl rfl rfl (by decide +kernel) ⟨Nat.le_of_ble_eq_true rfl, Nat.le_of_ble_eq_true rfl⟩) (kg_recv G 6 0 (by decide) rfl (q := (RX0, TX0, 5)) rfl) (kCut_H G) rfl hl.1 rfl (Nat.le_of_ble_eq_true rfl) dX10_save_13 ⟨Nat.le_of_ble_eq_true rfl, Nat.le_of_ble_eq_true rfl⟩ (cN := 1) (sN := 6) ⟨rfl, rfl⟩ (fun H locs G => ?_)
  obtain ⟨rfl, rfl, rfl⟩ := op_3 h
  exact kx_ret (k_vret F hr hlk G dX10_save_16)
abbrev rmX10_restore : Room := ({ frames := 7, cells := 2, slots := 12, locals := 126 } : Room)
noncomputable def qX10_restore (tx : Nat → Nat → Int32) (ps : Nat → Nat → Int32) (nm : Nat → Int64) (v : Nat → Nat → Int32) (vn : Nat → Int64) (hs : Nat → Nat → Int32) (ww : Nat → Nat → Nat → Int32) (x1 : Int32) : Option (Nat × (Nat → Nat → Int32) × (Nat → Nat → Nat → Int32)) :=
  bd (qX10_checkSlot x1) fun e_1 => if e_1 = 0 then bd (qX0_isSaved hs ww x1) fun r_2 => if r_2 = 0 then some (4, hs, ww) else bd (qX0_takeFrom hs ww x1) fun ww_3 => bd (qX0_dropChanges hs ww_3) fun hs_4 => some (0, hs_4, ww_3) else some (e_1, hs, ww)

set_option maxHeartbeats 8000000 in
set_option maxRecDepth 100000 in
theorem mX10_restore (l : Launch) (hst : l.stackTraces = false) (D : va_G) (T : Nat → ClassId) (aF : Nat → Nat) (aR : Nat → Nat) (aD : Nat → Nat) (aP : Nat → Nat) (aH : Nat → Nat) (aW : Nat → Nat → Nat) (tx : Nat → Nat → Int32) (ps : Nat → Nat → Int32) (nm : Nat → Int64) (v : Nat → Nat → Int32) (vn : Nat → Int64) (hs : Nat → Nat → Int32) (ww : Nat → Nat → Nat → Int32) (x1 : Int32) {eR : Nat} {hsR : Nat → Nat → Int32} {wwR : Nat → Nat → Nat → Int32} (hres : qX10_restore tx ps nm v vn hs ww x1 = some (eR, hsR, wwR)) : Cx l yX10_restore (Cond.code yX10_restore cX10_restore 2 none :: kAll) rmX10_restore D T [.ref (aF 0), .int x1] (gU T aF aR aD aP aH aW tx ps nm v vn hs ww) eR none (gU T aF aR aD aP aH aW tx ps nm v vn hsR wwR) := by
  refine Cx.of (cc := cX10_restore) (maxL := 2) (ret := none) (by decide +kernel) rfl (Nat.le_of_ble_eq_true rfl) ?_
  intro pr en st mi ag bl me co A ls F hr hlk hex G hl
  have hl : lv_has ls 2 [(0, .ref (aF 0)), (1, .int x1)] := hl
  have h := hres
  unfold qX10_restore at h
  refine lv_iload_n F.1 F.2.1 dX10_restore_0 rfl (lv_at hl 1 rfl) ?_
  obtain ⟨e_1, hc, h⟩ := op_b h
  refine kx_callS (rv := none) (Wc := ([] : va_W)) (W2 := ([] : va_W)) (Wn := (gU T aF aR aD aP aH aW tx ps nm v vn hs ww)) (As := [.int x1]) (rest := []) F G (mX10_checkSlot l hst D T x1 hc) (va_cwS 1 F.2.2.2.2 (kg_c kl748 (kg_c kl749 (kg_c kl80 (kg_c kl746 kg_a)))) rfl rfl rfl (by decide +kernel) ⟨Nat.le_of_ble_eq_true rfl, Nat.le_of_ble_eq_true rfl⟩) (kCut_0 G) rfl hl.1 rfl (Nat.le_of_ble_eq_true rfl) dX10_restore_1 ⟨Nat.le_of_ble_eq_true rfl, Nat.le_of_ble_eq_true rfl⟩ (cN := 1) (sN := 6) ⟨rfl, rfl⟩ (fun c ce q9 H locs G hce hcv hcl => ?_) (fun c H locs G => ?_)
  · have h := op_f h c
    obtain ⟨rfl, rfl, rfl⟩ := op_3 h
    exact kx_out hex hlk G c hce hcv hcl (Nat.le_of_ble_eq_true rfl) (Nat.le_of_ble_eq_true rfl)
  have h := op_t h c
  refine lv_aload_n F.1 F.2.1 dX10_restore_4 rfl (lv_at hl 0 rfl) ?_
  refine kg_get F G 0 0 (by decide) rfl (N := 6) (Tt := TX10) rfl kf10 5 (by decide) kl596 (v := .ref (aH 0)) rfl dX10_restore_5 ?_
  refine lv_iload_n F.1 F.2.1 dX10_restore_8 rfl (lv_at hl 1 rfl) ?_
  obtain ⟨r_2, hc, h⟩ := op_b h
  refine k_callVR (rv := (some (.int r_2))) (Wc := (gHU T aP aH aW hs ww)) (W2 := (gHU T aP aH aW hs ww)) (Wn := (gU T aF aR aD aP aH aW tx ps nm v vn hs ww)) (As := [.int x1]) (rest := []) F G (mX0_isSaved l D T aP aH aW hs ww x1 hc) (cwV 1 F.2.2.2.2 (kg_c kl754 (kg_c kl755 (kg_c kl756 (kg_c kl595 (kg_c kl120 kg_a))))) rfl rfl rfl (by decide +kernel) ⟨Nat.le_of_ble_eq_true rfl, Nat.le_of_ble_eq_true rfl⟩) (kg_recv G 6 0 (by decide) rfl (q := (RX0, TX0, 5)) rfl) (kCut_H G) rfl hl.1 rfl (Nat.le_of_ble_eq_true rfl) dX10_restore_9 ⟨Nat.le_of_ble_eq_true rfl, Nat.le_of_ble_eq_true rfl⟩ (cN := 1) (sN := 6) ⟨rfl, rfl⟩ (fun H locs G => ?_)
  refine lv_if_ne (tgt := 26) F.1 F.2.1 dX10_restore_12 (by decide) (fun c => ?_) (fun c => ?_)
  · have h := op_f h c
    refine lv_aload_n F.1 F.2.1 dX10_restore_26 rfl (lv_at hl 0 rfl) ?_
    refine kg_get F G 0 0 (by decide) rfl (N := 6) (Tt := TX10) rfl kf10 5 (by decide) kl596 (v := .ref (aH 0)) rfl dX10_restore_27 ?_
    refine lv_iload_n F.1 F.2.1 dX10_restore_30 rfl (lv_at hl 1 rfl) ?_
    refine lv_aload_n F.1 F.2.1 dX10_restore_31 rfl (lv_at hl 0 rfl) ?_
    refine kg_get F G 0 0 (by decide) rfl (N := 6) (Tt := TX10) rfl kf10 3 (by decide) kl591 (v := .ref (aW 0 0)) rfl dX10_restore_32 ?_
    obtain ⟨ww_3, hc, h⟩ := op_b h
    refine k_callVR (rv := none) (Wc := (gHU T aP aH aW hs ww)) (W2 := (gHU T aP aH aW hs ww_3)) (Wn := (gU T aF aR aD aP aH aW tx ps nm v vn hs ww_3)) (As := [.int x1, .ref (aW 0 0)]) (rest := []) F G (mX0_takeFrom l D T aP aH aW hs ww x1 hc) (cwV 2 F.2.2.2.2 (kg_c kl757 (kg_c kl758 (kg_c kl759 (kg_c kl595 (kg_c kl124 kg_a))))) rfl rfl rfl (by decide +kernel) ⟨Nat.le_of_ble_eq_true rfl, Nat.le_of_ble_eq_true rfl⟩) (kg_recv G 6 0 (by decide) rfl (q := (RX0, TX0, 5)) rfl) (kCut_H G) rfl hl.1 rfl (Nat.le_of_ble_eq_true rfl) dX10_restore_35 ⟨Nat.le_of_ble_eq_true rfl, Nat.le_of_ble_eq_true rfl⟩ (cN := 1) (sN := 6) ⟨rfl, rfl⟩ (fun H locs G => ?_)
    refine lv_aload_n F.1 F.2.1 dX10_restore_38 rfl (lv_at hl 0 rfl) ?_
    refine kg_get F G 0 0 (by decide) rfl (N := 6) (Tt := TX10) rfl kf10 5 (by decide) kl596 (v := .ref (aH 0)) rfl dX10_restore_39 ?_
    obtain ⟨hs_4, hc, h⟩ := op_b h
    refine k_callVR (rv := none) (Wc := (gHU T aP aH aW hs ww_3)) (W2 := (gHU T aP aH aW hs_4 ww_3)) (Wn := (gU T aF aR aD aP aH aW tx ps nm v vn hs_4 ww_3)) (As := []) (rest := []) F G (mX0_dropChanges l D T aP aH aW hs ww_3 hc) (cwV 0 F.2.2.2.2 (kg_c kl628 (kg_c kl629 (kg_c kl630 (kg_c kl595 (kg_c kl118 kg_a))))) rfl rfl rfl (by decide +kernel) ⟨Nat.le_of_ble_eq_true rfl, Nat.le_of_ble_eq_true rfl⟩) (kg_recv G 6 0 (by decide) rfl (q := (RX0, TX0, 5)) rfl) (kCut_H G) rfl hl.1 rfl (Nat.le_of_ble_eq_true rfl) dX10_restore_42 ⟨Nat.le_of_ble_eq_true rfl, Nat.le_of_ble_eq_true rfl⟩ (cN := 1) (sN := 6) ⟨rfl, rfl⟩ (fun H locs G => ?_)
    obtain ⟨rfl, rfl, rfl⟩ := op_3 h
    refine W.widen (k := 2) (n := 12) (Nat.le_of_ble_eq_true rfl) (Nat.le_of_ble_eq_true rfl) ?_
    exact kx_ret (k_vret F hr hlk G dX10_restore_45)
  · have h := op_t h c
    obtain ⟨rfl, rfl, rfl⟩ := op_3 h
    obtain ⟨sa, hsa⟩ := kx_msg G 11 rfl
    exact vy_throwSW (own := RX10) (cls := "java/util/NoSuchElementException") (text := "nothing is saved there") (YY := "java/lang/RuntimeException") (names := ["java/lang/Exception"]) (ik := 112) (is := 355) (ic := 116) (mc := rmX10_restore.cells) (ms := rmX10_restore.slots) F.1 F.2.1 hst F.2.2.2.1 kx_f4 kx_fR kx_nmE (F.2.2.2.2 _ kl639) (F.2.2.2.2 _ kl640) hsa (kx_hat F G kxi3 kx_b4 (by decide +kernel)) kx_g4 G.2.2.2.2.1.2.2.2.2.1 G.2.2.2.2.1.2.2.2.2.2.1 G.2.2.2.1 (hl.1.trans F.2.2.1.symm) dX10_restore_15 dX10_restore_18 dX10_restore_19 dX10_restore_22 dX10_restore_25 (fun x hx => (hex x hx).elim) (Nat.le_of_ble_eq_true rfl) (Nat.le_of_ble_eq_true rfl) (Nat.le_of_ble_eq_true rfl) (Nat.le_of_ble_eq_true rfl) hlk (kx_after G (by decide)) G.2.2.2.1.2.2 (Nat.le_of_ble_eq_true rfl) (Nat.le_of_ble_eq_true rfl)
