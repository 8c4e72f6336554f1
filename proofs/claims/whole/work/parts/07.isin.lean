abbrev rmX10_isIn : Room := ({ frames := 0, cells := 0, slots := 0, locals := 0 } : Room)
noncomputable def qX10_isIn (x0 : Int32) (x1 : Int32) : Option (Int32) :=
  if ((x0 >>> (x1 &&& 31)) &&& 1) = 0 then some 0 else some 1

set_option maxHeartbeats 4000000 in
set_option maxRecDepth 100000 in
theorem mX10_isIn (l : Launch) (D : va_G) (T : Nat → ClassId) (x0 : Int32) (x1 : Int32) {rR : Int32} (hres : qX10_isIn x0 x1 = some (rR)) : Ct l yX10_isIn (Cond.code yX10_isIn cX10_isIn 2 (some .boolean) :: kAll) rmX10_isIn D T [.int x0, .int x1] ([] : va_W) (some (.int rR)) ([] : va_W) := by
  refine Ct.of (cc := cX10_isIn) (maxL := 2) (ret := (some .boolean)) (by decide +kernel) rfl (Nat.le_of_ble_eq_true rfl) ?_
  intro pr en st mi ag bl me co A ls F hr hlk hnm G hl
  have hl : lv_has ls 2 [(0, .int x0), (1, .int x1)] := hl
  have h := hres
  unfold qX10_isIn at h
  refine lv_iload_n F.1 F.2.1 dX10_isIn_0 rfl (lv_at hl 0 rfl) ?_
  refine lv_iload_n F.1 F.2.1 dX10_isIn_1 rfl (lv_at hl 1 rfl) ?_
  refine lv_ishr F.1 F.2.1 dX10_isIn_2 ?_
  refine lv_iconst (v := 1) F.1 F.2.1 dX10_isIn_3 (by decide) ?_
  refine lv_iand F.1 F.2.1 dX10_isIn_4 ?_
  refine lv_if_eq (tgt := 12) F.1 F.2.1 dX10_isIn_5 (by decide) (fun c => ?_) (fun c => ?_)
  · have h := op_t h c
    refine lv_iconst (v := 0) F.1 F.2.1 dX10_isIn_12 (by decide) ?_
    obtain rfl := op_1 h
    exact k_zret F hr rfl hlk G dX10_isIn_13
  · have h := op_f h c
    refine lv_iconst (v := 1) F.1 F.2.1 dX10_isIn_8 (by decide) ?_
    refine lv_goto (tgt := 13) F.1 F.2.1 dX10_isIn_9 (by decide) ?_
    obtain rfl := op_1 h
    exact k_zret F hr rfl hlk G dX10_isIn_13
