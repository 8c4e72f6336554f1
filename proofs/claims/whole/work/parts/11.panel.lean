abbrev rmX3_losePower : Room := ({ frames := 2, cells := 0, slots := 0, locals := 43 } : Room)
noncomputable def qX3_losePower (v : Nat → Nat → Int32) (w : Nat → Nat → Int32) (x1 : Int32) : Option ((Nat → Nat → Int32)) :=
  (bs (va_up w 18 (kfill 12 0 (w 18))) fun w_1 => (bs (va_up w_1 19 (kfill 12 x1 (w_1 19))) fun w_2 => bd (qX1_clear_p v w_2) fun w_3 => some w_3))

set_option maxHeartbeats 4000000 in
set_option maxRecDepth 100000 in
theorem mX3_losePower (l : Launch) (D : va_G) (T : Nat → ClassId) (aP : Nat → Nat) (aQ : Nat → Nat) (v : Nat → Nat → Int32) (w : Nat → Nat → Int32) (x1 : Int32) {wR : Nat → Nat → Int32} (hres : qX3_losePower v w x1 = some (wR)) : Ct l yX3_losePower (Cond.code yX3_losePower cX3_losePower 2 none :: kAll) rmX3_losePower D T [.ref (aQ 9), .int x1] (gW T aP aQ v w) none (gW T aP aQ v wR) := by
  refine Ct.of (cc := cX3_losePower) (maxL := 2) (ret := none) (by decide +kernel) rfl (Nat.le_of_ble_eq_true rfl) ?_
  intro pr en st mi ag bl me co A ls F hr hlk hnm G hl
  have hl : lv_has ls 2 [(0, .ref (aQ 9)), (1, .int x1)] := hl
  have h := hres
  unfold qX3_losePower at h
  refine lv_aload_n F.1 F.2.1 dX3_losePower_0 rfl (lv_at hl 0 rfl) ?_
  refine k_get F G 18 rfl (N := 7) (Tt := TX3) rfl kf3 1 (by decide) kl18 (v := .ref (aQ 10)) rfl dX3_losePower_1 ?_
  refine lv_iconst (v := 0) F.1 F.2.1 dX3_losePower_4 (by decide) ?_
  obtain ⟨w_1, e9, h⟩ := op_st h
  refine k_callS (rv := none) (Wc := (gA T (aQ 10) 12 (w 18))) (W2 := (gA T (aQ 10) 12 (kfill 12 0 (w 18)))) (Wn := (gW T aP aQ v w_1)) (As := [.ref (aQ 10), .int 0]) (rest := []) F G (mJ7_fill_53178 l D T (aQ 10) 12 (w 18) 0 (by decide)) (va_cwS 2 F.2.2.2.2 (kg_c kl162 (kg_c kl129 (kg_c kl130 (kg_c kl126 kg_a)))) rfl rfl rfl (by decide +kernel) ⟨Nat.le_of_ble_eq_true rfl, Nat.le_of_ble_eq_true rfl⟩) (kCut_1 G 19 rfl (by subst e9; rfl)) rfl hl.1 rfl (Nat.le_of_ble_eq_true rfl) dX3_losePower_5 ⟨Nat.le_of_ble_eq_true rfl, Nat.le_of_ble_eq_true rfl⟩ (cN := 0) (sN := 0) ⟨rfl, rfl⟩ (fun H locs G => ?_)
  clear e9
  refine lv_aload_n F.1 F.2.1 dX3_losePower_8 rfl (lv_at hl 0 rfl) ?_
  refine k_get F G 18 rfl (N := 7) (Tt := TX3) rfl kf3 2 (by decide) kl19 (v := .ref (aQ 11)) rfl dX3_losePower_9 ?_
  refine lv_iload_n F.1 F.2.1 dX3_losePower_12 rfl (lv_at hl 1 rfl) ?_
  obtain ⟨w_2, e9, h⟩ := op_st h
  refine k_callS (rv := none) (Wc := (gA T (aQ 11) 12 (w_1 19))) (W2 := (gA T (aQ 11) 12 (kfill 12 x1 (w_1 19)))) (Wn := (gW T aP aQ v w_2)) (As := [.ref (aQ 11), .int x1]) (rest := []) F G (mJ7_fill_53178 l D T (aQ 11) 12 (w_1 19) x1 (by decide)) (va_cwS 2 F.2.2.2.2 (kg_c kl162 (kg_c kl129 (kg_c kl130 (kg_c kl126 kg_a)))) rfl rfl rfl (by decide +kernel) ⟨Nat.le_of_ble_eq_true rfl, Nat.le_of_ble_eq_true rfl⟩) (kCut_1 G 20 rfl (by subst e9; rfl)) rfl hl.1 rfl (Nat.le_of_ble_eq_true rfl) dX3_losePower_13 ⟨Nat.le_of_ble_eq_true rfl, Nat.le_of_ble_eq_true rfl⟩ (cN := 0) (sN := 0) ⟨rfl, rfl⟩ (fun H locs G => ?_)
  clear e9
  refine lv_aload_n F.1 F.2.1 dX3_losePower_16 rfl (lv_at hl 0 rfl) ?_
  refine k_get F G 18 rfl (N := 7) (Tt := TX3) rfl kf3 6 (by decide) kl25 (v := .ref (aQ 16)) rfl dX3_losePower_17 ?_
  obtain ⟨w_3, hc, h⟩ := op_b h
  refine k_callV (rv := none) (Wc := (gW T aP aQ v w_2)) (W2 := (gW T aP aQ v w_3)) (Wn := (gW T aP aQ v w_3)) (As := []) (rest := []) F G (mX1_clear_p l D T aP aQ v w_2 hc) (cwV 0 F.2.2.2.2 (kg_c kl158 (kg_c kl159 (kg_c kl160 (kg_c kl23 (kg_c kl127 kg_a))))) rfl rfl rfl (by decide +kernel) ⟨Nat.le_of_ble_eq_true rfl, Nat.le_of_ble_eq_true rfl⟩) 25 rfl (q := (RX1, TX1, 3)) rfl rfl (kCut_F G) rfl hl.1 rfl (Nat.le_of_ble_eq_true rfl) dX3_losePower_20 ⟨Nat.le_of_ble_eq_true rfl, Nat.le_of_ble_eq_true rfl⟩ (cN := 0) (sN := 0) ⟨rfl, rfl⟩ (fun H locs G => ?_)
  obtain rfl := op_1 h
  exact k_vret F hr hlk G dX3_losePower_23
abbrev rmX3_forgetLearned : Room := ({ frames := 2, cells := 0, slots := 0, locals := 43 } : Room)
noncomputable def qX3_forgetLearned (v : Nat → Nat → Int32) (w : Nat → Nat → Int32) : Option ((Nat → Nat → Int32)) :=
  (bs (va_up w 20 (kcpy 12 (v 10) (w 20))) fun w_1 => (bs (va_up w_1 21 (fun _ => 0)) fun w_2 => bd (qX1_clear_l v w_2) fun w_3 => some w_3))

set_option maxHeartbeats 4000000 in
set_option maxRecDepth 100000 in
theorem mX3_forgetLearned (l : Launch) (D : va_G) (T : Nat → ClassId) (aP : Nat → Nat) (aQ : Nat → Nat) (v : Nat → Nat → Int32) (w : Nat → Nat → Int32) {wR : Nat → Nat → Int32} (hres : qX3_forgetLearned v w = some (wR)) : Ct l yX3_forgetLearned (Cond.code yX3_forgetLearned cX3_forgetLearned 1 none :: kAll) rmX3_forgetLearned D T [.ref (aQ 9)] (gW T aP aQ v w) none (gW T aP aQ v wR) := by
  refine Ct.of (cc := cX3_forgetLearned) (maxL := 1) (ret := none) (by decide +kernel) rfl (Nat.le_of_ble_eq_true rfl) ?_
  intro pr en st mi ag bl me co A ls F hr hlk hnm G hl
  have hl : lv_has ls 1 [(0, .ref (aQ 9))] := hl
  have h := hres
  unfold qX3_forgetLearned at h
  refine lv_aload_n F.1 F.2.1 dX3_forgetLearned_0 rfl (lv_at hl 0 rfl) ?_
  refine k_get F G 18 rfl (N := 7) (Tt := TX3) rfl kf3 0 (by decide) kl26 (v := .ref (aP 0)) rfl dX3_forgetLearned_1 ?_
  refine k_get F G 0 rfl (N := 18) (Tt := TX5) rfl kf5 3 (by decide) kl157 (v := .ref (aP 2)) rfl dX3_forgetLearned_4 ?_
  refine lv_aload_n F.1 F.2.1 dX3_forgetLearned_7 rfl (lv_at hl 0 rfl) ?_
  refine k_get F G 18 rfl (N := 7) (Tt := TX3) rfl kf3 3 (by decide) kl20 (v := .ref (aQ 12)) rfl dX3_forgetLearned_8 ?_
  obtain ⟨w_1, e9, h⟩ := op_st h
  refine k_callSN (rv := none) (Wc := (gB T (aP 2) (aQ 12) 12 (v 10) (w 20))) (W2 := (gB T (aP 2) (aQ 12) 12 (v 10) (kcpy 12 (v 10) (w 20)))) (Wn := (gW T aP aQ v w_1)) (As := [.ref (aP 2), .ref (aQ 12)]) (rest := []) F G (mX10_copyRow l D T (aP 2) (aQ 12) 12 (v 10) (w 20) (by decide)) ⟨va_cnB 2 F.2.2.2.2 (kg_c kl67 kg_a) rfl rfl rfl (k_nest G 7 rfl) (F.2.2.2.2 _ kl80) (by decide +kernel) ⟨Nat.le_of_ble_eq_true rfl, Nat.le_of_ble_eq_true rfl⟩, F.2.2.2.2 _ kl79⟩ (kCut_2 G 2 21 rfl rfl (by decide) (by subst e9; rfl)) rfl hl.1 rfl (Nat.le_of_ble_eq_true rfl) dX3_forgetLearned_11 ⟨Nat.le_of_ble_eq_true rfl, Nat.le_of_ble_eq_true rfl⟩ (cN := 0) (sN := 0) ⟨rfl, rfl⟩ (fun H locs G => ?_)
  clear e9
  refine lv_aload_n F.1 F.2.1 dX3_forgetLearned_14 rfl (lv_at hl 0 rfl) ?_
  refine lv_iconst (v := 0) F.1 F.2.1 dX3_forgetLearned_15 (by decide) ?_
  obtain ⟨w_2, e9, h⟩ := op_st h
  refine k_put F G 18 rfl (N := 7) (Tt := TX3) rfl kf3 tyX3_ok nmX3 4 (by decide) kl84 rfl (v := .int 0) rfl rfl (Nat.le_of_ble_eq_true rfl) dX3_forgetLearned_16 (Wn := (gW T aP aQ v w_2)) (by subst e9; rfl) (fun H locs G => ?_)
  clear e9
  refine lv_aload_n F.1 F.2.1 dX3_forgetLearned_19 rfl (lv_at hl 0 rfl) ?_
  refine k_get F G 18 rfl (N := 7) (Tt := TX3) rfl kf3 5 (by decide) kl24 (v := .ref (aQ 13)) rfl dX3_forgetLearned_20 ?_
  obtain ⟨w_3, hc, h⟩ := op_b h
  refine k_callV (rv := none) (Wc := (gW T aP aQ v w_2)) (W2 := (gW T aP aQ v w_3)) (Wn := (gW T aP aQ v w_3)) (As := []) (rest := []) F G (mX1_clear_l l D T aP aQ v w_2 hc) (cwV 0 F.2.2.2.2 (kg_c kl158 (kg_c kl159 (kg_c kl160 (kg_c kl23 (kg_c kl127 kg_a))))) rfl rfl rfl (by decide +kernel) ⟨Nat.le_of_ble_eq_true rfl, Nat.le_of_ble_eq_true rfl⟩) 22 rfl (q := (RX1, TX1, 3)) rfl rfl (kCut_F G) rfl hl.1 rfl (Nat.le_of_ble_eq_true rfl) dX3_forgetLearned_23 ⟨Nat.le_of_ble_eq_true rfl, Nat.le_of_ble_eq_true rfl⟩ (cN := 0) (sN := 0) ⟨rfl, rfl⟩ (fun H locs G => ?_)
  obtain rfl := op_1 h
  exact k_vret F hr hlk G dX3_forgetLearned_26
abbrev rmX3_beginAnew : Room := ({ frames := 3, cells := 0, slots := 0, locals := 64 } : Room)
noncomputable def qX3_beginAnew (v : Nat → Nat → Int32) (w : Nat → Nat → Int32) : Option ((Nat → Nat → Int32)) :=
  bd (qX3_forgetLearned v w) fun w_1 => bd (qX3_losePower v w_1 0) fun w_2 => some w_2

set_option maxHeartbeats 4000000 in
set_option maxRecDepth 100000 in
theorem mX3_beginAnew (l : Launch) (D : va_G) (T : Nat → ClassId) (aP : Nat → Nat) (aQ : Nat → Nat) (v : Nat → Nat → Int32) (w : Nat → Nat → Int32) {wR : Nat → Nat → Int32} (hres : qX3_beginAnew v w = some (wR)) : Ct l yX3_beginAnew (Cond.code yX3_beginAnew cX3_beginAnew 1 none :: kAll) rmX3_beginAnew D T [.ref (aQ 9)] (gW T aP aQ v w) none (gW T aP aQ v wR) := by
  refine Ct.of (cc := cX3_beginAnew) (maxL := 1) (ret := none) (by decide +kernel) rfl (Nat.le_of_ble_eq_true rfl) ?_
  intro pr en st mi ag bl me co A ls F hr hlk hnm G hl
  have hl : lv_has ls 1 [(0, .ref (aQ 9))] := hl
  have h := hres
  unfold qX3_beginAnew at h
  refine lv_aload_n F.1 F.2.1 dX3_beginAnew_0 rfl (lv_at hl 0 rfl) ?_
  obtain ⟨w_1, hc, h⟩ := op_b h
  refine k_callV (rv := none) (Wc := (gW T aP aQ v w)) (W2 := (gW T aP aQ v w_1)) (Wn := (gW T aP aQ v w_1)) (As := []) (rest := []) F G (mX3_forgetLearned l D T aP aQ v w hc) (cwV 0 F.2.2.2.2 (kg_c kl164 (kg_c kl165 (kg_c kl166 (kg_c kl46 (kg_c kl156 kg_a))))) rfl rfl rfl (by decide +kernel) ⟨Nat.le_of_ble_eq_true rfl, Nat.le_of_ble_eq_true rfl⟩) 18 rfl (q := (RX3, TX3, 7)) rfl rfl (kCut_F G) rfl hl.1 rfl (Nat.le_of_ble_eq_true rfl) dX3_beginAnew_1 ⟨Nat.le_of_ble_eq_true rfl, Nat.le_of_ble_eq_true rfl⟩ (cN := 0) (sN := 0) ⟨rfl, rfl⟩ (fun H locs G => ?_)
  refine lv_aload_n F.1 F.2.1 dX3_beginAnew_4 rfl (lv_at hl 0 rfl) ?_
  refine lv_iconst (v := 0) F.1 F.2.1 dX3_beginAnew_5 (by decide) ?_
  obtain ⟨w_2, hc, h⟩ := op_b h
  refine k_callV (rv := none) (Wc := (gW T aP aQ v w_1)) (W2 := (gW T aP aQ v w_2)) (Wn := (gW T aP aQ v w_2)) (As := [.int 0]) (rest := []) F G (mX3_losePower l D T aP aQ v w_1 0 hc) (cwV 1 F.2.2.2.2 (kg_c kl167 (kg_c kl168 (kg_c kl169 (kg_c kl46 (kg_c kl161 kg_a))))) rfl rfl rfl (by decide +kernel) ⟨Nat.le_of_ble_eq_true rfl, Nat.le_of_ble_eq_true rfl⟩) 18 rfl (q := (RX3, TX3, 7)) rfl rfl (kCut_F G) rfl hl.1 rfl (Nat.le_of_ble_eq_true rfl) dX3_beginAnew_6 ⟨Nat.le_of_ble_eq_true rfl, Nat.le_of_ble_eq_true rfl⟩ (cN := 0) (sN := 0) ⟨rfl, rfl⟩ (fun H locs G => ?_)
  obtain rfl := op_1 h
  exact k_vret F hr hlk G dX3_beginAnew_9
abbrev rmX3_reservedFor : Room := ({ frames := 0, cells := 0, slots := 0, locals := 0 } : Room)
noncomputable def qX3_reservedFor (v : Nat → Nat → Int32) (w : Nat → Nat → Int32) (x1 : Int32) : Option (Int32) :=
  gd (vp_in x1 12) (if ((w 18) x1.toNatClampNeg) = 2 then gd (vp_in x1 12) (some ((w 20) x1.toNatClampNeg)) else gd (vp_in x1 12) (if ((w 18) x1.toNatClampNeg) = 3 then gd (vp_in x1 12) (some ((v 9) x1.toNatClampNeg)) else some 0))

set_option maxHeartbeats 4000000 in
set_option maxRecDepth 100000 in
theorem mX3_reservedFor (l : Launch) (D : va_G) (T : Nat → ClassId) (aP : Nat → Nat) (aQ : Nat → Nat) (v : Nat → Nat → Int32) (w : Nat → Nat → Int32) (x1 : Int32) {rR : Int32} (hres : qX3_reservedFor v w x1 = some (rR)) : Ct l yX3_reservedFor (Cond.code yX3_reservedFor cX3_reservedFor 2 (some .int) :: kAll) rmX3_reservedFor D T [.ref (aQ 9), .int x1] (gW T aP aQ v w) (some (.int rR)) (gW T aP aQ v w) := by
  refine Ct.of (cc := cX3_reservedFor) (maxL := 2) (ret := (some .int)) (by decide +kernel) rfl (Nat.le_of_ble_eq_true rfl) ?_
  intro pr en st mi ag bl me co A ls F hr hlk hnm G hl
  have hl : lv_has ls 2 [(0, .ref (aQ 9)), (1, .int x1)] := hl
  have h := hres
  unfold qX3_reservedFor at h
  refine lv_aload_n F.1 F.2.1 dX3_reservedFor_0 rfl (lv_at hl 0 rfl) ?_
  refine k_get F G 18 rfl (N := 7) (Tt := TX3) rfl kf3 1 (by decide) kl18 (v := .ref (aQ 10)) rfl dX3_reservedFor_1 ?_
  refine lv_iload_n F.1 F.2.1 dX3_reservedFor_4 rfl (lv_at hl 1 rfl) ?_
  obtain ⟨c, h⟩ := op_g h
  refine k_iald F G 19 rfl c dX3_reservedFor_5 ?_
  refine lv_iconst (v := 2) F.1 F.2.1 dX3_reservedFor_6 (by decide) ?_
  refine lv_icmp_ne (tgt := 17) F.1 F.2.1 dX3_reservedFor_7 (by decide) (fun c => ?_) (fun c => ?_)
  · have h := op_f h c
    refine lv_aload_n F.1 F.2.1 dX3_reservedFor_17 rfl (lv_at hl 0 rfl) ?_
    refine k_get F G 18 rfl (N := 7) (Tt := TX3) rfl kf3 1 (by decide) kl18 (v := .ref (aQ 10)) rfl dX3_reservedFor_18 ?_
    refine lv_iload_n F.1 F.2.1 dX3_reservedFor_21 rfl (lv_at hl 1 rfl) ?_
    obtain ⟨c, h⟩ := op_g h
    refine k_iald F G 19 rfl c dX3_reservedFor_22 ?_
    refine lv_iconst (v := 3) F.1 F.2.1 dX3_reservedFor_23 (by decide) ?_
    refine lv_icmp_ne (tgt := 39) F.1 F.2.1 dX3_reservedFor_24 (by decide) (fun c => ?_) (fun c => ?_)
    · have h := op_f h c
      refine lv_iconst (v := 0) F.1 F.2.1 dX3_reservedFor_39 (by decide) ?_
      obtain rfl := op_1 h
      exact k_iret F hr hlk G dX3_reservedFor_40
    · have h := op_t h c
      refine lv_aload_n F.1 F.2.1 dX3_reservedFor_27 rfl (lv_at hl 0 rfl) ?_
      refine k_get F G 18 rfl (N := 7) (Tt := TX3) rfl kf3 0 (by decide) kl26 (v := .ref (aP 0)) rfl dX3_reservedFor_28 ?_
      refine k_get F G 0 rfl (N := 18) (Tt := TX5) rfl kf5 2 (by decide) kl171 (v := .ref (aP 1)) rfl dX3_reservedFor_31 ?_
      refine lv_iload_n F.1 F.2.1 dX3_reservedFor_34 rfl (lv_at hl 1 rfl) ?_
      obtain ⟨c, h⟩ := op_g h
      refine k_iald F G 1 rfl c dX3_reservedFor_35 ?_
      refine lv_goto (tgt := 40) F.1 F.2.1 dX3_reservedFor_36 (by decide) ?_
      obtain rfl := op_1 h
      exact k_iret F hr hlk G dX3_reservedFor_40
  · have h := op_t h c
    refine lv_aload_n F.1 F.2.1 dX3_reservedFor_10 rfl (lv_at hl 0 rfl) ?_
    refine k_get F G 18 rfl (N := 7) (Tt := TX3) rfl kf3 3 (by decide) kl20 (v := .ref (aQ 12)) rfl dX3_reservedFor_11 ?_
    refine lv_iload_n F.1 F.2.1 dX3_reservedFor_14 rfl (lv_at hl 1 rfl) ?_
    obtain ⟨c, h⟩ := op_g h
    refine k_iald F G 21 rfl c dX3_reservedFor_15 ?_
    obtain rfl := op_1 h
    exact k_iret F hr hlk G dX3_reservedFor_16
abbrev rmX3_reservedForAll : Room := ({ frames := 1, cells := 0, slots := 0, locals := 21 } : Room)
noncomputable def qX3_reservedForAll_L4 (v : Nat → Nat → Int32) (w : Nat → Nat → Int32) (K : Int32 → Option (Int32)) : Nat → Int32 → Int32 → Option (Int32)
  | 0, _, _ => none
  | n + 1, x1_1, x2_2 =>
    if (v 0 0) ≤ x2_2 then (K x1_1) else bd (qX3_reservedFor v w x2_2) fun r_4 => (qX3_reservedForAll_L4 v w K n (x1_1 + r_4) (x2_2 + 1))

noncomputable def qX3_reservedForAll (v : Nat → Nat → Int32) (w : Nat → Nat → Int32) : Option (Int32) :=
  (qX3_reservedForAll_L4 v w  (fun (x1_3 : Int32) => some x1_3) fu 0 0 )

set_option maxHeartbeats 4000000 in
set_option maxRecDepth 100000 in
theorem mX3_reservedForAll (l : Launch) (D : va_G) (T : Nat → ClassId) (aP : Nat → Nat) (aQ : Nat → Nat) (v : Nat → Nat → Int32) (w : Nat → Nat → Int32) {rR : Int32} (hres : qX3_reservedForAll v w = some (rR)) : Ct l yX3_reservedForAll (Cond.code yX3_reservedForAll cX3_reservedForAll 3 (some .int) :: kAll) rmX3_reservedForAll D T [.ref (aQ 9)] (gW T aP aQ v w) (some (.int rR)) (gW T aP aQ v w) := by
  refine Ct.of (cc := cX3_reservedForAll) (maxL := 3) (ret := (some .int)) (by decide +kernel) rfl (Nat.le_of_ble_eq_true rfl) ?_
  intro pr en st mi ag bl me co A ls F hr hlk hnm G hl
  have hl : lv_has ls 3 [(0, .ref (aQ 9))] := hl
  have h := hres
  unfold qX3_reservedForAll at h
  refine lv_iconst (v := 0) F.1 F.2.1 dX3_reservedForAll_0 (by decide) ?_
  refine lv_istore_n (lv' := [(1, .int 0), (0, .ref (aQ 9))]) F.1 F.2.1 dX3_reservedForAll_1 rfl hl (by decide) rfl (fun ls hl => ?_)
  refine lv_iconst (v := 0) F.1 F.2.1 dX3_reservedForAll_2 (by decide) ?_
  refine lv_istore_n (lv' := [(2, .int 0), (1, .int 0), (0, .ref (aQ 9))]) F.1 F.2.1 dX3_reservedForAll_3 rfl hl (by decide) rfl (fun ls hl => ?_)
  have L4 : ∀ (v : Nat → Nat → Int32) (w : Nat → Nat → Int32) (K : Int32 → Option (Int32)) (hK : ∀ (x1_3 : Int32) (H : Heap) (locs : List Loc) (ls : Array Slot), K x1_3 = some (rR) → Rg D T A st (gW T aP aQ v w) H locs → lv_has ls 3 [(1, .int x1_3)] → W pr l en rmX3_reservedForAll st mi ag bl me co H locs 0 0 (MQ bl (kQ (some (.int rR)) D (gW T aP aQ v w) A) ag st rmX3_reservedForAll.cells rmX3_reservedForAll.slots A) (F0 mi 29 ls [])) (n : Nat) (x1_1 : Int32) (x2_2 : Int32) (H : Heap) (locs : List Loc) (ls : Array Slot), qX3_reservedForAll_L4 v w K n x1_1 x2_2 = some (rR) → Rg D T A st (gW T aP aQ v w) H locs → lv_has ls 3 [(0, .ref (aQ 9)), (1, .int x1_1), (2, .int x2_2)] → W pr l en rmX3_reservedForAll st mi ag bl me co H locs 0 0 (MQ bl (kQ (some (.int rR)) D (gW T aP aQ v w) A) ag st rmX3_reservedForAll.cells rmX3_reservedForAll.slots A) (F0 mi 4 ls []) := by
    intro v w K hK n
    induction n with
    | zero => intro x1_1 x2_2 H locs ls h; exact op_n h
    | succ n ih =>
      intro x1_1 x2_2 H locs ls h G hl
      rw [qX3_reservedForAll_L4] at h
      refine lv_iload_n F.1 F.2.1 dX3_reservedForAll_4 rfl (lv_at hl 2 rfl) ?_
      refine lv_aload_n F.1 F.2.1 dX3_reservedForAll_5 rfl (lv_at hl 0 rfl) ?_
      refine k_get F G 18 rfl (N := 7) (Tt := TX3) rfl kf3 0 (by decide) kl26 (v := .ref (aP 0)) rfl dX3_reservedForAll_6 ?_
      refine k_get F G 0 rfl (N := 18) (Tt := TX5) rfl kf5 0 (by decide) kl173 (v := .int (v 0 0)) rfl dX3_reservedForAll_9 ?_
      refine lv_icmp_ge (tgt := 29) F.1 F.2.1 dX3_reservedForAll_12 (by decide) (fun c => ?_) (fun c => ?_)
      · have h := op_t h c
        exact hK x1_1 _ _ _ h G (lv_sub hl [1] rfl)
      · have h := op_f h c
        refine lv_iload_n F.1 F.2.1 dX3_reservedForAll_15 rfl (lv_at hl 1 rfl) ?_
        refine lv_aload_n F.1 F.2.1 dX3_reservedForAll_16 rfl (lv_at hl 0 rfl) ?_
        refine lv_iload_n F.1 F.2.1 dX3_reservedForAll_17 rfl (lv_at hl 2 rfl) ?_
        obtain ⟨r_4, hc, h⟩ := op_b h
        refine k_callV (rv := (some (.int r_4))) (Wc := (gW T aP aQ v w)) (W2 := (gW T aP aQ v w)) (Wn := (gW T aP aQ v w)) (As := [.int x2_2]) (rest := [.int x1_1]) F G (mX3_reservedFor l D T aP aQ v w x2_2 hc) (cwV 1 F.2.2.2.2 (kg_c kl174 (kg_c kl175 (kg_c kl176 (kg_c kl46 (kg_c kl170 kg_a))))) rfl rfl rfl (by decide +kernel) ⟨Nat.le_of_ble_eq_true rfl, Nat.le_of_ble_eq_true rfl⟩) 18 rfl (q := (RX3, TX3, 7)) rfl rfl (kCut_F G) rfl hl.1 rfl (Nat.le_of_ble_eq_true rfl) dX3_reservedForAll_18 ⟨Nat.le_of_ble_eq_true rfl, Nat.le_of_ble_eq_true rfl⟩ (cN := 0) (sN := 0) ⟨rfl, rfl⟩ (fun H locs G => ?_)
        refine lv_iadd F.1 F.2.1 dX3_reservedForAll_21 ?_
        refine lv_istore_n (lv' := [(1, .int (x1_1 + r_4)), (0, .ref (aQ 9)), (2, .int x2_2)]) F.1 F.2.1 dX3_reservedForAll_22 rfl hl (by decide) rfl (fun ls hl => ?_)
        refine lv_iinc (v := (x2_2 + 1)) (lv' := [(2, .int (x2_2 + 1)), (1, .int (x1_1 + r_4)), (0, .ref (aQ 9))]) F.1 F.2.1 dX3_reservedForAll_23 hl (k := 2) rfl rfl (by decide) rfl (fun ls hl => ?_)
        refine lv_goto (tgt := 4) F.1 F.2.1 dX3_reservedForAll_26 (by decide) ?_
        exact ih (x1_1 + r_4) (x2_2 + 1) _ _ _ h G (lv_sub hl [2, 1, 0] rfl)
  refine L4 v w  _ (fun x1_3 H locs ls h G hl => ?_) fu 0 0  _ _ _ h G (lv_sub hl [2, 1, 0] rfl)
  clear L4
  refine lv_iload_n F.1 F.2.1 dX3_reservedForAll_29 rfl (lv_at hl 0 rfl) ?_
  obtain rfl := op_1 h
  exact k_iret F hr hlk G dX3_reservedForAll_30
abbrev rmX3_markedWith : Room := ({ frames := 0, cells := 0, slots := 0, locals := 0 } : Room)
noncomputable def qX3_markedWith_L4 (v : Nat → Nat → Int32) (w : Nat → Nat → Int32) (x1_1 : Int32) (K : Int32 → Option (Int32)) : Nat → Int32 → Int32 → Option (Int32)
  | 0, _, _ => none
  | n + 1, x2_2, x3_3 =>
    if (v 0 0) ≤ x3_3 then (K x2_2) else gd (vp_in x3_3 12) ((jn (fun (x2_5 : Int32) => (qX3_markedWith_L4 v w x1_1 K n x2_5 (x3_3 + 1))) fun j31 => if ((w 18) x3_3.toNatClampNeg) = x1_1 then (j31 (x2_2 ||| (1 <<< (x3_3 &&& 31)))) else (j31 x2_2)))

noncomputable def qX3_markedWith (v : Nat → Nat → Int32) (w : Nat → Nat → Int32) (x1 : Int32) : Option (Int32) :=
  (qX3_markedWith_L4 v w x1 (fun (x2_4 : Int32) => some x2_4) fu 0 0 )

set_option maxHeartbeats 4000000 in
set_option maxRecDepth 100000 in
theorem mX3_markedWith (l : Launch) (D : va_G) (T : Nat → ClassId) (aP : Nat → Nat) (aQ : Nat → Nat) (v : Nat → Nat → Int32) (w : Nat → Nat → Int32) (x1 : Int32) {rR : Int32} (hres : qX3_markedWith v w x1 = some (rR)) : Ct l yX3_markedWith (Cond.code yX3_markedWith cX3_markedWith 4 (some .int) :: kAll) rmX3_markedWith D T [.ref (aQ 9), .int x1] (gW T aP aQ v w) (some (.int rR)) (gW T aP aQ v w) := by
  refine Ct.of (cc := cX3_markedWith) (maxL := 4) (ret := (some .int)) (by decide +kernel) rfl (Nat.le_of_ble_eq_true rfl) ?_
  intro pr en st mi ag bl me co A ls F hr hlk hnm G hl
  have hl : lv_has ls 4 [(0, .ref (aQ 9)), (1, .int x1)] := hl
  have h := hres
  unfold qX3_markedWith at h
  refine lv_iconst (v := 0) F.1 F.2.1 dX3_markedWith_0 (by decide) ?_
  refine lv_istore_n (lv' := [(2, .int 0), (0, .ref (aQ 9)), (1, .int x1)]) F.1 F.2.1 dX3_markedWith_1 rfl hl (by decide) rfl (fun ls hl => ?_)
  refine lv_iconst (v := 0) F.1 F.2.1 dX3_markedWith_2 (by decide) ?_
  refine lv_istore_n (lv' := [(3, .int 0), (2, .int 0), (0, .ref (aQ 9)), (1, .int x1)]) F.1 F.2.1 dX3_markedWith_3 rfl hl (by decide) rfl (fun ls hl => ?_)
  have L4 : ∀ (v : Nat → Nat → Int32) (w : Nat → Nat → Int32) (x1_1 : Int32) (K : Int32 → Option (Int32)) (hK : ∀ (x2_4 : Int32) (H : Heap) (locs : List Loc) (ls : Array Slot), K x2_4 = some (rR) → Rg D T A st (gW T aP aQ v w) H locs → lv_has ls 4 [(2, .int x2_4)] → W pr l en rmX3_markedWith st mi ag bl me co H locs 0 0 (MQ bl (kQ (some (.int rR)) D (gW T aP aQ v w) A) ag st rmX3_markedWith.cells rmX3_markedWith.slots A) (F0 mi 37 ls [])) (n : Nat) (x2_2 : Int32) (x3_3 : Int32) (H : Heap) (locs : List Loc) (ls : Array Slot), qX3_markedWith_L4 v w x1_1 K n x2_2 x3_3 = some (rR) → Rg D T A st (gW T aP aQ v w) H locs → lv_has ls 4 [(0, .ref (aQ 9)), (1, .int x1_1), (2, .int x2_2), (3, .int x3_3)] → W pr l en rmX3_markedWith st mi ag bl me co H locs 0 0 (MQ bl (kQ (some (.int rR)) D (gW T aP aQ v w) A) ag st rmX3_markedWith.cells rmX3_markedWith.slots A) (F0 mi 4 ls []) := by
    intro v w x1_1 K hK n
    induction n with
    | zero => intro x2_2 x3_3 H locs ls h; exact op_n h
    | succ n ih =>
      intro x2_2 x3_3 H locs ls h G hl
      rw [qX3_markedWith_L4] at h
      refine lv_iload_n F.1 F.2.1 dX3_markedWith_4 rfl (lv_at hl 3 rfl) ?_
      refine lv_aload_n F.1 F.2.1 dX3_markedWith_5 rfl (lv_at hl 0 rfl) ?_
      refine k_get F G 18 rfl (N := 7) (Tt := TX3) rfl kf3 0 (by decide) kl26 (v := .ref (aP 0)) rfl dX3_markedWith_6 ?_
      refine k_get F G 0 rfl (N := 18) (Tt := TX5) rfl kf5 0 (by decide) kl173 (v := .int (v 0 0)) rfl dX3_markedWith_9 ?_
      refine lv_icmp_ge (tgt := 37) F.1 F.2.1 dX3_markedWith_12 (by decide) (fun c => ?_) (fun c => ?_)
      · have h := op_t h c
        exact hK x2_2 _ _ _ h G (lv_sub hl [2] rfl)
      · have h := op_f h c
        refine lv_aload_n F.1 F.2.1 dX3_markedWith_15 rfl (lv_at hl 0 rfl) ?_
        refine k_get F G 18 rfl (N := 7) (Tt := TX3) rfl kf3 1 (by decide) kl18 (v := .ref (aQ 10)) rfl dX3_markedWith_16 ?_
        refine lv_iload_n F.1 F.2.1 dX3_markedWith_19 rfl (lv_at hl 3 rfl) ?_
        obtain ⟨c, h⟩ := op_g h
        refine k_iald F G 19 rfl c dX3_markedWith_20 ?_
        refine lv_iload_n F.1 F.2.1 dX3_markedWith_21 rfl (lv_at hl 1 rfl) ?_
        obtain ⟨j31, hj31, h⟩ := op_j h
        have J31 : ∀ (x2_5 : Int32) (H : Heap) (locs : List Loc) (ls : Array Slot), j31 x2_5 = some (rR) → Rg D T A st (gW T aP aQ v w) H locs → lv_has ls 4 [(0, .ref (aQ 9)), (1, .int x1_1), (2, .int x2_5), (3, .int x3_3)] → W pr l en rmX3_markedWith st mi ag bl me co H locs 0 0 (MQ bl (kQ (some (.int rR)) D (gW T aP aQ v w) A) ag st rmX3_markedWith.cells rmX3_markedWith.slots A) (F0 mi 31 ls []) := by
          intro x2_5 H locs ls h G hl
          rw [hj31] at h
          refine lv_iinc (v := (x3_3 + 1)) (lv' := [(3, .int (x3_3 + 1)), (0, .ref (aQ 9)), (1, .int x1_1), (2, .int x2_5)]) F.1 F.2.1 dX3_markedWith_31 hl (k := 3) rfl rfl (by decide) rfl (fun ls hl => ?_)
          refine lv_goto (tgt := 4) F.1 F.2.1 dX3_markedWith_34 (by decide) ?_
          exact ih x2_5 (x3_3 + 1) _ _ _ h G (lv_sub hl [1, 2, 3, 0] rfl)
        clear hj31
        refine lv_icmp_ne (tgt := 31) F.1 F.2.1 dX3_markedWith_22 (by decide) (fun c => ?_) (fun c => ?_)
        · have h := op_f h c
          exact J31 x2_2 _ _ _ h G hl
        · have h := op_t h c
          refine lv_iload_n F.1 F.2.1 dX3_markedWith_25 rfl (lv_at hl 2 rfl) ?_
          refine lv_iconst (v := 1) F.1 F.2.1 dX3_markedWith_26 (by decide) ?_
          refine lv_iload_n F.1 F.2.1 dX3_markedWith_27 rfl (lv_at hl 3 rfl) ?_
          refine lv_ishl F.1 F.2.1 dX3_markedWith_28 ?_
          refine lv_ior F.1 F.2.1 dX3_markedWith_29 ?_
          refine lv_istore_n (lv' := [(2, .int (x2_2 ||| (1 <<< (x3_3 &&& 31)))), (0, .ref (aQ 9)), (1, .int x1_1), (3, .int x3_3)]) F.1 F.2.1 dX3_markedWith_30 rfl hl (by decide) rfl (fun ls hl => ?_)
          exact J31 (x2_2 ||| (1 <<< (x3_3 &&& 31))) _ _ _ h G (lv_sub hl [1, 2, 0, 3] rfl)
  refine L4 v w x1 _ (fun x2_4 H locs ls h G hl => ?_) fu 0 0  _ _ _ h G (lv_sub hl [2, 3, 1, 0] rfl)
  clear L4
  refine lv_iload_n F.1 F.2.1 dX3_markedWith_37 rfl (lv_at hl 0 rfl) ?_
  obtain rfl := op_1 h
  exact k_iret F hr hlk G dX3_markedWith_38
abbrev rmX3_setMark : Room := ({ frames := 0, cells := 0, slots := 0, locals := 0 } : Room)
noncomputable def qX3_setMark (v : Nat → Nat → Int32) (w : Nat → Nat → Int32) (x1 : Int32) (x2 : Int32) (x3 : Int32) : Option ((Nat → Nat → Int32)) :=
  gd (vp_in x1 12) (bs (va_up w 18 (upd (w 18) x1.toNatClampNeg x2)) fun w_1 => gd (vp_in x1 12) (bs (va_up w_1 19 (upd (w_1 19) x1.toNatClampNeg x3)) fun w_2 => some w_2))

set_option maxHeartbeats 4000000 in
set_option maxRecDepth 100000 in
theorem mX3_setMark (l : Launch) (D : va_G) (T : Nat → ClassId) (aP : Nat → Nat) (aQ : Nat → Nat) (v : Nat → Nat → Int32) (w : Nat → Nat → Int32) (x1 : Int32) (x2 : Int32) (x3 : Int32) {wR : Nat → Nat → Int32} (hres : qX3_setMark v w x1 x2 x3 = some (wR)) : Ct l yX3_setMark (Cond.code yX3_setMark cX3_setMark 4 none :: kAll) rmX3_setMark D T [.ref (aQ 9), .int x1, .int x2, .int x3] (gW T aP aQ v w) none (gW T aP aQ v wR) := by
  refine Ct.of (cc := cX3_setMark) (maxL := 4) (ret := none) (by decide +kernel) rfl (Nat.le_of_ble_eq_true rfl) ?_
  intro pr en st mi ag bl me co A ls F hr hlk hnm G hl
  have hl : lv_has ls 4 [(0, .ref (aQ 9)), (1, .int x1), (2, .int x2), (3, .int x3)] := hl
  have h := hres
  unfold qX3_setMark at h
  refine lv_aload_n F.1 F.2.1 dX3_setMark_0 rfl (lv_at hl 0 rfl) ?_
  refine k_get F G 18 rfl (N := 7) (Tt := TX3) rfl kf3 1 (by decide) kl18 (v := .ref (aQ 10)) rfl dX3_setMark_1 ?_
  refine lv_iload_n F.1 F.2.1 dX3_setMark_4 rfl (lv_at hl 1 rfl) ?_
  refine lv_iload_n F.1 F.2.1 dX3_setMark_5 rfl (lv_at hl 2 rfl) ?_
  obtain ⟨c, h⟩ := op_g h
  obtain ⟨w_1, e9, h⟩ := op_st h
  refine k_iast F G 19 rfl c dX3_setMark_6 (Wn := (gW T aP aQ v w_1)) (by subst e9; rfl) (fun H locs G => ?_)
  clear e9
  refine lv_aload_n F.1 F.2.1 dX3_setMark_7 rfl (lv_at hl 0 rfl) ?_
  refine k_get F G 18 rfl (N := 7) (Tt := TX3) rfl kf3 2 (by decide) kl19 (v := .ref (aQ 11)) rfl dX3_setMark_8 ?_
  refine lv_iload_n F.1 F.2.1 dX3_setMark_11 rfl (lv_at hl 1 rfl) ?_
  refine lv_iload_n F.1 F.2.1 dX3_setMark_12 rfl (lv_at hl 3 rfl) ?_
  obtain ⟨c, h⟩ := op_g h
  obtain ⟨w_2, e9, h⟩ := op_st h
  refine k_iast F G 20 rfl c dX3_setMark_13 (Wn := (gW T aP aQ v w_2)) (by subst e9; rfl) (fun H locs G => ?_)
  clear e9
  obtain rfl := op_1 h
  exact k_vret F hr hlk G dX3_setMark_14
abbrev rmX3_hearAsk : Room := ({ frames := 1, cells := 0, slots := 0, locals := 23 } : Room)
noncomputable def qX3_hearAsk (v : Nat → Nat → Int32) (w : Nat → Nat → Int32) (x1 : Int32) (x2 : Int32) : Option ((Nat → Nat → Int32)) :=
  gd (vp_in x1 12) ((jn (fun (_ : Unit) => bd (qX3_setMark v w x1 1 x2) fun w_1 => some w_1) fun j19 => if ((w 18) x1.toNatClampNeg) = 0 then (j19 ()) else gd (vp_in x1 12) (if ((w 18) x1.toNatClampNeg) = 3 then (j19 ()) else some w)))

set_option maxHeartbeats 4000000 in
set_option maxRecDepth 100000 in
theorem mX3_hearAsk (l : Launch) (D : va_G) (T : Nat → ClassId) (aP : Nat → Nat) (aQ : Nat → Nat) (v : Nat → Nat → Int32) (w : Nat → Nat → Int32) (x1 : Int32) (x2 : Int32) {wR : Nat → Nat → Int32} (hres : qX3_hearAsk v w x1 x2 = some (wR)) : Ct l yX3_hearAsk (Cond.code yX3_hearAsk cX3_hearAsk 3 none :: kAll) rmX3_hearAsk D T [.ref (aQ 9), .int x1, .int x2] (gW T aP aQ v w) none (gW T aP aQ v wR) := by
  refine Ct.of (cc := cX3_hearAsk) (maxL := 3) (ret := none) (by decide +kernel) rfl (Nat.le_of_ble_eq_true rfl) ?_
  intro pr en st mi ag bl me co A ls F hr hlk hnm G hl
  have hl : lv_has ls 3 [(0, .ref (aQ 9)), (1, .int x1), (2, .int x2)] := hl
  have h := hres
  unfold qX3_hearAsk at h
  refine lv_aload_n F.1 F.2.1 dX3_hearAsk_0 rfl (lv_at hl 0 rfl) ?_
  refine k_get F G 18 rfl (N := 7) (Tt := TX3) rfl kf3 1 (by decide) kl18 (v := .ref (aQ 10)) rfl dX3_hearAsk_1 ?_
  refine lv_iload_n F.1 F.2.1 dX3_hearAsk_4 rfl (lv_at hl 1 rfl) ?_
  obtain ⟨c, h⟩ := op_g h
  refine k_iald F G 19 rfl c dX3_hearAsk_5 ?_
  obtain ⟨j19, hj19, h⟩ := op_j h
  have J19 : ∀ (H : Heap) (locs : List Loc) (ls : Array Slot), j19 () = some (wR) → Rg D T A st (gW T aP aQ v w) H locs → lv_has ls 3 [(0, .ref (aQ 9)), (1, .int x1), (2, .int x2)] → W pr l en rmX3_hearAsk st mi ag bl me co H locs 0 0 (MQ bl (kQ none D (gW T aP aQ v wR) A) ag st rmX3_hearAsk.cells rmX3_hearAsk.slots A) (F0 mi 19 ls []) := by
    intro H locs ls h G hl
    rw [hj19] at h
    refine lv_aload_n F.1 F.2.1 dX3_hearAsk_19 rfl (lv_at hl 0 rfl) ?_
    refine lv_iload_n F.1 F.2.1 dX3_hearAsk_20 rfl (lv_at hl 1 rfl) ?_
    refine lv_iconst (v := 1) F.1 F.2.1 dX3_hearAsk_21 (by decide) ?_
    refine lv_iload_n F.1 F.2.1 dX3_hearAsk_22 rfl (lv_at hl 2 rfl) ?_
    obtain ⟨w_1, hc, h⟩ := op_b h
    refine k_callV (rv := none) (Wc := (gW T aP aQ v w)) (W2 := (gW T aP aQ v w_1)) (Wn := (gW T aP aQ v w_1)) (As := [.int x1, .int 1, .int x2]) (rest := []) F G (mX3_setMark l D T aP aQ v w x1 1 x2 hc) (cwV 3 F.2.2.2.2 (kg_c kl180 (kg_c kl181 (kg_c kl182 (kg_c kl46 (kg_c kl178 kg_a))))) rfl rfl rfl (by decide +kernel) ⟨Nat.le_of_ble_eq_true rfl, Nat.le_of_ble_eq_true rfl⟩) 18 rfl (q := (RX3, TX3, 7)) rfl rfl (kCut_F G) rfl hl.1 rfl (Nat.le_of_ble_eq_true rfl) dX3_hearAsk_23 ⟨Nat.le_of_ble_eq_true rfl, Nat.le_of_ble_eq_true rfl⟩ (cN := 0) (sN := 0) ⟨rfl, rfl⟩ (fun H locs G => ?_)
    obtain rfl := op_1 h
    exact k_vret F hr hlk G dX3_hearAsk_26
  clear hj19
  refine lv_if_eq (tgt := 19) F.1 F.2.1 dX3_hearAsk_6 (by decide) (fun c => ?_) (fun c => ?_)
  · have h := op_t h c
    exact J19 _ _ _ h G hl
  · have h := op_f h c
    refine lv_aload_n F.1 F.2.1 dX3_hearAsk_9 rfl (lv_at hl 0 rfl) ?_
    refine k_get F G 18 rfl (N := 7) (Tt := TX3) rfl kf3 1 (by decide) kl18 (v := .ref (aQ 10)) rfl dX3_hearAsk_10 ?_
    refine lv_iload_n F.1 F.2.1 dX3_hearAsk_13 rfl (lv_at hl 1 rfl) ?_
    obtain ⟨c, h⟩ := op_g h
    refine k_iald F G 19 rfl c dX3_hearAsk_14 ?_
    refine lv_iconst (v := 3) F.1 F.2.1 dX3_hearAsk_15 (by decide) ?_
    refine lv_icmp_ne (tgt := 26) F.1 F.2.1 dX3_hearAsk_16 (by decide) (fun c => ?_) (fun c => ?_)
    · have h := op_f h c
      obtain rfl := op_1 h
      exact k_vret F hr hlk G dX3_hearAsk_26
    · have h := op_t h c
      exact J19 _ _ _ h G hl
abbrev rmX3_hearRuns : Room := ({ frames := 1, cells := 0, slots := 0, locals := 23 } : Room)
noncomputable def qX3_hearRuns (v : Nat → Nat → Int32) (w : Nat → Nat → Int32) (x1 : Int32) (x2 : Int32) : Option ((Nat → Nat → Int32)) :=
  bd (qX3_setMark v w x1 3 x2) fun w_1 => gd (vp_in x1 12) (gd (vp_in x1 12) (bs (va_up w_1 20 (upd (w_1 20) x1.toNatClampNeg ((v 11) x1.toNatClampNeg))) fun w_2 => (bs (va_up w_2 21 (fun _ => ((w_2 21 0) ||| (1 <<< (x1 &&& 31))))) fun w_3 => bd (qX1_addOnce v w_3 x1) fun w_4 => some w_4)))

set_option maxHeartbeats 4000000 in
set_option maxRecDepth 100000 in
theorem mX3_hearRuns (l : Launch) (D : va_G) (T : Nat → ClassId) (aP : Nat → Nat) (aQ : Nat → Nat) (v : Nat → Nat → Int32) (w : Nat → Nat → Int32) (x1 : Int32) (x2 : Int32) {wR : Nat → Nat → Int32} (hres : qX3_hearRuns v w x1 x2 = some (wR)) : Ct l yX3_hearRuns (Cond.code yX3_hearRuns cX3_hearRuns 3 none :: kAll) rmX3_hearRuns D T [.ref (aQ 9), .int x1, .int x2] (gW T aP aQ v w) none (gW T aP aQ v wR) := by
  refine Ct.of (cc := cX3_hearRuns) (maxL := 3) (ret := none) (by decide +kernel) rfl (Nat.le_of_ble_eq_true rfl) ?_
  intro pr en st mi ag bl me co A ls F hr hlk hnm G hl
  have hl : lv_has ls 3 [(0, .ref (aQ 9)), (1, .int x1), (2, .int x2)] := hl
  have h := hres
  unfold qX3_hearRuns at h
  refine lv_aload_n F.1 F.2.1 dX3_hearRuns_0 rfl (lv_at hl 0 rfl) ?_
  refine lv_iload_n F.1 F.2.1 dX3_hearRuns_1 rfl (lv_at hl 1 rfl) ?_
  refine lv_iconst (v := 3) F.1 F.2.1 dX3_hearRuns_2 (by decide) ?_
  refine lv_iload_n F.1 F.2.1 dX3_hearRuns_3 rfl (lv_at hl 2 rfl) ?_
  obtain ⟨w_1, hc, h⟩ := op_b h
  refine k_callV (rv := none) (Wc := (gW T aP aQ v w)) (W2 := (gW T aP aQ v w_1)) (Wn := (gW T aP aQ v w_1)) (As := [.int x1, .int 3, .int x2]) (rest := []) F G (mX3_setMark l D T aP aQ v w x1 3 x2 hc) (cwV 3 F.2.2.2.2 (kg_c kl180 (kg_c kl181 (kg_c kl182 (kg_c kl46 (kg_c kl178 kg_a))))) rfl rfl rfl (by decide +kernel) ⟨Nat.le_of_ble_eq_true rfl, Nat.le_of_ble_eq_true rfl⟩) 18 rfl (q := (RX3, TX3, 7)) rfl rfl (kCut_F G) rfl hl.1 rfl (Nat.le_of_ble_eq_true rfl) dX3_hearRuns_4 ⟨Nat.le_of_ble_eq_true rfl, Nat.le_of_ble_eq_true rfl⟩ (cN := 0) (sN := 0) ⟨rfl, rfl⟩ (fun H locs G => ?_)
  refine lv_aload_n F.1 F.2.1 dX3_hearRuns_7 rfl (lv_at hl 0 rfl) ?_
  refine k_get F G 18 rfl (N := 7) (Tt := TX3) rfl kf3 3 (by decide) kl20 (v := .ref (aQ 12)) rfl dX3_hearRuns_8 ?_
  refine lv_iload_n F.1 F.2.1 dX3_hearRuns_11 rfl (lv_at hl 1 rfl) ?_
  refine lv_aload_n F.1 F.2.1 dX3_hearRuns_12 rfl (lv_at hl 0 rfl) ?_
  refine k_get F G 18 rfl (N := 7) (Tt := TX3) rfl kf3 0 (by decide) kl26 (v := .ref (aP 0)) rfl dX3_hearRuns_13 ?_
  refine k_get F G 0 rfl (N := 18) (Tt := TX5) rfl kf5 4 (by decide) kl184 (v := .ref (aP 3)) rfl dX3_hearRuns_16 ?_
  refine lv_iload_n F.1 F.2.1 dX3_hearRuns_19 rfl (lv_at hl 1 rfl) ?_
  obtain ⟨c, h⟩ := op_g h
  refine k_iald F G 3 rfl c dX3_hearRuns_20 ?_
  obtain ⟨c, h⟩ := op_g h
  obtain ⟨w_2, e9, h⟩ := op_st h
  refine k_iast F G 21 rfl c dX3_hearRuns_21 (Wn := (gW T aP aQ v w_2)) (by subst e9; rfl) (fun H locs G => ?_)
  clear e9
  refine lv_aload_n F.1 F.2.1 dX3_hearRuns_22 rfl (lv_at hl 0 rfl) ?_
  refine lv_dup F.1 F.2.1 dX3_hearRuns_23 rfl ?_
  refine k_get F G 18 rfl (N := 7) (Tt := TX3) rfl kf3 4 (by decide) kl84 (v := .int (w_2 21 0)) rfl dX3_hearRuns_24 ?_
  refine lv_iconst (v := 1) F.1 F.2.1 dX3_hearRuns_27 (by decide) ?_
  refine lv_iload_n F.1 F.2.1 dX3_hearRuns_28 rfl (lv_at hl 1 rfl) ?_
  refine lv_ishl F.1 F.2.1 dX3_hearRuns_29 ?_
  refine lv_ior F.1 F.2.1 dX3_hearRuns_30 ?_
  obtain ⟨w_3, e9, h⟩ := op_st h
  refine k_put F G 18 rfl (N := 7) (Tt := TX3) rfl kf3 tyX3_ok nmX3 4 (by decide) kl84 rfl (v := .int ((w_2 21 0) ||| (1 <<< (x1 &&& 31)))) rfl rfl (Nat.le_of_ble_eq_true rfl) dX3_hearRuns_31 (Wn := (gW T aP aQ v w_3)) (by subst e9; rfl) (fun H locs G => ?_)
  clear e9
  refine lv_aload_n F.1 F.2.1 dX3_hearRuns_34 rfl (lv_at hl 0 rfl) ?_
  refine k_get F G 18 rfl (N := 7) (Tt := TX3) rfl kf3 6 (by decide) kl25 (v := .ref (aQ 16)) rfl dX3_hearRuns_35 ?_
  refine lv_iload_n F.1 F.2.1 dX3_hearRuns_38 rfl (lv_at hl 1 rfl) ?_
  obtain ⟨w_4, hc, h⟩ := op_b h
  refine k_callV (rv := none) (Wc := (gW T aP aQ v w_3)) (W2 := (gW T aP aQ v w_4)) (Wn := (gW T aP aQ v w_4)) (As := [.int x1]) (rest := []) F G (mX1_addOnce l D T aP aQ v w_3 x1 hc) (cwV 1 F.2.2.2.2 (kg_c kl185 (kg_c kl186 (kg_c kl187 (kg_c kl23 (kg_c kl131 kg_a))))) rfl rfl rfl (by decide +kernel) ⟨Nat.le_of_ble_eq_true rfl, Nat.le_of_ble_eq_true rfl⟩) 25 rfl (q := (RX1, TX1, 3)) rfl rfl (kCut_F G) rfl hl.1 rfl (Nat.le_of_ble_eq_true rfl) dX3_hearRuns_39 ⟨Nat.le_of_ble_eq_true rfl, Nat.le_of_ble_eq_true rfl⟩ (cN := 0) (sN := 0) ⟨rfl, rfl⟩ (fun H locs G => ?_)
  obtain rfl := op_1 h
  exact k_vret F hr hlk G dX3_hearRuns_42
abbrev rmX3_hearState : Room := ({ frames := 2, cells := 0, slots := 0, locals := 45 } : Room)
noncomputable def qX3_hearState (v : Nat → Nat → Int32) (w : Nat → Nat → Int32) (x1 : Int32) (x2 : Int32) (x3 : Int32) : Option ((Nat → Nat → Int32)) :=
  gd (vp_in x1 12) ((jn (fun (_ : Unit) => if x2 = 0 then bd (qX3_setMark v w x1 0 x3) fun w_4 => some w_4 else if x2 = 1 then bd (qX3_setMark v w x1 1 x3) fun w_3 => some w_3 else if x2 = 3 then bd (qX3_hearRuns v w x1 x3) fun w_2 => some w_2 else gd (vp_in x1 12) (bs (va_up w 19 (upd (w 19) x1.toNatClampNeg x3)) fun w_1 => some w_1)) fun j23 => if ((w 18) x1.toNatClampNeg) = 2 then gd (vp_in x1 12) (if ((w 19) x1.toNatClampNeg) = (x3 - 1) then some w else (j23 ())) else (j23 ())))

set_option maxHeartbeats 4000000 in
set_option maxRecDepth 100000 in
theorem mX3_hearState (l : Launch) (D : va_G) (T : Nat → ClassId) (aP : Nat → Nat) (aQ : Nat → Nat) (v : Nat → Nat → Int32) (w : Nat → Nat → Int32) (x1 : Int32) (x2 : Int32) (x3 : Int32) {wR : Nat → Nat → Int32} (hres : qX3_hearState v w x1 x2 x3 = some (wR)) : Ct l yX3_hearState (Cond.code yX3_hearState cX3_hearState 4 none :: kAll) rmX3_hearState D T [.ref (aQ 9), .int x1, .int x2, .int x3] (gW T aP aQ v w) none (gW T aP aQ v wR) := by
  refine Ct.of (cc := cX3_hearState) (maxL := 4) (ret := none) (by decide +kernel) rfl (Nat.le_of_ble_eq_true rfl) ?_
  intro pr en st mi ag bl me co A ls F hr hlk hnm G hl
  have hl : lv_has ls 4 [(0, .ref (aQ 9)), (1, .int x1), (2, .int x2), (3, .int x3)] := hl
  have h := hres
  unfold qX3_hearState at h
  refine lv_aload_n F.1 F.2.1 dX3_hearState_0 rfl (lv_at hl 0 rfl) ?_
  refine k_get F G 18 rfl (N := 7) (Tt := TX3) rfl kf3 1 (by decide) kl18 (v := .ref (aQ 10)) rfl dX3_hearState_1 ?_
  refine lv_iload_n F.1 F.2.1 dX3_hearState_4 rfl (lv_at hl 1 rfl) ?_
  obtain ⟨c, h⟩ := op_g h
  refine k_iald F G 19 rfl c dX3_hearState_5 ?_
  refine lv_iconst (v := 2) F.1 F.2.1 dX3_hearState_6 (by decide) ?_
  obtain ⟨j23, hj23, h⟩ := op_j h
  have J23 : ∀ (H : Heap) (locs : List Loc) (ls : Array Slot), j23 () = some (wR) → Rg D T A st (gW T aP aQ v w) H locs → lv_has ls 4 [(0, .ref (aQ 9)), (1, .int x1), (2, .int x2), (3, .int x3)] → W pr l en rmX3_hearState st mi ag bl me co H locs 0 0 (MQ bl (kQ none D (gW T aP aQ v wR) A) ag st rmX3_hearState.cells rmX3_hearState.slots A) (F0 mi 23 ls []) := by
    intro H locs ls h G hl
    rw [hj23] at h
    refine lv_iload_n F.1 F.2.1 dX3_hearState_23 rfl (lv_at hl 2 rfl) ?_
    refine lv_if_ne (tgt := 37) F.1 F.2.1 dX3_hearState_24 (by decide) (fun c => ?_) (fun c => ?_)
    · have h := op_f h c
      refine lv_iload_n F.1 F.2.1 dX3_hearState_37 rfl (lv_at hl 2 rfl) ?_
      refine lv_iconst (v := 1) F.1 F.2.1 dX3_hearState_38 (by decide) ?_
      refine lv_icmp_ne (tgt := 52) F.1 F.2.1 dX3_hearState_39 (by decide) (fun c => ?_) (fun c => ?_)
      · have h := op_f h c
        refine lv_iload_n F.1 F.2.1 dX3_hearState_52 rfl (lv_at hl 2 rfl) ?_
        refine lv_iconst (v := 3) F.1 F.2.1 dX3_hearState_53 (by decide) ?_
        refine lv_icmp_ne (tgt := 66) F.1 F.2.1 dX3_hearState_54 (by decide) (fun c => ?_) (fun c => ?_)
        · have h := op_f h c
          refine lv_aload_n F.1 F.2.1 dX3_hearState_66 rfl (lv_at hl 0 rfl) ?_
          refine k_get F G 18 rfl (N := 7) (Tt := TX3) rfl kf3 2 (by decide) kl19 (v := .ref (aQ 11)) rfl dX3_hearState_67 ?_
          refine lv_iload_n F.1 F.2.1 dX3_hearState_70 rfl (lv_at hl 1 rfl) ?_
          refine lv_iload_n F.1 F.2.1 dX3_hearState_71 rfl (lv_at hl 3 rfl) ?_
          obtain ⟨c, h⟩ := op_g h
          obtain ⟨w_1, e9, h⟩ := op_st h
          refine k_iast F G 20 rfl c dX3_hearState_72 (Wn := (gW T aP aQ v w_1)) (by subst e9; rfl) (fun H locs G => ?_)
          clear e9
          obtain rfl := op_1 h
          exact k_vret F hr hlk G dX3_hearState_73
        · have h := op_t h c
          refine lv_aload_n F.1 F.2.1 dX3_hearState_57 rfl (lv_at hl 0 rfl) ?_
          refine lv_iload_n F.1 F.2.1 dX3_hearState_58 rfl (lv_at hl 1 rfl) ?_
          refine lv_iload_n F.1 F.2.1 dX3_hearState_59 rfl (lv_at hl 3 rfl) ?_
          obtain ⟨w_2, hc, h⟩ := op_b h
          refine k_callV (rv := none) (Wc := (gW T aP aQ v w)) (W2 := (gW T aP aQ v w_2)) (Wn := (gW T aP aQ v w_2)) (As := [.int x1, .int x3]) (rest := []) F G (mX3_hearRuns l D T aP aQ v w x1 x3 hc) (cwV 2 F.2.2.2.2 (kg_c kl189 (kg_c kl190 (kg_c kl191 (kg_c kl46 (kg_c kl183 kg_a))))) rfl rfl rfl (by decide +kernel) ⟨Nat.le_of_ble_eq_true rfl, Nat.le_of_ble_eq_true rfl⟩) 18 rfl (q := (RX3, TX3, 7)) rfl rfl (kCut_F G) rfl hl.1 rfl (Nat.le_of_ble_eq_true rfl) dX3_hearState_60 ⟨Nat.le_of_ble_eq_true rfl, Nat.le_of_ble_eq_true rfl⟩ (cN := 0) (sN := 0) ⟨rfl, rfl⟩ (fun H locs G => ?_)
          refine lv_goto (tgt := 73) F.1 F.2.1 dX3_hearState_63 (by decide) ?_
          obtain rfl := op_1 h
          exact k_vret F hr hlk G dX3_hearState_73
      · have h := op_t h c
        refine lv_aload_n F.1 F.2.1 dX3_hearState_42 rfl (lv_at hl 0 rfl) ?_
        refine lv_iload_n F.1 F.2.1 dX3_hearState_43 rfl (lv_at hl 1 rfl) ?_
        refine lv_iconst (v := 1) F.1 F.2.1 dX3_hearState_44 (by decide) ?_
        refine lv_iload_n F.1 F.2.1 dX3_hearState_45 rfl (lv_at hl 3 rfl) ?_
        obtain ⟨w_3, hc, h⟩ := op_b h
        refine k_callV (rv := none) (Wc := (gW T aP aQ v w)) (W2 := (gW T aP aQ v w_3)) (Wn := (gW T aP aQ v w_3)) (As := [.int x1, .int 1, .int x3]) (rest := []) F G (mX3_setMark l D T aP aQ v w x1 1 x3 hc) (cwV 3 F.2.2.2.2 (kg_c kl180 (kg_c kl181 (kg_c kl182 (kg_c kl46 (kg_c kl178 kg_a))))) rfl rfl rfl (by decide +kernel) ⟨Nat.le_of_ble_eq_true rfl, Nat.le_of_ble_eq_true rfl⟩) 18 rfl (q := (RX3, TX3, 7)) rfl rfl (kCut_F G) rfl hl.1 rfl (Nat.le_of_ble_eq_true rfl) dX3_hearState_46 ⟨Nat.le_of_ble_eq_true rfl, Nat.le_of_ble_eq_true rfl⟩ (cN := 0) (sN := 0) ⟨rfl, rfl⟩ (fun H locs G => ?_)
        refine lv_goto (tgt := 73) F.1 F.2.1 dX3_hearState_49 (by decide) ?_
        obtain rfl := op_1 h
        exact k_vret F hr hlk G dX3_hearState_73
    · have h := op_t h c
      refine lv_aload_n F.1 F.2.1 dX3_hearState_27 rfl (lv_at hl 0 rfl) ?_
      refine lv_iload_n F.1 F.2.1 dX3_hearState_28 rfl (lv_at hl 1 rfl) ?_
      refine lv_iconst (v := 0) F.1 F.2.1 dX3_hearState_29 (by decide) ?_
      refine lv_iload_n F.1 F.2.1 dX3_hearState_30 rfl (lv_at hl 3 rfl) ?_
      obtain ⟨w_4, hc, h⟩ := op_b h
      refine k_callV (rv := none) (Wc := (gW T aP aQ v w)) (W2 := (gW T aP aQ v w_4)) (Wn := (gW T aP aQ v w_4)) (As := [.int x1, .int 0, .int x3]) (rest := []) F G (mX3_setMark l D T aP aQ v w x1 0 x3 hc) (cwV 3 F.2.2.2.2 (kg_c kl180 (kg_c kl181 (kg_c kl182 (kg_c kl46 (kg_c kl178 kg_a))))) rfl rfl rfl (by decide +kernel) ⟨Nat.le_of_ble_eq_true rfl, Nat.le_of_ble_eq_true rfl⟩) 18 rfl (q := (RX3, TX3, 7)) rfl rfl (kCut_F G) rfl hl.1 rfl (Nat.le_of_ble_eq_true rfl) dX3_hearState_31 ⟨Nat.le_of_ble_eq_true rfl, Nat.le_of_ble_eq_true rfl⟩ (cN := 0) (sN := 0) ⟨rfl, rfl⟩ (fun H locs G => ?_)
      refine lv_goto (tgt := 73) F.1 F.2.1 dX3_hearState_34 (by decide) ?_
      obtain rfl := op_1 h
      exact k_vret F hr hlk G dX3_hearState_73
  clear hj23
  refine lv_icmp_ne (tgt := 23) F.1 F.2.1 dX3_hearState_7 (by decide) (fun c => ?_) (fun c => ?_)
  · have h := op_f h c
    exact J23 _ _ _ h G hl
  · have h := op_t h c
    refine lv_aload_n F.1 F.2.1 dX3_hearState_10 rfl (lv_at hl 0 rfl) ?_
    refine k_get F G 18 rfl (N := 7) (Tt := TX3) rfl kf3 2 (by decide) kl19 (v := .ref (aQ 11)) rfl dX3_hearState_11 ?_
    refine lv_iload_n F.1 F.2.1 dX3_hearState_14 rfl (lv_at hl 1 rfl) ?_
    obtain ⟨c, h⟩ := op_g h
    refine k_iald F G 20 rfl c dX3_hearState_15 ?_
    refine lv_iload_n F.1 F.2.1 dX3_hearState_16 rfl (lv_at hl 3 rfl) ?_
    refine lv_iconst (v := 1) F.1 F.2.1 dX3_hearState_17 (by decide) ?_
    refine lv_isub F.1 F.2.1 dX3_hearState_18 ?_
    refine lv_icmp_ne (tgt := 23) F.1 F.2.1 dX3_hearState_19 (by decide) (fun c => ?_) (fun c => ?_)
    · have h := op_f h c
      exact J23 _ _ _ h G hl
    · have h := op_t h c
      obtain rfl := op_1 h
      exact k_vret F hr hlk G dX3_hearState_22
abbrev rmX3_isDueToPoll : Room := ({ frames := 0, cells := 0, slots := 0, locals := 0 } : Room)
noncomputable def qX3_isDueToPoll (v : Nat → Nat → Int32) (w : Nat → Nat → Int32) (x1 : Int32) (x2 : Int32) : Option (Int32) :=
  gd (vp_in x1 12) (gd (vp_in x1 12) ((jn (fun (_ : Unit) => gd (vp_in x1 12) (if ((w 18) x1.toNatClampNeg) = 3 then if (x2 - ((w 19) x1.toNatClampNeg)) < (5 * (v 4 0)) then some 0 else some 1 else some 0)) fun j30 => if ((w 18) x1.toNatClampNeg) = 2 then if (v 4 0) ≤ (x2 - ((w 19) x1.toNatClampNeg)) then some 1 else (j30 ()) else (j30 ()))))

set_option maxHeartbeats 4000000 in
set_option maxRecDepth 100000 in
theorem mX3_isDueToPoll (l : Launch) (D : va_G) (T : Nat → ClassId) (aP : Nat → Nat) (aQ : Nat → Nat) (v : Nat → Nat → Int32) (w : Nat → Nat → Int32) (x1 : Int32) (x2 : Int32) {rR : Int32} (hres : qX3_isDueToPoll v w x1 x2 = some (rR)) : Ct l yX3_isDueToPoll (Cond.code yX3_isDueToPoll cX3_isDueToPoll 4 (some .boolean) :: kAll) rmX3_isDueToPoll D T [.ref (aQ 9), .int x1, .int x2] (gW T aP aQ v w) (some (.int rR)) (gW T aP aQ v w) := by
  refine Ct.of (cc := cX3_isDueToPoll) (maxL := 4) (ret := (some .boolean)) (by decide +kernel) rfl (Nat.le_of_ble_eq_true rfl) ?_
  intro pr en st mi ag bl me co A ls F hr hlk hnm G hl
  have hl : lv_has ls 4 [(0, .ref (aQ 9)), (1, .int x1), (2, .int x2)] := hl
  have h := hres
  unfold qX3_isDueToPoll at h
  refine lv_iload_n F.1 F.2.1 dX3_isDueToPoll_0 rfl (lv_at hl 2 rfl) ?_
  refine lv_aload_n F.1 F.2.1 dX3_isDueToPoll_1 rfl (lv_at hl 0 rfl) ?_
  refine k_get F G 18 rfl (N := 7) (Tt := TX3) rfl kf3 2 (by decide) kl19 (v := .ref (aQ 11)) rfl dX3_isDueToPoll_2 ?_
  refine lv_iload_n F.1 F.2.1 dX3_isDueToPoll_5 rfl (lv_at hl 1 rfl) ?_
  obtain ⟨c, h⟩ := op_g h
  refine k_iald F G 20 rfl c dX3_isDueToPoll_6 ?_
  refine lv_isub F.1 F.2.1 dX3_isDueToPoll_7 ?_
  refine lv_istore_n (lv' := [(3, .int (x2 - ((w 19) x1.toNatClampNeg))), (0, .ref (aQ 9)), (1, .int x1), (2, .int x2)]) F.1 F.2.1 dX3_isDueToPoll_8 rfl hl (by decide) rfl (fun ls hl => ?_)
  refine lv_aload_n F.1 F.2.1 dX3_isDueToPoll_9 rfl (lv_at hl 1 rfl) ?_
  refine k_get F G 18 rfl (N := 7) (Tt := TX3) rfl kf3 1 (by decide) kl18 (v := .ref (aQ 10)) rfl dX3_isDueToPoll_10 ?_
  refine lv_iload_n F.1 F.2.1 dX3_isDueToPoll_13 rfl (lv_at hl 2 rfl) ?_
  obtain ⟨c, h⟩ := op_g h
  refine k_iald F G 19 rfl c dX3_isDueToPoll_14 ?_
  refine lv_iconst (v := 2) F.1 F.2.1 dX3_isDueToPoll_15 (by decide) ?_
  obtain ⟨j30, hj30, h⟩ := op_j h
  have J30 : ∀ (H : Heap) (locs : List Loc) (ls : Array Slot), j30 () = some (rR) → Rg D T A st (gW T aP aQ v w) H locs → lv_has ls 4 [(0, .ref (aQ 9)), (1, .int x1), (3, .int (x2 - ((w 19) x1.toNatClampNeg)))] → W pr l en rmX3_isDueToPoll st mi ag bl me co H locs 0 0 (MQ bl (kQ (some (.int rR)) D (gW T aP aQ v w) A) ag st rmX3_isDueToPoll.cells rmX3_isDueToPoll.slots A) (F0 mi 30 ls []) := by
    intro H locs ls h G hl
    rw [hj30] at h
    refine lv_aload_n F.1 F.2.1 dX3_isDueToPoll_30 rfl (lv_at hl 0 rfl) ?_
    refine k_get F G 18 rfl (N := 7) (Tt := TX3) rfl kf3 1 (by decide) kl18 (v := .ref (aQ 10)) rfl dX3_isDueToPoll_31 ?_
    refine lv_iload_n F.1 F.2.1 dX3_isDueToPoll_34 rfl (lv_at hl 1 rfl) ?_
    obtain ⟨c, h⟩ := op_g h
    refine k_iald F G 19 rfl c dX3_isDueToPoll_35 ?_
    refine lv_iconst (v := 3) F.1 F.2.1 dX3_isDueToPoll_36 (by decide) ?_
    refine lv_icmp_ne (tgt := 57) F.1 F.2.1 dX3_isDueToPoll_37 (by decide) (fun c => ?_) (fun c => ?_)
    · have h := op_f h c
      refine lv_iconst (v := 0) F.1 F.2.1 dX3_isDueToPoll_57 (by decide) ?_
      obtain rfl := op_1 h
      exact k_zret F hr rfl hlk G dX3_isDueToPoll_58
    · have h := op_t h c
      refine lv_iload_n F.1 F.2.1 dX3_isDueToPoll_40 rfl (lv_at hl 2 rfl) ?_
      refine lv_iconst (v := 5) F.1 F.2.1 dX3_isDueToPoll_41 (by decide) ?_
      refine lv_aload_n F.1 F.2.1 dX3_isDueToPoll_42 rfl (lv_at hl 0 rfl) ?_
      refine k_get F G 18 rfl (N := 7) (Tt := TX3) rfl kf3 0 (by decide) kl26 (v := .ref (aP 0)) rfl dX3_isDueToPoll_43 ?_
      refine k_get F G 0 rfl (N := 18) (Tt := TX5) rfl kf5 11 (by decide) kl193 (v := .int (v 4 0)) rfl dX3_isDueToPoll_46 ?_
      refine lv_imul F.1 F.2.1 dX3_isDueToPoll_49 ?_
      refine lv_icmp_lt (tgt := 57) F.1 F.2.1 dX3_isDueToPoll_50 (by decide) (fun c => ?_) (fun c => ?_)
      · have h := op_t h c
        refine lv_iconst (v := 0) F.1 F.2.1 dX3_isDueToPoll_57 (by decide) ?_
        obtain rfl := op_1 h
        exact k_zret F hr rfl hlk G dX3_isDueToPoll_58
      · have h := op_f h c
        refine lv_iconst (v := 1) F.1 F.2.1 dX3_isDueToPoll_53 (by decide) ?_
        refine lv_goto (tgt := 58) F.1 F.2.1 dX3_isDueToPoll_54 (by decide) ?_
        obtain rfl := op_1 h
        exact k_zret F hr rfl hlk G dX3_isDueToPoll_58
  clear hj30
  refine lv_icmp_ne (tgt := 30) F.1 F.2.1 dX3_isDueToPoll_16 (by decide) (fun c => ?_) (fun c => ?_)
  · have h := op_f h c
    exact J30 _ _ _ h G (lv_sub hl [1, 2, 0] rfl)
  · have h := op_t h c
    refine lv_iload_n F.1 F.2.1 dX3_isDueToPoll_19 rfl (lv_at hl 0 rfl) ?_
    refine lv_aload_n F.1 F.2.1 dX3_isDueToPoll_20 rfl (lv_at hl 1 rfl) ?_
    refine k_get F G 18 rfl (N := 7) (Tt := TX3) rfl kf3 0 (by decide) kl26 (v := .ref (aP 0)) rfl dX3_isDueToPoll_21 ?_
    refine k_get F G 0 rfl (N := 18) (Tt := TX5) rfl kf5 11 (by decide) kl193 (v := .int (v 4 0)) rfl dX3_isDueToPoll_24 ?_
    refine lv_icmp_ge (tgt := 53) F.1 F.2.1 dX3_isDueToPoll_27 (by decide) (fun c => ?_) (fun c => ?_)
    · have h := op_t h c
      refine lv_iconst (v := 1) F.1 F.2.1 dX3_isDueToPoll_53 (by decide) ?_
      refine lv_goto (tgt := 58) F.1 F.2.1 dX3_isDueToPoll_54 (by decide) ?_
      obtain rfl := op_1 h
      exact k_zret F hr rfl hlk G dX3_isDueToPoll_58
    · have h := op_f h c
      exact J30 _ _ _ h G (lv_sub hl [1, 2, 0] rfl)
abbrev rmX3_learnOrder : Room := ({ frames := 3, cells := 0, slots := 0, locals := 62 } : Room)
noncomputable def qX3_learnOrder (v : Nat → Nat → Int32) (w : Nat → Nat → Int32) (x1 : Int32) : Option ((Nat → Nat → Int32)) :=
  if x1 = 0 then some w else bd (qX3_markedWith v w 3) fun r_1 => if (x1 &&& (r_1 ^^^ (-1))) = 0 then bd (qX1_copyFrom_lp v w) fun w_2 => some w_2 else some w

set_option maxHeartbeats 4000000 in
set_option maxRecDepth 100000 in
theorem mX3_learnOrder (l : Launch) (D : va_G) (T : Nat → ClassId) (aP : Nat → Nat) (aQ : Nat → Nat) (v : Nat → Nat → Int32) (w : Nat → Nat → Int32) (x1 : Int32) {wR : Nat → Nat → Int32} (hres : qX3_learnOrder v w x1 = some (wR)) : Ct l yX3_learnOrder (Cond.code yX3_learnOrder cX3_learnOrder 2 none :: kAll) rmX3_learnOrder D T [.ref (aQ 9), .int x1] (gW T aP aQ v w) none (gW T aP aQ v wR) := by
  refine Ct.of (cc := cX3_learnOrder) (maxL := 2) (ret := none) (by decide +kernel) rfl (Nat.le_of_ble_eq_true rfl) ?_
  intro pr en st mi ag bl me co A ls F hr hlk hnm G hl
  have hl : lv_has ls 2 [(0, .ref (aQ 9)), (1, .int x1)] := hl
  have h := hres
  unfold qX3_learnOrder at h
  refine lv_iload_n F.1 F.2.1 dX3_learnOrder_0 rfl (lv_at hl 1 rfl) ?_
  refine lv_if_eq (tgt := 27) F.1 F.2.1 dX3_learnOrder_1 (by decide) (fun c => ?_) (fun c => ?_)
  · have h := op_t h c
    obtain rfl := op_1 h
    exact k_vret F hr hlk G dX3_learnOrder_27
  · have h := op_f h c
    refine lv_iload_n F.1 F.2.1 dX3_learnOrder_4 rfl (lv_at hl 1 rfl) ?_
    refine lv_aload_n F.1 F.2.1 dX3_learnOrder_5 rfl (lv_at hl 0 rfl) ?_
    refine lv_iconst (v := 3) F.1 F.2.1 dX3_learnOrder_6 (by decide) ?_
    obtain ⟨r_1, hc, h⟩ := op_b h
    refine k_callV (rv := (some (.int r_1))) (Wc := (gW T aP aQ v w)) (W2 := (gW T aP aQ v w)) (Wn := (gW T aP aQ v w)) (As := [.int 3]) (rest := [.int x1]) F G (mX3_markedWith l D T aP aQ v w 3 hc) (cwV 1 F.2.2.2.2 (kg_c kl195 (kg_c kl196 (kg_c kl197 (kg_c kl46 (kg_c kl177 kg_a))))) rfl rfl rfl (by decide +kernel) ⟨Nat.le_of_ble_eq_true rfl, Nat.le_of_ble_eq_true rfl⟩) 18 rfl (q := (RX3, TX3, 7)) rfl rfl (kCut_F G) rfl hl.1 rfl (Nat.le_of_ble_eq_true rfl) dX3_learnOrder_7 ⟨Nat.le_of_ble_eq_true rfl, Nat.le_of_ble_eq_true rfl⟩ (cN := 0) (sN := 0) ⟨rfl, rfl⟩ (fun H locs G => ?_)
    refine lv_iconst (v := (-1)) F.1 F.2.1 dX3_learnOrder_10 (by decide) ?_
    refine lv_ixor F.1 F.2.1 dX3_learnOrder_11 ?_
    refine lv_iand F.1 F.2.1 dX3_learnOrder_12 ?_
    refine lv_if_ne (tgt := 27) F.1 F.2.1 dX3_learnOrder_13 (by decide) (fun c => ?_) (fun c => ?_)
    · have h := op_f h c
      obtain rfl := op_1 h
      exact k_vret F hr hlk G dX3_learnOrder_27
    · have h := op_t h c
      refine lv_aload_n F.1 F.2.1 dX3_learnOrder_16 rfl (lv_at hl 0 rfl) ?_
      refine k_get F G 18 rfl (N := 7) (Tt := TX3) rfl kf3 5 (by decide) kl24 (v := .ref (aQ 13)) rfl dX3_learnOrder_17 ?_
      refine lv_aload_n F.1 F.2.1 dX3_learnOrder_20 rfl (lv_at hl 0 rfl) ?_
      refine k_get F G 18 rfl (N := 7) (Tt := TX3) rfl kf3 6 (by decide) kl25 (v := .ref (aQ 16)) rfl dX3_learnOrder_21 ?_
      obtain ⟨w_2, hc, h⟩ := op_b h
      refine k_callV (rv := none) (Wc := (gW T aP aQ v w)) (W2 := (gW T aP aQ v w_2)) (Wn := (gW T aP aQ v w_2)) (As := [.ref (aQ 16)]) (rest := []) F G (mX1_copyFrom_lp l D T aP aQ v w hc) (cwV 1 F.2.2.2.2 (kg_c kl85 (kg_c kl86 (kg_c kl87 (kg_c kl23 (kg_c kl81 kg_a))))) rfl rfl rfl (by decide +kernel) ⟨Nat.le_of_ble_eq_true rfl, Nat.le_of_ble_eq_true rfl⟩) 22 rfl (q := (RX1, TX1, 3)) rfl rfl (kCut_F G) rfl hl.1 rfl (Nat.le_of_ble_eq_true rfl) dX3_learnOrder_24 ⟨Nat.le_of_ble_eq_true rfl, Nat.le_of_ble_eq_true rfl⟩ (cN := 0) (sN := 0) ⟨rfl, rfl⟩ (fun H locs G => ?_)
      obtain rfl := op_1 h
      exact k_vret F hr hlk G dX3_learnOrder_27
abbrev rmX8_losesNext : Room := ({ frames := 1, cells := 0, slots := 0, locals := 21 } : Room)
noncomputable def qX8_losesNext (v : Nat → Nat → Int32) (w : Nat → Nat → Int32) : Option (Int32) :=
  if (w 35 0) = 0 then if 1 ≤ (v 7 0) then gd (¬ (v 7 0) = 0) (bd (qX10_isIn (v 6 0) ((w 34 0) - (w 34 0) / (v 7 0) * (v 7 0))) fun r_1 => gd (narrow .boolean (.int r_1) = .int r_1) (some r_1)) else some 0 else some 0

set_option maxHeartbeats 4000000 in
set_option maxRecDepth 100000 in
theorem mX8_losesNext (l : Launch) (D : va_G) (T : Nat → ClassId) (aP : Nat → Nat) (aQ : Nat → Nat) (v : Nat → Nat → Int32) (w : Nat → Nat → Int32) {rR : Int32} (hres : qX8_losesNext v w = some (rR)) : Ct l yX8_losesNext (Cond.code yX8_losesNext cX8_losesNext 1 (some .boolean) :: kAll) rmX8_losesNext D T [.ref (aQ 19)] (gW T aP aQ v w) (some (.int rR)) (gW T aP aQ v w) := by
  refine Ct.of (cc := cX8_losesNext) (maxL := 1) (ret := (some .boolean)) (by decide +kernel) rfl (Nat.le_of_ble_eq_true rfl) ?_
  intro pr en st mi ag bl me co A ls F hr hlk hnm G hl
  have hl : lv_has ls 1 [(0, .ref (aQ 19))] := hl
  have h := hres
  unfold qX8_losesNext at h
  refine lv_aload_n F.1 F.2.1 dX8_losesNext_0 rfl (lv_at hl 0 rfl) ?_
  refine k_get F G 28 rfl (N := 9) (Tt := TX8) rfl kf8 8 (by decide) kl91 (v := .int (w 35 0)) rfl dX8_losesNext_1 ?_
  refine lv_if_ne (tgt := 18) F.1 F.2.1 dX8_losesNext_4 (by decide) (fun c => ?_) (fun c => ?_)
  · have h := op_f h c
    refine lv_iconst (v := 0) F.1 F.2.1 dX8_losesNext_18 (by decide) ?_
    obtain rfl := op_1 h
    exact k_zret F hr rfl hlk G dX8_losesNext_19
  · have h := op_t h c
    refine lv_aload_n F.1 F.2.1 dX8_losesNext_7 rfl (lv_at hl 0 rfl) ?_
    refine k_get F G 28 rfl (N := 9) (Tt := TX8) rfl kf8 0 (by decide) kl35 (v := .ref (aP 0)) rfl dX8_losesNext_8 ?_
    refine k_get F G 0 rfl (N := 18) (Tt := TX5) rfl kf5 14 (by decide) kl431 (v := .int (v 7 0)) rfl dX8_losesNext_11 ?_
    refine lv_iconst (v := 1) F.1 F.2.1 dX8_losesNext_14 (by decide) ?_
    refine lv_icmp_ge (tgt := 20) F.1 F.2.1 dX8_losesNext_15 (by decide) (fun c => ?_) (fun c => ?_)
    · have h := op_t h c
      refine lv_aload_n F.1 F.2.1 dX8_losesNext_20 rfl (lv_at hl 0 rfl) ?_
      refine k_get F G 28 rfl (N := 9) (Tt := TX8) rfl kf8 0 (by decide) kl35 (v := .ref (aP 0)) rfl dX8_losesNext_21 ?_
      refine k_get F G 0 rfl (N := 18) (Tt := TX5) rfl kf5 13 (by decide) kl432 (v := .int (v 6 0)) rfl dX8_losesNext_24 ?_
      refine lv_aload_n F.1 F.2.1 dX8_losesNext_27 rfl (lv_at hl 0 rfl) ?_
      refine k_get F G 28 rfl (N := 9) (Tt := TX8) rfl kf8 7 (by decide) kl90 (v := .int (w 34 0)) rfl dX8_losesNext_28 ?_
      refine lv_aload_n F.1 F.2.1 dX8_losesNext_31 rfl (lv_at hl 0 rfl) ?_
      refine k_get F G 28 rfl (N := 9) (Tt := TX8) rfl kf8 0 (by decide) kl35 (v := .ref (aP 0)) rfl dX8_losesNext_32 ?_
      refine k_get F G 0 rfl (N := 18) (Tt := TX5) rfl kf5 14 (by decide) kl431 (v := .int (v 7 0)) rfl dX8_losesNext_35 ?_
      obtain ⟨c, h⟩ := op_g h
      refine lv_irem F.1 F.2.1 dX8_losesNext_38 c ?_
      obtain ⟨r_1, hc, h⟩ := op_b h
      refine k_callSN (rv := (some (.int r_1))) (Wc := ([] : va_W)) (W2 := ([] : va_W)) (Wn := (gW T aP aQ v w)) (As := [.int (v 6 0), .int ((w 34 0) - (w 34 0) / (v 7 0) * (v 7 0))]) (rest := []) F G (mX10_isIn l D T (v 6 0) ((w 34 0) - (w 34 0) / (v 7 0) * (v 7 0)) hc) ⟨va_cnB 2 F.2.2.2.2 (kg_c kl119 kg_a) rfl rfl rfl (k_nest G 12 rfl) (F.2.2.2.2 _ kl80) (by decide +kernel) ⟨Nat.le_of_ble_eq_true rfl, Nat.le_of_ble_eq_true rfl⟩, F.2.2.2.2 _ kl122⟩ (kCut_0 G) rfl hl.1 rfl (Nat.le_of_ble_eq_true rfl) dX8_losesNext_39 ⟨Nat.le_of_ble_eq_true rfl, Nat.le_of_ble_eq_true rfl⟩ (cN := 0) (sN := 0) ⟨rfl, rfl⟩ (fun H locs G => ?_)
      obtain ⟨c, h⟩ := op_g h
      obtain rfl := op_1 h
      exact k_zret F hr c hlk G dX8_losesNext_42
    · have h := op_f h c
      refine lv_iconst (v := 0) F.1 F.2.1 dX8_losesNext_18 (by decide) ?_
      obtain rfl := op_1 h
      exact k_zret F hr rfl hlk G dX8_losesNext_19
abbrev rmX8_beginAnew : Room := ({ frames := 1, cells := 0, slots := 0, locals := 23 } : Room)
noncomputable def qX8_beginAnew (v : Nat → Nat → Int32) (w : Nat → Nat → Int32) : Option ((Nat → Nat → Int32)) :=
  (bs (va_up w 31 (fun _ => 0)) fun w_1 => (bs (va_up w_1 32 (kfill 6 0 (w_1 32))) fun w_2 => (bs (va_up w_2 33 (kfill 6 0 (w_2 33))) fun w_3 => (bs (va_up w_3 34 (fun _ => 0)) fun w_4 => (bs (va_up w_4 35 (fun _ => 0)) fun w_5 => some w_5)))))

set_option maxHeartbeats 4000000 in
set_option maxRecDepth 100000 in
theorem mX8_beginAnew (l : Launch) (D : va_G) (T : Nat → ClassId) (aP : Nat → Nat) (aQ : Nat → Nat) (v : Nat → Nat → Int32) (w : Nat → Nat → Int32) {wR : Nat → Nat → Int32} (hres : qX8_beginAnew v w = some (wR)) : Ct l yX8_beginAnew (Cond.code yX8_beginAnew cX8_beginAnew 1 none :: kAll) rmX8_beginAnew D T [.ref (aQ 19)] (gW T aP aQ v w) none (gW T aP aQ v wR) := by
  refine Ct.of (cc := cX8_beginAnew) (maxL := 1) (ret := none) (by decide +kernel) rfl (Nat.le_of_ble_eq_true rfl) ?_
  intro pr en st mi ag bl me co A ls F hr hlk hnm G hl
  have hl : lv_has ls 1 [(0, .ref (aQ 19))] := hl
  have h := hres
  unfold qX8_beginAnew at h
  refine lv_aload_n F.1 F.2.1 dX8_beginAnew_0 rfl (lv_at hl 0 rfl) ?_
  refine lv_iconst (v := 0) F.1 F.2.1 dX8_beginAnew_1 (by decide) ?_
  obtain ⟨w_1, e9, h⟩ := op_st h
  refine k_put F G 28 rfl (N := 9) (Tt := TX8) rfl kf8 tyX8_ok nmX8 4 (by decide) kl89 rfl (v := .int 0) rfl rfl (Nat.le_of_ble_eq_true rfl) dX8_beginAnew_2 (Wn := (gW T aP aQ v w_1)) (by subst e9; rfl) (fun H locs G => ?_)
  clear e9
  refine lv_aload_n F.1 F.2.1 dX8_beginAnew_5 rfl (lv_at hl 0 rfl) ?_
  refine k_get F G 28 rfl (N := 9) (Tt := TX8) rfl kf8 5 (by decide) kl33 (v := .ref (aQ 23)) rfl dX8_beginAnew_6 ?_
  refine lv_iconst (v := 0) F.1 F.2.1 dX8_beginAnew_9 (by decide) ?_
  obtain ⟨w_2, e9, h⟩ := op_st h
  refine k_callS (rv := none) (Wc := (gA T (aQ 23) 6 (w_1 32))) (W2 := (gA T (aQ 23) 6 (kfill 6 0 (w_1 32)))) (Wn := (gW T aP aQ v w_2)) (As := [.ref (aQ 23), .int 0]) (rest := []) F G (mJ7_fill_53178 l D T (aQ 23) 6 (w_1 32) 0 (by decide)) (va_cwS 2 F.2.2.2.2 (kg_c kl429 (kg_c kl129 (kg_c kl130 (kg_c kl126 kg_a)))) rfl rfl rfl (by decide +kernel) ⟨Nat.le_of_ble_eq_true rfl, Nat.le_of_ble_eq_true rfl⟩) (kCut_1 G 32 rfl (by subst e9; rfl)) rfl hl.1 rfl (Nat.le_of_ble_eq_true rfl) dX8_beginAnew_10 ⟨Nat.le_of_ble_eq_true rfl, Nat.le_of_ble_eq_true rfl⟩ (cN := 0) (sN := 0) ⟨rfl, rfl⟩ (fun H locs G => ?_)
  clear e9
  refine lv_aload_n F.1 F.2.1 dX8_beginAnew_13 rfl (lv_at hl 0 rfl) ?_
  refine k_get F G 28 rfl (N := 9) (Tt := TX8) rfl kf8 6 (by decide) kl34 (v := .ref (aQ 24)) rfl dX8_beginAnew_14 ?_
  refine lv_iconst (v := 0) F.1 F.2.1 dX8_beginAnew_17 (by decide) ?_
  obtain ⟨w_3, e9, h⟩ := op_st h
  refine k_callS (rv := none) (Wc := (gA T (aQ 24) 6 (w_2 33))) (W2 := (gA T (aQ 24) 6 (kfill 6 0 (w_2 33)))) (Wn := (gW T aP aQ v w_3)) (As := [.ref (aQ 24), .int 0]) (rest := []) F G (mJ7_fill_53178 l D T (aQ 24) 6 (w_2 33) 0 (by decide)) (va_cwS 2 F.2.2.2.2 (kg_c kl429 (kg_c kl129 (kg_c kl130 (kg_c kl126 kg_a)))) rfl rfl rfl (by decide +kernel) ⟨Nat.le_of_ble_eq_true rfl, Nat.le_of_ble_eq_true rfl⟩) (kCut_1 G 33 rfl (by subst e9; rfl)) rfl hl.1 rfl (Nat.le_of_ble_eq_true rfl) dX8_beginAnew_18 ⟨Nat.le_of_ble_eq_true rfl, Nat.le_of_ble_eq_true rfl⟩ (cN := 0) (sN := 0) ⟨rfl, rfl⟩ (fun H locs G => ?_)
  clear e9
  refine lv_aload_n F.1 F.2.1 dX8_beginAnew_21 rfl (lv_at hl 0 rfl) ?_
  refine lv_iconst (v := 0) F.1 F.2.1 dX8_beginAnew_22 (by decide) ?_
  obtain ⟨w_4, e9, h⟩ := op_st h
  refine k_put F G 28 rfl (N := 9) (Tt := TX8) rfl kf8 tyX8_ok nmX8 7 (by decide) kl90 rfl (v := .int 0) rfl rfl (Nat.le_of_ble_eq_true rfl) dX8_beginAnew_23 (Wn := (gW T aP aQ v w_4)) (by subst e9; rfl) (fun H locs G => ?_)
  clear e9
  refine lv_aload_n F.1 F.2.1 dX8_beginAnew_26 rfl (lv_at hl 0 rfl) ?_
  refine lv_iconst (v := 0) F.1 F.2.1 dX8_beginAnew_27 (by decide) ?_
  obtain ⟨w_5, e9, h⟩ := op_st h
  refine k_put F G 28 rfl (N := 9) (Tt := TX8) rfl kf8 tyX8_ok nmX8 8 (by decide) kl91 rfl (v := .int 0) rfl rfl (Nat.le_of_ble_eq_true rfl) dX8_beginAnew_28 (Wn := (gW T aP aQ v w_5)) (by subst e9; rfl) (fun H locs G => ?_)
  clear e9
  obtain rfl := op_1 h
  exact k_vret F hr hlk G dX8_beginAnew_31
abbrev rmX8_send : Room := ({ frames := 2, cells := 0, slots := 0, locals := 41 } : Room)
noncomputable def qX8_send (v : Nat → Nat → Int32) (w : Nat → Nat → Int32) (x1 : Int32) (x2 : Int32) (x3 : Int32) : Option ((Nat → Nat → Int32)) :=
  bd (qX8_losesNext v w) fun r_1 => (bs (va_up w 34 (fun _ => ((w 34 0) + 1))) fun w_2 => gd (vp_in x1 6) (gd (vp_in x1 6) (bs (va_up w_2 32 (upd (w_2 32) x1.toNatClampNeg (((w_2 32) x1.toNatClampNeg) + 1))) fun w_3 => if r_1 = 0 then if 72 ≤ (w_3 31 0) then some w_3 else gd (vp_in (w_3 31 0) 72) (bs (va_up w_3 28 (upd (w_3 28) (w_3 31 0).toNatClampNeg x1)) fun w_4 => gd (vp_in (w_4 31 0) 72) (bs (va_up w_4 29 (upd (w_4 29) (w_4 31 0).toNatClampNeg x2)) fun w_5 => gd (vp_in (w_5 31 0) 72) (bs (va_up w_5 30 (upd (w_5 30) (w_5 31 0).toNatClampNeg x3)) fun w_6 => (bs (va_up w_6 31 (fun _ => ((w_6 31 0) + 1))) fun w_7 => some w_7)))) else gd (vp_in x1 6) (gd (vp_in x1 6) (bs (va_up w_3 33 (upd (w_3 33) x1.toNatClampNeg (((w_3 33) x1.toNatClampNeg) + 1))) fun w_8 => some w_8)))))

set_option maxHeartbeats 4000000 in
set_option maxRecDepth 100000 in
theorem mX8_send (l : Launch) (D : va_G) (T : Nat → ClassId) (aP : Nat → Nat) (aQ : Nat → Nat) (v : Nat → Nat → Int32) (w : Nat → Nat → Int32) (x1 : Int32) (x2 : Int32) (x3 : Int32) {wR : Nat → Nat → Int32} (hres : qX8_send v w x1 x2 x3 = some (wR)) : Ct l yX8_send (Cond.code yX8_send cX8_send 5 none :: kAll) rmX8_send D T [.ref (aQ 19), .int x1, .int x2, .int x3] (gW T aP aQ v w) none (gW T aP aQ v wR) := by
  refine Ct.of (cc := cX8_send) (maxL := 5) (ret := none) (by decide +kernel) rfl (Nat.le_of_ble_eq_true rfl) ?_
  intro pr en st mi ag bl me co A ls F hr hlk hnm G hl
  have hl : lv_has ls 5 [(0, .ref (aQ 19)), (1, .int x1), (2, .int x2), (3, .int x3)] := hl
  have h := hres
  unfold qX8_send at h
  refine lv_aload_n F.1 F.2.1 dX8_send_0 rfl (lv_at hl 0 rfl) ?_
  obtain ⟨r_1, hc, h⟩ := op_b h
  refine k_callV (rv := (some (.int r_1))) (Wc := (gW T aP aQ v w)) (W2 := (gW T aP aQ v w)) (Wn := (gW T aP aQ v w)) (As := []) (rest := []) F G (mX8_losesNext l D T aP aQ v w hc) (cwV 0 F.2.2.2.2 (kg_c kl434 (kg_c kl435 (kg_c kl436 (kg_c kl50 (kg_c kl430 kg_a))))) rfl rfl rfl (by decide +kernel) ⟨Nat.le_of_ble_eq_true rfl, Nat.le_of_ble_eq_true rfl⟩) 28 rfl (q := (RX8, TX8, 9)) rfl rfl (kCut_F G) rfl hl.1 rfl (Nat.le_of_ble_eq_true rfl) dX8_send_1 ⟨Nat.le_of_ble_eq_true rfl, Nat.le_of_ble_eq_true rfl⟩ (cN := 0) (sN := 0) ⟨rfl, rfl⟩ (fun H locs G => ?_)
  refine lv_istore (lv' := [(4, .int r_1), (0, .ref (aQ 19)), (1, .int x1), (2, .int x2), (3, .int x3)]) F.1 F.2.1 dX8_send_4 hl (by decide) rfl (fun ls hl => ?_)
  refine lv_aload_n F.1 F.2.1 dX8_send_6 rfl (lv_at hl 1 rfl) ?_
  refine lv_dup F.1 F.2.1 dX8_send_7 rfl ?_
  refine k_get F G 28 rfl (N := 9) (Tt := TX8) rfl kf8 7 (by decide) kl90 (v := .int (w 34 0)) rfl dX8_send_8 ?_
  refine lv_iconst (v := 1) F.1 F.2.1 dX8_send_11 (by decide) ?_
  refine lv_iadd F.1 F.2.1 dX8_send_12 ?_
  obtain ⟨w_2, e9, h⟩ := op_st h
  refine k_put F G 28 rfl (N := 9) (Tt := TX8) rfl kf8 tyX8_ok nmX8 7 (by decide) kl90 rfl (v := .int ((w 34 0) + 1)) rfl rfl (Nat.le_of_ble_eq_true rfl) dX8_send_13 (Wn := (gW T aP aQ v w_2)) (by subst e9; rfl) (fun H locs G => ?_)
  clear e9
  refine lv_aload_n F.1 F.2.1 dX8_send_16 rfl (lv_at hl 1 rfl) ?_
  refine k_get F G 28 rfl (N := 9) (Tt := TX8) rfl kf8 5 (by decide) kl33 (v := .ref (aQ 23)) rfl dX8_send_17 ?_
  refine lv_iload_n F.1 F.2.1 dX8_send_20 rfl (lv_at hl 2 rfl) ?_
  refine lv_dup2_11 F.1 F.2.1 dX8_send_21 rfl rfl ?_
  obtain ⟨c, h⟩ := op_g h
  refine k_iald F G 32 rfl c dX8_send_22 ?_
  refine lv_iconst (v := 1) F.1 F.2.1 dX8_send_23 (by decide) ?_
  refine lv_iadd F.1 F.2.1 dX8_send_24 ?_
  obtain ⟨c, h⟩ := op_g h
  obtain ⟨w_3, e9, h⟩ := op_st h
  refine k_iast F G 32 rfl c dX8_send_25 (Wn := (gW T aP aQ v w_3)) (by subst e9; rfl) (fun H locs G => ?_)
  clear e9
  refine lv_iload F.1 F.2.1 dX8_send_26 (lv_at hl 0 rfl) ?_
  refine lv_if_eq (tgt := 44) F.1 F.2.1 dX8_send_28 (by decide) (fun c => ?_) (fun c => ?_)
  · have h := op_t h c
    refine lv_aload_n F.1 F.2.1 dX8_send_44 rfl (lv_at hl 1 rfl) ?_
    refine k_get F G 28 rfl (N := 9) (Tt := TX8) rfl kf8 4 (by decide) kl89 (v := .int (w_3 31 0)) rfl dX8_send_45 ?_
    refine lv_bipush (v := 72) F.1 F.2.1 dX8_send_48 (by decide) ?_
    refine lv_icmp_ge (tgt := 93) F.1 F.2.1 dX8_send_50 (by decide) (fun c => ?_) (fun c => ?_)
    · have h := op_t h c
      obtain rfl := op_1 h
      exact k_vret F hr hlk G dX8_send_93
    · have h := op_f h c
      refine lv_aload_n F.1 F.2.1 dX8_send_53 rfl (lv_at hl 1 rfl) ?_
      refine k_get F G 28 rfl (N := 9) (Tt := TX8) rfl kf8 1 (by decide) kl30 (v := .ref (aQ 20)) rfl dX8_send_54 ?_
      refine lv_aload_n F.1 F.2.1 dX8_send_57 rfl (lv_at hl 1 rfl) ?_
      refine k_get F G 28 rfl (N := 9) (Tt := TX8) rfl kf8 4 (by decide) kl89 (v := .int (w_3 31 0)) rfl dX8_send_58 ?_
      refine lv_iload_n F.1 F.2.1 dX8_send_61 rfl (lv_at hl 2 rfl) ?_
      obtain ⟨c, h⟩ := op_g h
      obtain ⟨w_4, e9, h⟩ := op_st h
      refine k_iast F G 29 rfl c dX8_send_62 (Wn := (gW T aP aQ v w_4)) (by subst e9; rfl) (fun H locs G => ?_)
      clear e9
      refine lv_aload_n F.1 F.2.1 dX8_send_63 rfl (lv_at hl 1 rfl) ?_
      refine k_get F G 28 rfl (N := 9) (Tt := TX8) rfl kf8 2 (by decide) kl31 (v := .ref (aQ 21)) rfl dX8_send_64 ?_
      refine lv_aload_n F.1 F.2.1 dX8_send_67 rfl (lv_at hl 1 rfl) ?_
      refine k_get F G 28 rfl (N := 9) (Tt := TX8) rfl kf8 4 (by decide) kl89 (v := .int (w_4 31 0)) rfl dX8_send_68 ?_
      refine lv_iload_n F.1 F.2.1 dX8_send_71 rfl (lv_at hl 3 rfl) ?_
      obtain ⟨c, h⟩ := op_g h
      obtain ⟨w_5, e9, h⟩ := op_st h
      refine k_iast F G 30 rfl c dX8_send_72 (Wn := (gW T aP aQ v w_5)) (by subst e9; rfl) (fun H locs G => ?_)
      clear e9
      refine lv_aload_n F.1 F.2.1 dX8_send_73 rfl (lv_at hl 1 rfl) ?_
      refine k_get F G 28 rfl (N := 9) (Tt := TX8) rfl kf8 3 (by decide) kl32 (v := .ref (aQ 22)) rfl dX8_send_74 ?_
      refine lv_aload_n F.1 F.2.1 dX8_send_77 rfl (lv_at hl 1 rfl) ?_
      refine k_get F G 28 rfl (N := 9) (Tt := TX8) rfl kf8 4 (by decide) kl89 (v := .int (w_5 31 0)) rfl dX8_send_78 ?_
      refine lv_iload_n F.1 F.2.1 dX8_send_81 rfl (lv_at hl 4 rfl) ?_
      obtain ⟨c, h⟩ := op_g h
      obtain ⟨w_6, e9, h⟩ := op_st h
      refine k_iast F G 31 rfl c dX8_send_82 (Wn := (gW T aP aQ v w_6)) (by subst e9; rfl) (fun H locs G => ?_)
      clear e9
      refine lv_aload_n F.1 F.2.1 dX8_send_83 rfl (lv_at hl 1 rfl) ?_
      refine lv_dup F.1 F.2.1 dX8_send_84 rfl ?_
      refine k_get F G 28 rfl (N := 9) (Tt := TX8) rfl kf8 4 (by decide) kl89 (v := .int (w_6 31 0)) rfl dX8_send_85 ?_
      refine lv_iconst (v := 1) F.1 F.2.1 dX8_send_88 (by decide) ?_
      refine lv_iadd F.1 F.2.1 dX8_send_89 ?_
      obtain ⟨w_7, e9, h⟩ := op_st h
      refine k_put F G 28 rfl (N := 9) (Tt := TX8) rfl kf8 tyX8_ok nmX8 4 (by decide) kl89 rfl (v := .int ((w_6 31 0) + 1)) rfl rfl (Nat.le_of_ble_eq_true rfl) dX8_send_90 (Wn := (gW T aP aQ v w_7)) (by subst e9; rfl) (fun H locs G => ?_)
      clear e9
      obtain rfl := op_1 h
      exact k_vret F hr hlk G dX8_send_93
  · have h := op_f h c
    refine lv_aload_n F.1 F.2.1 dX8_send_31 rfl (lv_at hl 1 rfl) ?_
    refine k_get F G 28 rfl (N := 9) (Tt := TX8) rfl kf8 6 (by decide) kl34 (v := .ref (aQ 24)) rfl dX8_send_32 ?_
    refine lv_iload_n F.1 F.2.1 dX8_send_35 rfl (lv_at hl 2 rfl) ?_
    refine lv_dup2_11 F.1 F.2.1 dX8_send_36 rfl rfl ?_
    obtain ⟨c, h⟩ := op_g h
    refine k_iald F G 33 rfl c dX8_send_37 ?_
    refine lv_iconst (v := 1) F.1 F.2.1 dX8_send_38 (by decide) ?_
    refine lv_iadd F.1 F.2.1 dX8_send_39 ?_
    obtain ⟨c, h⟩ := op_g h
    obtain ⟨w_8, e9, h⟩ := op_st h
    refine k_iast F G 33 rfl c dX8_send_40 (Wn := (gW T aP aQ v w_8)) (by subst e9; rfl) (fun H locs G => ?_)
    clear e9
    refine lv_goto (tgt := 93) F.1 F.2.1 dX8_send_41 (by decide) ?_
    obtain rfl := op_1 h
    exact k_vret F hr hlk G dX8_send_93
abbrev rmX8_lostInAll : Room := ({ frames := 0, cells := 0, slots := 0, locals := 0 } : Room)
noncomputable def qX8_lostInAll_L4 (v : Nat → Nat → Int32) (w : Nat → Nat → Int32) (K : Int32 → Option (Int32)) : Nat → Int32 → Int32 → Option (Int32)
  | 0, _, _ => none
  | n + 1, x1_1, x2_2 =>
    if 6 ≤ x2_2 then (K x1_1) else gd (vp_in x2_2 6) ((qX8_lostInAll_L4 v w K n (x1_1 + ((w 33) x2_2.toNatClampNeg)) (x2_2 + 1)))

noncomputable def qX8_lostInAll (v : Nat → Nat → Int32) (w : Nat → Nat → Int32) : Option (Int32) :=
  (qX8_lostInAll_L4 v w  (fun (x1_3 : Int32) => some x1_3) fu 0 0 )

set_option maxHeartbeats 4000000 in
set_option maxRecDepth 100000 in
theorem mX8_lostInAll (l : Launch) (D : va_G) (T : Nat → ClassId) (aP : Nat → Nat) (aQ : Nat → Nat) (v : Nat → Nat → Int32) (w : Nat → Nat → Int32) {rR : Int32} (hres : qX8_lostInAll v w = some (rR)) : Ct l yX8_lostInAll (Cond.code yX8_lostInAll cX8_lostInAll 3 (some .int) :: kAll) rmX8_lostInAll D T [.ref (aQ 19)] (gW T aP aQ v w) (some (.int rR)) (gW T aP aQ v w) := by
  refine Ct.of (cc := cX8_lostInAll) (maxL := 3) (ret := (some .int)) (by decide +kernel) rfl (Nat.le_of_ble_eq_true rfl) ?_
  intro pr en st mi ag bl me co A ls F hr hlk hnm G hl
  have hl : lv_has ls 3 [(0, .ref (aQ 19))] := hl
  have h := hres
  unfold qX8_lostInAll at h
  refine lv_iconst (v := 0) F.1 F.2.1 dX8_lostInAll_0 (by decide) ?_
  refine lv_istore_n (lv' := [(1, .int 0), (0, .ref (aQ 19))]) F.1 F.2.1 dX8_lostInAll_1 rfl hl (by decide) rfl (fun ls hl => ?_)
  refine lv_iconst (v := 0) F.1 F.2.1 dX8_lostInAll_2 (by decide) ?_
  refine lv_istore_n (lv' := [(2, .int 0), (1, .int 0), (0, .ref (aQ 19))]) F.1 F.2.1 dX8_lostInAll_3 rfl hl (by decide) rfl (fun ls hl => ?_)
  have L4 : ∀ (v : Nat → Nat → Int32) (w : Nat → Nat → Int32) (K : Int32 → Option (Int32)) (hK : ∀ (x1_3 : Int32) (H : Heap) (locs : List Loc) (ls : Array Slot), K x1_3 = some (rR) → Rg D T A st (gW T aP aQ v w) H locs → lv_has ls 3 [(1, .int x1_3)] → W pr l en rmX8_lostInAll st mi ag bl me co H locs 0 0 (MQ bl (kQ (some (.int rR)) D (gW T aP aQ v w) A) ag st rmX8_lostInAll.cells rmX8_lostInAll.slots A) (F0 mi 25 ls [])) (n : Nat) (x1_1 : Int32) (x2_2 : Int32) (H : Heap) (locs : List Loc) (ls : Array Slot), qX8_lostInAll_L4 v w K n x1_1 x2_2 = some (rR) → Rg D T A st (gW T aP aQ v w) H locs → lv_has ls 3 [(0, .ref (aQ 19)), (1, .int x1_1), (2, .int x2_2)] → W pr l en rmX8_lostInAll st mi ag bl me co H locs 0 0 (MQ bl (kQ (some (.int rR)) D (gW T aP aQ v w) A) ag st rmX8_lostInAll.cells rmX8_lostInAll.slots A) (F0 mi 4 ls []) := by
    intro v w K hK n
    induction n with
    | zero => intro x1_1 x2_2 H locs ls h; exact op_n h
    | succ n ih =>
      intro x1_1 x2_2 H locs ls h G hl
      rw [qX8_lostInAll_L4] at h
      refine lv_iload_n F.1 F.2.1 dX8_lostInAll_4 rfl (lv_at hl 2 rfl) ?_
      refine lv_bipush (v := 6) F.1 F.2.1 dX8_lostInAll_5 (by decide) ?_
      refine lv_icmp_ge (tgt := 25) F.1 F.2.1 dX8_lostInAll_7 (by decide) (fun c => ?_) (fun c => ?_)
      · have h := op_t h c
        exact hK x1_1 _ _ _ h G (lv_sub hl [1] rfl)
      · have h := op_f h c
        refine lv_iload_n F.1 F.2.1 dX8_lostInAll_10 rfl (lv_at hl 1 rfl) ?_
        refine lv_aload_n F.1 F.2.1 dX8_lostInAll_11 rfl (lv_at hl 0 rfl) ?_
        refine k_get F G 28 rfl (N := 9) (Tt := TX8) rfl kf8 6 (by decide) kl34 (v := .ref (aQ 24)) rfl dX8_lostInAll_12 ?_
        refine lv_iload_n F.1 F.2.1 dX8_lostInAll_15 rfl (lv_at hl 2 rfl) ?_
        obtain ⟨c, h⟩ := op_g h
        refine k_iald F G 33 rfl c dX8_lostInAll_16 ?_
        refine lv_iadd F.1 F.2.1 dX8_lostInAll_17 ?_
        refine lv_istore_n (lv' := [(1, .int (x1_1 + ((w 33) x2_2.toNatClampNeg))), (0, .ref (aQ 19)), (2, .int x2_2)]) F.1 F.2.1 dX8_lostInAll_18 rfl hl (by decide) rfl (fun ls hl => ?_)
        refine lv_iinc (v := (x2_2 + 1)) (lv' := [(2, .int (x2_2 + 1)), (1, .int (x1_1 + ((w 33) x2_2.toNatClampNeg))), (0, .ref (aQ 19))]) F.1 F.2.1 dX8_lostInAll_19 hl (k := 2) rfl rfl (by decide) rfl (fun ls hl => ?_)
        refine lv_goto (tgt := 4) F.1 F.2.1 dX8_lostInAll_22 (by decide) ?_
        exact ih (x1_1 + ((w 33) x2_2.toNatClampNeg)) (x2_2 + 1) _ _ _ h G (lv_sub hl [2, 1, 0] rfl)
  refine L4 v w  _ (fun x1_3 H locs ls h G hl => ?_) fu 0 0  _ _ _ h G (lv_sub hl [2, 1, 0] rfl)
  clear L4
  refine lv_iload_n F.1 F.2.1 dX8_lostInAll_25 rfl (lv_at hl 0 rfl) ?_
  obtain rfl := op_1 h
  exact k_iret F hr hlk G dX8_lostInAll_26
