abbrev rmX9_isDark : Room := ({ frames := 0, cells := 0, slots := 0, locals := 0 } : Room)
noncomputable def qX9_isDark (v : Nat → Nat → Int32) (w : Nat → Nat → Int32) : Option (Int32) :=
  if (w 1 0) ≤ (w 0 0) then some 0 else some 1

set_option maxHeartbeats 4000000 in
set_option maxRecDepth 100000 in
theorem mX9_isDark (l : Launch) (D : va_G) (T : Nat → ClassId) (aP : Nat → Nat) (aQ : Nat → Nat) (v : Nat → Nat → Int32) (w : Nat → Nat → Int32) {rR : Int32} (hres : qX9_isDark v w = some (rR)) : Ct l yX9_isDark (Cond.code yX9_isDark cX9_isDark 1 (some .boolean) :: kAll) rmX9_isDark D T [.ref (aQ 0)] (gW T aP aQ v w) (some (.int rR)) (gW T aP aQ v w) := by
  refine Ct.of (cc := cX9_isDark) (maxL := 1) (ret := (some .boolean)) (by decide +kernel) rfl (Nat.le_of_ble_eq_true rfl) ?_
  intro pr en st mi ag bl me co A ls F hr hlk hnm G hl
  have hl : lv_has ls 1 [(0, .ref (aQ 0))] := hl
  have h := hres
  unfold qX9_isDark at h
  refine lv_aload_n F.1 F.2.1 dX9_isDark_0 rfl (lv_at hl 0 rfl) ?_
  refine k_get F G 9 rfl (N := 14) (Tt := TX9) rfl kf9 4 (by decide) kl439 (v := .int (w 0 0)) rfl dX9_isDark_1 ?_
  refine lv_aload_n F.1 F.2.1 dX9_isDark_4 rfl (lv_at hl 0 rfl) ?_
  refine k_get F G 9 rfl (N := 14) (Tt := TX9) rfl kf9 5 (by decide) kl440 (v := .int (w 1 0)) rfl dX9_isDark_5 ?_
  refine lv_icmp_ge (tgt := 15) F.1 F.2.1 dX9_isDark_8 (by decide) (fun c => ?_) (fun c => ?_)
  · have h := op_t h c
    refine lv_iconst (v := 0) F.1 F.2.1 dX9_isDark_15 (by decide) ?_
    obtain rfl := op_1 h
    exact k_zret F hr rfl hlk G dX9_isDark_16
  · have h := op_f h c
    refine lv_iconst (v := 1) F.1 F.2.1 dX9_isDark_11 (by decide) ?_
    refine lv_goto (tgt := 16) F.1 F.2.1 dX9_isDark_12 (by decide) ?_
    obtain rfl := op_1 h
    exact k_zret F hr rfl hlk G dX9_isDark_16
abbrev rmX9_beginAnew : Room := ({ frames := 4, cells := 0, slots := 0, locals := 84 } : Room)
noncomputable def qX9_beginAnew (v : Nat → Nat → Int32) (w : Nat → Nat → Int32) : Option ((Nat → Nat → Int32)) :=
  (bs (va_up w 0 (fun _ => 0)) fun w_1 => (bs (va_up w_1 1 (fun _ => 0)) fun w_2 => (bs (va_up w_2 2 (fun _ => (v 2 0))) fun w_3 => (bs (va_up w_3 3 (fun _ => (v 3 0))) fun w_4 => gd (narrow .boolean (.int (v 5 0)) = .int (v 5 0) ∧ fits .boolean (.int (v 5 0)) = true) (bs (va_up w_4 4 (fun _ => (v 5 0))) fun w_5 => (bs (va_up w_5 5 (fun _ => 0)) fun w_6 => (bs (va_up w_6 6 (fun _ => 0)) fun w_7 => (bs (va_up w_7 7 (fun _ => 0)) fun w_8 => bd (qX2_beginAnew v w_8) fun w_9 => bd (qX3_beginAnew v w_9) fun w_10 => bd (qX8_beginAnew v w_10) fun w_11 => some w_11))))))))

set_option maxHeartbeats 4000000 in
set_option maxRecDepth 100000 in
theorem mX9_beginAnew (l : Launch) (D : va_G) (T : Nat → ClassId) (aP : Nat → Nat) (aQ : Nat → Nat) (v : Nat → Nat → Int32) (w : Nat → Nat → Int32) {wR : Nat → Nat → Int32} (hres : qX9_beginAnew v w = some (wR)) : Ct l yX9_beginAnew (Cond.code yX9_beginAnew cX9_beginAnew 1 none :: kAll) rmX9_beginAnew D T [.ref (aQ 0)] (gW T aP aQ v w) none (gW T aP aQ v wR) := by
  refine Ct.of (cc := cX9_beginAnew) (maxL := 1) (ret := none) (by decide +kernel) rfl (Nat.le_of_ble_eq_true rfl) ?_
  intro pr en st mi ag bl me co A ls F hr hlk hnm G hl
  have hl : lv_has ls 1 [(0, .ref (aQ 0))] := hl
  have h := hres
  unfold qX9_beginAnew at h
  refine lv_aload_n F.1 F.2.1 dX9_beginAnew_0 rfl (lv_at hl 0 rfl) ?_
  refine lv_iconst (v := 0) F.1 F.2.1 dX9_beginAnew_1 (by decide) ?_
  obtain ⟨w_1, e9, h⟩ := op_st h
  refine k_put F G 9 rfl (N := 14) (Tt := TX9) rfl kf9 tyX9_ok nmX9 4 (by decide) kl439 rfl (v := .int 0) rfl rfl (Nat.le_of_ble_eq_true rfl) dX9_beginAnew_2 (Wn := (gW T aP aQ v w_1)) (by subst e9; rfl) (fun H locs G => ?_)
  clear e9
  refine lv_aload_n F.1 F.2.1 dX9_beginAnew_5 rfl (lv_at hl 0 rfl) ?_
  refine lv_iconst (v := 0) F.1 F.2.1 dX9_beginAnew_6 (by decide) ?_
  obtain ⟨w_2, e9, h⟩ := op_st h
  refine k_put F G 9 rfl (N := 14) (Tt := TX9) rfl kf9 tyX9_ok nmX9 5 (by decide) kl440 rfl (v := .int 0) rfl rfl (Nat.le_of_ble_eq_true rfl) dX9_beginAnew_7 (Wn := (gW T aP aQ v w_2)) (by subst e9; rfl) (fun H locs G => ?_)
  clear e9
  refine lv_aload_n F.1 F.2.1 dX9_beginAnew_10 rfl (lv_at hl 0 rfl) ?_
  refine lv_aload_n F.1 F.2.1 dX9_beginAnew_11 rfl (lv_at hl 0 rfl) ?_
  refine k_get F G 9 rfl (N := 14) (Tt := TX9) rfl kf9 0 (by decide) kl39 (v := .ref (aP 0)) rfl dX9_beginAnew_12 ?_
  refine k_get F G 0 rfl (N := 18) (Tt := TX5) rfl kf5 9 (by decide) kl441 (v := .int (v 2 0)) rfl dX9_beginAnew_15 ?_
  obtain ⟨w_3, e9, h⟩ := op_st h
  refine k_put F G 9 rfl (N := 14) (Tt := TX9) rfl kf9 tyX9_ok nmX9 6 (by decide) kl442 rfl (v := .int (v 2 0)) rfl rfl (Nat.le_of_ble_eq_true rfl) dX9_beginAnew_18 (Wn := (gW T aP aQ v w_3)) (by subst e9; rfl) (fun H locs G => ?_)
  clear e9
  refine lv_aload_n F.1 F.2.1 dX9_beginAnew_21 rfl (lv_at hl 0 rfl) ?_
  refine lv_aload_n F.1 F.2.1 dX9_beginAnew_22 rfl (lv_at hl 0 rfl) ?_
  refine k_get F G 9 rfl (N := 14) (Tt := TX9) rfl kf9 0 (by decide) kl39 (v := .ref (aP 0)) rfl dX9_beginAnew_23 ?_
  refine k_get F G 0 rfl (N := 18) (Tt := TX5) rfl kf5 10 (by decide) kl443 (v := .int (v 3 0)) rfl dX9_beginAnew_26 ?_
  obtain ⟨w_4, e9, h⟩ := op_st h
  refine k_put F G 9 rfl (N := 14) (Tt := TX9) rfl kf9 tyX9_ok nmX9 7 (by decide) kl444 rfl (v := .int (v 3 0)) rfl rfl (Nat.le_of_ble_eq_true rfl) dX9_beginAnew_29 (Wn := (gW T aP aQ v w_4)) (by subst e9; rfl) (fun H locs G => ?_)
  clear e9
  refine lv_aload_n F.1 F.2.1 dX9_beginAnew_32 rfl (lv_at hl 0 rfl) ?_
  refine lv_aload_n F.1 F.2.1 dX9_beginAnew_33 rfl (lv_at hl 0 rfl) ?_
  refine k_get F G 9 rfl (N := 14) (Tt := TX9) rfl kf9 0 (by decide) kl39 (v := .ref (aP 0)) rfl dX9_beginAnew_34 ?_
  refine k_get F G 0 rfl (N := 18) (Tt := TX5) rfl kf5 12 (by decide) kl445 (v := .int (v 5 0)) rfl dX9_beginAnew_37 ?_
  obtain ⟨c, h⟩ := op_g h
  obtain ⟨w_5, e9, h⟩ := op_st h
  refine k_put F G 9 rfl (N := 14) (Tt := TX9) rfl kf9 tyX9_ok nmX9 8 (by decide) kl446 rfl (v := .int (v 5 0)) c.1 c.2 (Nat.le_of_ble_eq_true rfl) dX9_beginAnew_40 (Wn := (gW T aP aQ v w_5)) (by subst e9; rfl) (fun H locs G => ?_)
  clear e9
  refine lv_aload_n F.1 F.2.1 dX9_beginAnew_43 rfl (lv_at hl 0 rfl) ?_
  refine lv_iconst (v := 0) F.1 F.2.1 dX9_beginAnew_44 (by decide) ?_
  obtain ⟨w_6, e9, h⟩ := op_st h
  refine k_put F G 9 rfl (N := 14) (Tt := TX9) rfl kf9 tyX9_ok nmX9 9 (by decide) kl447 rfl (v := .int 0) rfl rfl (Nat.le_of_ble_eq_true rfl) dX9_beginAnew_45 (Wn := (gW T aP aQ v w_6)) (by subst e9; rfl) (fun H locs G => ?_)
  clear e9
  refine lv_aload_n F.1 F.2.1 dX9_beginAnew_48 rfl (lv_at hl 0 rfl) ?_
  refine lv_iconst (v := 0) F.1 F.2.1 dX9_beginAnew_49 (by decide) ?_
  obtain ⟨w_7, e9, h⟩ := op_st h
  refine k_put F G 9 rfl (N := 14) (Tt := TX9) rfl kf9 tyX9_ok nmX9 10 (by decide) kl448 rfl (v := .int 0) rfl rfl (Nat.le_of_ble_eq_true rfl) dX9_beginAnew_50 (Wn := (gW T aP aQ v w_7)) (by subst e9; rfl) (fun H locs G => ?_)
  clear e9
  refine lv_aload_n F.1 F.2.1 dX9_beginAnew_53 rfl (lv_at hl 0 rfl) ?_
  refine lv_iconst (v := 0) F.1 F.2.1 dX9_beginAnew_54 (by decide) ?_
  obtain ⟨w_8, e9, h⟩ := op_st h
  refine k_put F G 9 rfl (N := 14) (Tt := TX9) rfl kf9 tyX9_ok nmX9 11 (by decide) kl449 rfl (v := .int 0) rfl rfl (Nat.le_of_ble_eq_true rfl) dX9_beginAnew_55 (Wn := (gW T aP aQ v w_8)) (by subst e9; rfl) (fun H locs G => ?_)
  clear e9
  refine lv_aload_n F.1 F.2.1 dX9_beginAnew_58 rfl (lv_at hl 0 rfl) ?_
  refine k_get F G 9 rfl (N := 14) (Tt := TX9) rfl kf9 1 (by decide) kl43 (v := .ref (aQ 2)) rfl dX9_beginAnew_59 ?_
  obtain ⟨w_9, hc, h⟩ := op_b h
  refine k_callV (rv := none) (Wc := (gW T aP aQ v w_8)) (W2 := (gW T aP aQ v w_9)) (Wn := (gW T aP aQ v w_9)) (As := []) (rest := []) F G (mX2_beginAnew l D T aP aQ v w_8 hc) (cwV 0 F.2.2.2.2 (kg_c kl450 (kg_c kl451 (kg_c kl452 (kg_c kl42 (kg_c kl132 kg_a))))) rfl rfl rfl (by decide +kernel) ⟨Nat.le_of_ble_eq_true rfl, Nat.le_of_ble_eq_true rfl⟩) 11 rfl (q := (RX2, TX2, 9)) rfl rfl (kCut_F G) rfl hl.1 rfl (Nat.le_of_ble_eq_true rfl) dX9_beginAnew_62 ⟨Nat.le_of_ble_eq_true rfl, Nat.le_of_ble_eq_true rfl⟩ (cN := 0) (sN := 0) ⟨rfl, rfl⟩ (fun H locs G => ?_)
  refine lv_aload_n F.1 F.2.1 dX9_beginAnew_65 rfl (lv_at hl 0 rfl) ?_
  refine k_get F G 9 rfl (N := 14) (Tt := TX9) rfl kf9 2 (by decide) kl47 (v := .ref (aQ 9)) rfl dX9_beginAnew_66 ?_
  obtain ⟨w_10, hc, h⟩ := op_b h
  refine k_callV (rv := none) (Wc := (gW T aP aQ v w_9)) (W2 := (gW T aP aQ v w_10)) (Wn := (gW T aP aQ v w_10)) (As := []) (rest := []) F G (mX3_beginAnew l D T aP aQ v w_9 hc) (cwV 0 F.2.2.2.2 (kg_c kl453 (kg_c kl454 (kg_c kl455 (kg_c kl46 (kg_c kl163 kg_a))))) rfl rfl rfl (by decide +kernel) ⟨Nat.le_of_ble_eq_true rfl, Nat.le_of_ble_eq_true rfl⟩) 18 rfl (q := (RX3, TX3, 7)) rfl rfl (kCut_F G) rfl hl.1 rfl (Nat.le_of_ble_eq_true rfl) dX9_beginAnew_69 ⟨Nat.le_of_ble_eq_true rfl, Nat.le_of_ble_eq_true rfl⟩ (cN := 0) (sN := 0) ⟨rfl, rfl⟩ (fun H locs G => ?_)
  refine lv_aload_n F.1 F.2.1 dX9_beginAnew_72 rfl (lv_at hl 0 rfl) ?_
  refine k_get F G 9 rfl (N := 14) (Tt := TX9) rfl kf9 3 (by decide) kl51 (v := .ref (aQ 19)) rfl dX9_beginAnew_73 ?_
  obtain ⟨w_11, hc, h⟩ := op_b h
  refine k_callV (rv := none) (Wc := (gW T aP aQ v w_10)) (W2 := (gW T aP aQ v w_11)) (Wn := (gW T aP aQ v w_11)) (As := []) (rest := []) F G (mX8_beginAnew l D T aP aQ v w_10 hc) (cwV 0 F.2.2.2.2 (kg_c kl456 (kg_c kl457 (kg_c kl458 (kg_c kl50 (kg_c kl428 kg_a))))) rfl rfl rfl (by decide +kernel) ⟨Nat.le_of_ble_eq_true rfl, Nat.le_of_ble_eq_true rfl⟩) 28 rfl (q := (RX8, TX8, 9)) rfl rfl (kCut_F G) rfl hl.1 rfl (Nat.le_of_ble_eq_true rfl) dX9_beginAnew_76 ⟨Nat.le_of_ble_eq_true rfl, Nat.le_of_ble_eq_true rfl⟩ (cN := 0) (sN := 0) ⟨rfl, rfl⟩ (fun H locs G => ?_)
  obtain rfl := op_1 h
  exact k_vret F hr hlk G dX9_beginAnew_79
abbrev rmX9_beginBlackout : Room := ({ frames := 3, cells := 0, slots := 0, locals := 64 } : Room)
noncomputable def qX9_beginBlackout (v : Nat → Nat → Int32) (w : Nat → Nat → Int32) (x1 : Int32) : Option ((Nat → Nat → Int32)) :=
  (bs (va_up w 5 (fun _ => ((w 5 0) + 1))) fun w_1 => (bs (va_up w_1 1 (fun _ => (if (w_1 1 0) < ((w_1 0 0) + x1) then ((w_1 0 0) + x1) else (w_1 1 0)))) fun w_2 => bd (qX2_losePower v w_2) fun w_3 => bd (qX3_losePower v w_3 (w_3 0 0)) fun w_4 => (bs (va_up w_4 31 (fun _ => 0)) fun w_5 => some w_5)))

set_option maxHeartbeats 4000000 in
set_option maxRecDepth 100000 in
theorem mX9_beginBlackout (l : Launch) (D : va_G) (T : Nat → ClassId) (aP : Nat → Nat) (aQ : Nat → Nat) (v : Nat → Nat → Int32) (w : Nat → Nat → Int32) (x1 : Int32) {wR : Nat → Nat → Int32} (hres : qX9_beginBlackout v w x1 = some (wR)) : Ct l yX9_beginBlackout (Cond.code yX9_beginBlackout cX9_beginBlackout 2 none :: kAll) rmX9_beginBlackout D T [.ref (aQ 0), .int x1] (gW T aP aQ v w) none (gW T aP aQ v wR) := by
  refine Ct.of (cc := cX9_beginBlackout) (maxL := 2) (ret := none) (by decide +kernel) rfl (Nat.le_of_ble_eq_true rfl) ?_
  intro pr en st mi ag bl me co A ls F hr hlk hnm G hl
  have hl : lv_has ls 2 [(0, .ref (aQ 0)), (1, .int x1)] := hl
  have h := hres
  unfold qX9_beginBlackout at h
  refine lv_aload_n F.1 F.2.1 dX9_beginBlackout_0 rfl (lv_at hl 0 rfl) ?_
  refine lv_dup F.1 F.2.1 dX9_beginBlackout_1 rfl ?_
  refine k_get F G 9 rfl (N := 14) (Tt := TX9) rfl kf9 9 (by decide) kl447 (v := .int (w 5 0)) rfl dX9_beginBlackout_2 ?_
  refine lv_iconst (v := 1) F.1 F.2.1 dX9_beginBlackout_5 (by decide) ?_
  refine lv_iadd F.1 F.2.1 dX9_beginBlackout_6 ?_
  obtain ⟨w_1, e9, h⟩ := op_st h
  refine k_put F G 9 rfl (N := 14) (Tt := TX9) rfl kf9 tyX9_ok nmX9 9 (by decide) kl447 rfl (v := .int ((w 5 0) + 1)) rfl rfl (Nat.le_of_ble_eq_true rfl) dX9_beginBlackout_7 (Wn := (gW T aP aQ v w_1)) (by subst e9; rfl) (fun H locs G => ?_)
  clear e9
  refine lv_aload_n F.1 F.2.1 dX9_beginBlackout_10 rfl (lv_at hl 0 rfl) ?_
  refine lv_aload_n F.1 F.2.1 dX9_beginBlackout_11 rfl (lv_at hl 0 rfl) ?_
  refine k_get F G 9 rfl (N := 14) (Tt := TX9) rfl kf9 5 (by decide) kl440 (v := .int (w_1 1 0)) rfl dX9_beginBlackout_12 ?_
  refine lv_aload_n F.1 F.2.1 dX9_beginBlackout_15 rfl (lv_at hl 0 rfl) ?_
  refine k_get F G 9 rfl (N := 14) (Tt := TX9) rfl kf9 4 (by decide) kl439 (v := .int (w_1 0 0)) rfl dX9_beginBlackout_16 ?_
  refine lv_iload_n F.1 F.2.1 dX9_beginBlackout_19 rfl (lv_at hl 1 rfl) ?_
  refine lv_iadd F.1 F.2.1 dX9_beginBlackout_20 ?_
  refine va_mmax F.1 F.2.1 (F.2.2.1.trans hl.1.symm) F.2.2.2.1 (F.2.2.2.2 _ kl461) (F.2.2.2.2 _ kl462) (F.2.2.2.2 _ kl70) (F.2.2.2.2 _ kl463) (Nat.le_of_ble_eq_true rfl) (Nat.le_of_ble_eq_true rfl) (Nat.le_of_ble_eq_true rfl) (Nat.le_of_ble_eq_true rfl) dX9_beginBlackout_21 ?_
  obtain ⟨w_2, e9, h⟩ := op_st h
  refine k_put F G 9 rfl (N := 14) (Tt := TX9) rfl kf9 tyX9_ok nmX9 5 (by decide) kl440 rfl (v := .int (if (w_1 1 0) < ((w_1 0 0) + x1) then ((w_1 0 0) + x1) else (w_1 1 0))) rfl rfl (Nat.le_of_ble_eq_true rfl) dX9_beginBlackout_24 (Wn := (gW T aP aQ v w_2)) (by subst e9; rfl) (fun H locs G => ?_)
  clear e9
  refine lv_aload_n F.1 F.2.1 dX9_beginBlackout_27 rfl (lv_at hl 0 rfl) ?_
  refine k_get F G 9 rfl (N := 14) (Tt := TX9) rfl kf9 1 (by decide) kl43 (v := .ref (aQ 2)) rfl dX9_beginBlackout_28 ?_
  obtain ⟨w_3, hc, h⟩ := op_b h
  refine k_callV (rv := none) (Wc := (gW T aP aQ v w_2)) (W2 := (gW T aP aQ v w_3)) (Wn := (gW T aP aQ v w_3)) (As := []) (rest := []) F G (mX2_losePower l D T aP aQ v w_2 hc) (cwV 0 F.2.2.2.2 (kg_c kl465 (kg_c kl466 (kg_c kl467 (kg_c kl42 (kg_c kl144 kg_a))))) rfl rfl rfl (by decide +kernel) ⟨Nat.le_of_ble_eq_true rfl, Nat.le_of_ble_eq_true rfl⟩) 11 rfl (q := (RX2, TX2, 9)) rfl rfl (kCut_F G) rfl hl.1 rfl (Nat.le_of_ble_eq_true rfl) dX9_beginBlackout_31 ⟨Nat.le_of_ble_eq_true rfl, Nat.le_of_ble_eq_true rfl⟩ (cN := 0) (sN := 0) ⟨rfl, rfl⟩ (fun H locs G => ?_)
  refine lv_aload_n F.1 F.2.1 dX9_beginBlackout_34 rfl (lv_at hl 0 rfl) ?_
  refine k_get F G 9 rfl (N := 14) (Tt := TX9) rfl kf9 2 (by decide) kl47 (v := .ref (aQ 9)) rfl dX9_beginBlackout_35 ?_
  refine lv_aload_n F.1 F.2.1 dX9_beginBlackout_38 rfl (lv_at hl 0 rfl) ?_
  refine k_get F G 9 rfl (N := 14) (Tt := TX9) rfl kf9 4 (by decide) kl439 (v := .int (w_3 0 0)) rfl dX9_beginBlackout_39 ?_
  obtain ⟨w_4, hc, h⟩ := op_b h
  refine k_callV (rv := none) (Wc := (gW T aP aQ v w_3)) (W2 := (gW T aP aQ v w_4)) (Wn := (gW T aP aQ v w_4)) (As := [.int (w_3 0 0)]) (rest := []) F G (mX3_losePower l D T aP aQ v w_3 (w_3 0 0) hc) (cwV 1 F.2.2.2.2 (kg_c kl468 (kg_c kl168 (kg_c kl169 (kg_c kl46 (kg_c kl161 kg_a))))) rfl rfl rfl (by decide +kernel) ⟨Nat.le_of_ble_eq_true rfl, Nat.le_of_ble_eq_true rfl⟩) 18 rfl (q := (RX3, TX3, 7)) rfl rfl (kCut_F G) rfl hl.1 rfl (Nat.le_of_ble_eq_true rfl) dX9_beginBlackout_42 ⟨Nat.le_of_ble_eq_true rfl, Nat.le_of_ble_eq_true rfl⟩ (cN := 0) (sN := 0) ⟨rfl, rfl⟩ (fun H locs G => ?_)
  refine lv_aload_n F.1 F.2.1 dX9_beginBlackout_45 rfl (lv_at hl 0 rfl) ?_
  refine k_get F G 9 rfl (N := 14) (Tt := TX9) rfl kf9 3 (by decide) kl51 (v := .ref (aQ 19)) rfl dX9_beginBlackout_46 ?_
  refine lv_iconst (v := 0) F.1 F.2.1 dX9_beginBlackout_49 (by decide) ?_
  obtain ⟨w_5, e9, h⟩ := op_st h
  refine k_put F G 28 rfl (N := 9) (Tt := TX8) rfl kf8 tyX8_ok nmX8 4 (by decide) kl464 rfl (v := .int 0) rfl rfl (Nat.le_of_ble_eq_true rfl) dX9_beginBlackout_50 (Wn := (gW T aP aQ v w_5)) (by subst e9; rfl) (fun H locs G => ?_)
  clear e9
  obtain rfl := op_1 h
  exact k_vret F hr hlk G dX9_beginBlackout_53
abbrev rmX9_receiveMessages : Room := ({ frames := 3, cells := 0, slots := 0, locals := 68 } : Room)
noncomputable def qX9_receiveMessages_L2 (v : Nat → Nat → Int32) (K : (Nat → Nat → Int32) → Option ((Nat → Nat → Int32))) : Nat → Int32 → (Nat → Nat → Int32) → Option ((Nat → Nat → Int32))
  | 0, _, _ => none
  | n + 1, x1_1, w_2 =>
    if (w_2 31 0) ≤ x1_1 then (K w_2) else gd (vp_in x1_1 72) (gd (vp_in x1_1 72) ((jn (fun (w_4 : Nat → Nat → Int32) => (qX9_receiveMessages_L2 v K n (x1_1 + 1) w_4)) fun j164 => (if ((w_2 28) x1_1.toNatClampNeg) = 0 then bd (qX3_hearAsk v w_2 ((w_2 29) x1_1.toNatClampNeg) (w_2 0 0)) fun w_5 => (j164 w_5) else if ((w_2 28) x1_1.toNatClampNeg) = 1 then bd (qX3_hearRuns v w_2 ((w_2 29) x1_1.toNatClampNeg) (w_2 0 0)) fun w_6 => (j164 w_6) else if ((w_2 28) x1_1.toNatClampNeg) = 2 then bd (qX3_setMark v w_2 ((w_2 29) x1_1.toNatClampNeg) 0 (w_2 0 0)) fun w_7 => (j164 w_7) else if ((w_2 28) x1_1.toNatClampNeg) = 3 then gd (vp_in x1_1 72) (bd (qX3_hearState v w_2 ((w_2 29) x1_1.toNatClampNeg) ((w_2 30) x1_1.toNatClampNeg) (w_2 0 0)) fun w_8 => (j164 w_8)) else if ((w_2 28) x1_1.toNatClampNeg) = 4 then bd (qX2_hearGrant v w_2 ((w_2 29) x1_1.toNatClampNeg)) fun w_9 => (j164 w_9) else if ((w_2 28) x1_1.toNatClampNeg) = 5 then bd (qX2_hearPoll v w_2 ((w_2 29) x1_1.toNatClampNeg)) fun w_10 => (j164 w_10) else (j164 w_2)))))

noncomputable def qX9_receiveMessages (v : Nat → Nat → Int32) (w : Nat → Nat → Int32) : Option ((Nat → Nat → Int32)) :=
  (qX9_receiveMessages_L2 v  (fun (w_3 : Nat → Nat → Int32) => (bs (va_up w_3 31 (fun _ => 0)) fun w_11 => some w_11)) fu 0 w)

set_option maxHeartbeats 4000000 in
set_option maxRecDepth 100000 in
theorem mX9_receiveMessages (l : Launch) (D : va_G) (T : Nat → ClassId) (aP : Nat → Nat) (aQ : Nat → Nat) (v : Nat → Nat → Int32) (w : Nat → Nat → Int32) {wR : Nat → Nat → Int32} (hres : qX9_receiveMessages v w = some (wR)) : Ct l yX9_receiveMessages (Cond.code yX9_receiveMessages cX9_receiveMessages 3 none :: kAll) rmX9_receiveMessages D T [.ref (aQ 0)] (gW T aP aQ v w) none (gW T aP aQ v wR) := by
  refine Ct.of (cc := cX9_receiveMessages) (maxL := 3) (ret := none) (by decide +kernel) rfl (Nat.le_of_ble_eq_true rfl) ?_
  intro pr en st mi ag bl me co A ls F hr hlk hnm G hl
  have hl : lv_has ls 3 [(0, .ref (aQ 0))] := hl
  have h := hres
  unfold qX9_receiveMessages at h
  refine lv_iconst (v := 0) F.1 F.2.1 dX9_receiveMessages_0 (by decide) ?_
  refine lv_istore_n (lv' := [(1, .int 0), (0, .ref (aQ 0))]) F.1 F.2.1 dX9_receiveMessages_1 rfl hl (by decide) rfl (fun ls hl => ?_)
  have L2 : ∀ (v : Nat → Nat → Int32) (K : (Nat → Nat → Int32) → Option ((Nat → Nat → Int32))) (hK : ∀ (w_3 : Nat → Nat → Int32) (H : Heap) (locs : List Loc) (ls : Array Slot), K w_3 = some (wR) → Rg D T A st (gW T aP aQ v w_3) H locs → lv_has ls 3 [(0, .ref (aQ 0))] → W pr l en rmX9_receiveMessages st mi ag bl me co H locs 0 0 (MQ bl (kQ none D (gW T aP aQ v wR) A) ag st rmX9_receiveMessages.cells rmX9_receiveMessages.slots A) (F0 mi 170 ls [])) (n : Nat) (x1_1 : Int32) (w_2 : Nat → Nat → Int32) (H : Heap) (locs : List Loc) (ls : Array Slot), qX9_receiveMessages_L2 v K n x1_1 w_2 = some (wR) → Rg D T A st (gW T aP aQ v w_2) H locs → lv_has ls 3 [(0, .ref (aQ 0)), (1, .int x1_1)] → W pr l en rmX9_receiveMessages st mi ag bl me co H locs 0 0 (MQ bl (kQ none D (gW T aP aQ v wR) A) ag st rmX9_receiveMessages.cells rmX9_receiveMessages.slots A) (F0 mi 2 ls []) := by
    intro v K hK n
    induction n with
    | zero => intro x1_1 w_2 H locs ls h; exact op_n h
    | succ n ih =>
      intro x1_1 w_2 H locs ls h G hl
      rw [qX9_receiveMessages_L2] at h
      refine lv_iload_n F.1 F.2.1 dX9_receiveMessages_2 rfl (lv_at hl 1 rfl) ?_
      refine lv_aload_n F.1 F.2.1 dX9_receiveMessages_3 rfl (lv_at hl 0 rfl) ?_
      refine k_get F G 9 rfl (N := 14) (Tt := TX9) rfl kf9 3 (by decide) kl51 (v := .ref (aQ 19)) rfl dX9_receiveMessages_4 ?_
      refine k_get F G 28 rfl (N := 9) (Tt := TX8) rfl kf8 4 (by decide) kl464 (v := .int (w_2 31 0)) rfl dX9_receiveMessages_7 ?_
      refine lv_icmp_ge (tgt := 170) F.1 F.2.1 dX9_receiveMessages_10 (by decide) (fun c => ?_) (fun c => ?_)
      · have h := op_t h c
        exact hK w_2 _ _ _ h G (lv_sub hl [0] rfl)
      · have h := op_f h c
        refine lv_aload_n F.1 F.2.1 dX9_receiveMessages_13 rfl (lv_at hl 0 rfl) ?_
        refine k_get F G 9 rfl (N := 14) (Tt := TX9) rfl kf9 3 (by decide) kl51 (v := .ref (aQ 19)) rfl dX9_receiveMessages_14 ?_
        refine k_get F G 28 rfl (N := 9) (Tt := TX8) rfl kf8 2 (by decide) kl470 (v := .ref (aQ 21)) rfl dX9_receiveMessages_17 ?_
        refine lv_iload_n F.1 F.2.1 dX9_receiveMessages_20 rfl (lv_at hl 1 rfl) ?_
        obtain ⟨c, h⟩ := op_g h
        refine k_iald F G 30 rfl c dX9_receiveMessages_21 ?_
        refine lv_istore_n (lv' := [(2, .int ((w_2 29) x1_1.toNatClampNeg)), (0, .ref (aQ 0)), (1, .int x1_1)]) F.1 F.2.1 dX9_receiveMessages_22 rfl hl (by decide) rfl (fun ls hl => ?_)
        refine lv_aload_n F.1 F.2.1 dX9_receiveMessages_23 rfl (lv_at hl 1 rfl) ?_
        refine k_get F G 9 rfl (N := 14) (Tt := TX9) rfl kf9 3 (by decide) kl51 (v := .ref (aQ 19)) rfl dX9_receiveMessages_24 ?_
        refine k_get F G 28 rfl (N := 9) (Tt := TX8) rfl kf8 1 (by decide) kl471 (v := .ref (aQ 20)) rfl dX9_receiveMessages_27 ?_
        refine lv_iload_n F.1 F.2.1 dX9_receiveMessages_30 rfl (lv_at hl 2 rfl) ?_
        obtain ⟨c, h⟩ := op_g h
        refine k_iald F G 29 rfl c dX9_receiveMessages_31 ?_
        obtain ⟨j164, hj164, h⟩ := op_j h
        have J164 : ∀ (w_4 : Nat → Nat → Int32) (H : Heap) (locs : List Loc) (ls : Array Slot), j164 w_4 = some (wR) → Rg D T A st (gW T aP aQ v w_4) H locs → lv_has ls 3 [(0, .ref (aQ 0)), (1, .int x1_1)] → W pr l en rmX9_receiveMessages st mi ag bl me co H locs 0 0 (MQ bl (kQ none D (gW T aP aQ v wR) A) ag st rmX9_receiveMessages.cells rmX9_receiveMessages.slots A) (F0 mi 164 ls []) := by
          intro w_4 H locs ls h G hl
          rw [hj164] at h
          refine lv_iinc (v := (x1_1 + 1)) (lv' := [(1, .int (x1_1 + 1)), (0, .ref (aQ 0))]) F.1 F.2.1 dX9_receiveMessages_164 hl (k := 1) rfl rfl (by decide) rfl (fun ls hl => ?_)
          refine lv_goto (tgt := 2) F.1 F.2.1 dX9_receiveMessages_167 (by decide) ?_
          exact ih (x1_1 + 1) w_4 _ _ _ h G (lv_sub hl [1, 0] rfl)
        clear hj164
        by_cases c0 : ((w_2 28) x1_1.toNatClampNeg) = 0
        · have h := op_t h c0
          refine k_tab F dX9_receiveMessages_32 (tgt := 72) 0 c0 (by decide) (by decide) rfl (by decide) ?_
          refine lv_aload_n F.1 F.2.1 dX9_receiveMessages_72 rfl (lv_at hl 1 rfl) ?_
          refine k_get F G 9 rfl (N := 14) (Tt := TX9) rfl kf9 2 (by decide) kl47 (v := .ref (aQ 9)) rfl dX9_receiveMessages_73 ?_
          refine lv_iload_n F.1 F.2.1 dX9_receiveMessages_76 rfl (lv_at hl 0 rfl) ?_
          refine lv_aload_n F.1 F.2.1 dX9_receiveMessages_77 rfl (lv_at hl 1 rfl) ?_
          refine k_get F G 9 rfl (N := 14) (Tt := TX9) rfl kf9 4 (by decide) kl439 (v := .int (w_2 0 0)) rfl dX9_receiveMessages_78 ?_
          obtain ⟨w_5, hc, h⟩ := op_b h
          refine k_callV (rv := none) (Wc := (gW T aP aQ v w_2)) (W2 := (gW T aP aQ v w_5)) (Wn := (gW T aP aQ v w_5)) (As := [.int ((w_2 29) x1_1.toNatClampNeg), .int (w_2 0 0)]) (rest := []) F G (mX3_hearAsk l D T aP aQ v w_2 ((w_2 29) x1_1.toNatClampNeg) (w_2 0 0) hc) (cwV 2 F.2.2.2.2 (kg_c kl473 (kg_c kl474 (kg_c kl475 (kg_c kl46 (kg_c kl179 kg_a))))) rfl rfl rfl (by decide +kernel) ⟨Nat.le_of_ble_eq_true rfl, Nat.le_of_ble_eq_true rfl⟩) 18 rfl (q := (RX3, TX3, 7)) rfl rfl (kCut_F G) rfl hl.1 rfl (Nat.le_of_ble_eq_true rfl) dX9_receiveMessages_81 ⟨Nat.le_of_ble_eq_true rfl, Nat.le_of_ble_eq_true rfl⟩ (cN := 0) (sN := 0) ⟨rfl, rfl⟩ (fun H locs G => ?_)
          refine lv_goto (tgt := 164) F.1 F.2.1 dX9_receiveMessages_84 (by decide) ?_
          exact J164 w_5 _ _ _ h G (lv_sub hl [1, 2] rfl)
        · have h := op_f h c0
          by_cases c1 : ((w_2 28) x1_1.toNatClampNeg) = 1
          · have h := op_t h c1
            refine k_tab F dX9_receiveMessages_32 (tgt := 87) 1 c1 (by decide) (by decide) rfl (by decide) ?_
            refine lv_aload_n F.1 F.2.1 dX9_receiveMessages_87 rfl (lv_at hl 1 rfl) ?_
            refine k_get F G 9 rfl (N := 14) (Tt := TX9) rfl kf9 2 (by decide) kl47 (v := .ref (aQ 9)) rfl dX9_receiveMessages_88 ?_
            refine lv_iload_n F.1 F.2.1 dX9_receiveMessages_91 rfl (lv_at hl 0 rfl) ?_
            refine lv_aload_n F.1 F.2.1 dX9_receiveMessages_92 rfl (lv_at hl 1 rfl) ?_
            refine k_get F G 9 rfl (N := 14) (Tt := TX9) rfl kf9 4 (by decide) kl439 (v := .int (w_2 0 0)) rfl dX9_receiveMessages_93 ?_
            obtain ⟨w_6, hc, h⟩ := op_b h
            refine k_callV (rv := none) (Wc := (gW T aP aQ v w_2)) (W2 := (gW T aP aQ v w_6)) (Wn := (gW T aP aQ v w_6)) (As := [.int ((w_2 29) x1_1.toNatClampNeg), .int (w_2 0 0)]) (rest := []) F G (mX3_hearRuns l D T aP aQ v w_2 ((w_2 29) x1_1.toNatClampNeg) (w_2 0 0) hc) (cwV 2 F.2.2.2.2 (kg_c kl476 (kg_c kl190 (kg_c kl191 (kg_c kl46 (kg_c kl183 kg_a))))) rfl rfl rfl (by decide +kernel) ⟨Nat.le_of_ble_eq_true rfl, Nat.le_of_ble_eq_true rfl⟩) 18 rfl (q := (RX3, TX3, 7)) rfl rfl (kCut_F G) rfl hl.1 rfl (Nat.le_of_ble_eq_true rfl) dX9_receiveMessages_96 ⟨Nat.le_of_ble_eq_true rfl, Nat.le_of_ble_eq_true rfl⟩ (cN := 0) (sN := 0) ⟨rfl, rfl⟩ (fun H locs G => ?_)
            refine lv_goto (tgt := 164) F.1 F.2.1 dX9_receiveMessages_99 (by decide) ?_
            exact J164 w_6 _ _ _ h G (lv_sub hl [1, 2] rfl)
          · have h := op_f h c1
            by_cases c2 : ((w_2 28) x1_1.toNatClampNeg) = 2
            · have h := op_t h c2
              refine k_tab F dX9_receiveMessages_32 (tgt := 102) 2 c2 (by decide) (by decide) rfl (by decide) ?_
              refine lv_aload_n F.1 F.2.1 dX9_receiveMessages_102 rfl (lv_at hl 1 rfl) ?_
              refine k_get F G 9 rfl (N := 14) (Tt := TX9) rfl kf9 2 (by decide) kl47 (v := .ref (aQ 9)) rfl dX9_receiveMessages_103 ?_
              refine lv_iload_n F.1 F.2.1 dX9_receiveMessages_106 rfl (lv_at hl 0 rfl) ?_
              refine lv_iconst (v := 0) F.1 F.2.1 dX9_receiveMessages_107 (by decide) ?_
              refine lv_aload_n F.1 F.2.1 dX9_receiveMessages_108 rfl (lv_at hl 1 rfl) ?_
              refine k_get F G 9 rfl (N := 14) (Tt := TX9) rfl kf9 4 (by decide) kl439 (v := .int (w_2 0 0)) rfl dX9_receiveMessages_109 ?_
              obtain ⟨w_7, hc, h⟩ := op_b h
              refine k_callV (rv := none) (Wc := (gW T aP aQ v w_2)) (W2 := (gW T aP aQ v w_7)) (Wn := (gW T aP aQ v w_7)) (As := [.int ((w_2 29) x1_1.toNatClampNeg), .int 0, .int (w_2 0 0)]) (rest := []) F G (mX3_setMark l D T aP aQ v w_2 ((w_2 29) x1_1.toNatClampNeg) 0 (w_2 0 0) hc) (cwV 3 F.2.2.2.2 (kg_c kl477 (kg_c kl181 (kg_c kl182 (kg_c kl46 (kg_c kl178 kg_a))))) rfl rfl rfl (by decide +kernel) ⟨Nat.le_of_ble_eq_true rfl, Nat.le_of_ble_eq_true rfl⟩) 18 rfl (q := (RX3, TX3, 7)) rfl rfl (kCut_F G) rfl hl.1 rfl (Nat.le_of_ble_eq_true rfl) dX9_receiveMessages_112 ⟨Nat.le_of_ble_eq_true rfl, Nat.le_of_ble_eq_true rfl⟩ (cN := 0) (sN := 0) ⟨rfl, rfl⟩ (fun H locs G => ?_)
              refine lv_goto (tgt := 164) F.1 F.2.1 dX9_receiveMessages_115 (by decide) ?_
              exact J164 w_7 _ _ _ h G (lv_sub hl [1, 2] rfl)
            · have h := op_f h c2
              by_cases c3 : ((w_2 28) x1_1.toNatClampNeg) = 3
              · have h := op_t h c3
                refine k_tab F dX9_receiveMessages_32 (tgt := 118) 3 c3 (by decide) (by decide) rfl (by decide) ?_
                refine lv_aload_n F.1 F.2.1 dX9_receiveMessages_118 rfl (lv_at hl 1 rfl) ?_
                refine k_get F G 9 rfl (N := 14) (Tt := TX9) rfl kf9 2 (by decide) kl47 (v := .ref (aQ 9)) rfl dX9_receiveMessages_119 ?_
                refine lv_iload_n F.1 F.2.1 dX9_receiveMessages_122 rfl (lv_at hl 0 rfl) ?_
                refine lv_aload_n F.1 F.2.1 dX9_receiveMessages_123 rfl (lv_at hl 1 rfl) ?_
                refine k_get F G 9 rfl (N := 14) (Tt := TX9) rfl kf9 3 (by decide) kl51 (v := .ref (aQ 19)) rfl dX9_receiveMessages_124 ?_
                refine k_get F G 28 rfl (N := 9) (Tt := TX8) rfl kf8 3 (by decide) kl472 (v := .ref (aQ 22)) rfl dX9_receiveMessages_127 ?_
                refine lv_iload_n F.1 F.2.1 dX9_receiveMessages_130 rfl (lv_at hl 2 rfl) ?_
                obtain ⟨c, h⟩ := op_g h
                refine k_iald F G 31 rfl c dX9_receiveMessages_131 ?_
                refine lv_aload_n F.1 F.2.1 dX9_receiveMessages_132 rfl (lv_at hl 1 rfl) ?_
                refine k_get F G 9 rfl (N := 14) (Tt := TX9) rfl kf9 4 (by decide) kl439 (v := .int (w_2 0 0)) rfl dX9_receiveMessages_133 ?_
                obtain ⟨w_8, hc, h⟩ := op_b h
                refine k_callV (rv := none) (Wc := (gW T aP aQ v w_2)) (W2 := (gW T aP aQ v w_8)) (Wn := (gW T aP aQ v w_8)) (As := [.int ((w_2 29) x1_1.toNatClampNeg), .int ((w_2 30) x1_1.toNatClampNeg), .int (w_2 0 0)]) (rest := []) F G (mX3_hearState l D T aP aQ v w_2 ((w_2 29) x1_1.toNatClampNeg) ((w_2 30) x1_1.toNatClampNeg) (w_2 0 0) hc) (cwV 3 F.2.2.2.2 (kg_c kl478 (kg_c kl479 (kg_c kl480 (kg_c kl46 (kg_c kl188 kg_a))))) rfl rfl rfl (by decide +kernel) ⟨Nat.le_of_ble_eq_true rfl, Nat.le_of_ble_eq_true rfl⟩) 18 rfl (q := (RX3, TX3, 7)) rfl rfl (kCut_F G) rfl hl.1 rfl (Nat.le_of_ble_eq_true rfl) dX9_receiveMessages_136 ⟨Nat.le_of_ble_eq_true rfl, Nat.le_of_ble_eq_true rfl⟩ (cN := 0) (sN := 0) ⟨rfl, rfl⟩ (fun H locs G => ?_)
                refine lv_goto (tgt := 164) F.1 F.2.1 dX9_receiveMessages_139 (by decide) ?_
                exact J164 w_8 _ _ _ h G (lv_sub hl [1, 2] rfl)
              · have h := op_f h c3
                by_cases c4 : ((w_2 28) x1_1.toNatClampNeg) = 4
                · have h := op_t h c4
                  refine k_tab F dX9_receiveMessages_32 (tgt := 142) 4 c4 (by decide) (by decide) rfl (by decide) ?_
                  refine lv_aload_n F.1 F.2.1 dX9_receiveMessages_142 rfl (lv_at hl 1 rfl) ?_
                  refine k_get F G 9 rfl (N := 14) (Tt := TX9) rfl kf9 1 (by decide) kl43 (v := .ref (aQ 2)) rfl dX9_receiveMessages_143 ?_
                  refine lv_iload_n F.1 F.2.1 dX9_receiveMessages_146 rfl (lv_at hl 0 rfl) ?_
                  obtain ⟨w_9, hc, h⟩ := op_b h
                  refine k_callV (rv := none) (Wc := (gW T aP aQ v w_2)) (W2 := (gW T aP aQ v w_9)) (Wn := (gW T aP aQ v w_9)) (As := [.int ((w_2 29) x1_1.toNatClampNeg)]) (rest := []) F G (mX2_hearGrant l D T aP aQ v w_2 ((w_2 29) x1_1.toNatClampNeg) hc) (cwV 1 F.2.2.2.2 (kg_c kl481 (kg_c kl482 (kg_c kl483 (kg_c kl42 (kg_c kl151 kg_a))))) rfl rfl rfl (by decide +kernel) ⟨Nat.le_of_ble_eq_true rfl, Nat.le_of_ble_eq_true rfl⟩) 11 rfl (q := (RX2, TX2, 9)) rfl rfl (kCut_F G) rfl hl.1 rfl (Nat.le_of_ble_eq_true rfl) dX9_receiveMessages_147 ⟨Nat.le_of_ble_eq_true rfl, Nat.le_of_ble_eq_true rfl⟩ (cN := 0) (sN := 0) ⟨rfl, rfl⟩ (fun H locs G => ?_)
                  refine lv_goto (tgt := 164) F.1 F.2.1 dX9_receiveMessages_150 (by decide) ?_
                  exact J164 w_9 _ _ _ h G (lv_sub hl [1, 2] rfl)
                · have h := op_f h c4
                  by_cases c5 : ((w_2 28) x1_1.toNatClampNeg) = 5
                  · have h := op_t h c5
                    refine k_tab F dX9_receiveMessages_32 (tgt := 153) 5 c5 (by decide) (by decide) rfl (by decide) ?_
                    refine lv_aload_n F.1 F.2.1 dX9_receiveMessages_153 rfl (lv_at hl 1 rfl) ?_
                    refine k_get F G 9 rfl (N := 14) (Tt := TX9) rfl kf9 1 (by decide) kl43 (v := .ref (aQ 2)) rfl dX9_receiveMessages_154 ?_
                    refine lv_iload_n F.1 F.2.1 dX9_receiveMessages_157 rfl (lv_at hl 0 rfl) ?_
                    obtain ⟨w_10, hc, h⟩ := op_b h
                    refine k_callV (rv := none) (Wc := (gW T aP aQ v w_2)) (W2 := (gW T aP aQ v w_10)) (Wn := (gW T aP aQ v w_10)) (As := [.int ((w_2 29) x1_1.toNatClampNeg)]) (rest := []) F G (mX2_hearPoll l D T aP aQ v w_2 ((w_2 29) x1_1.toNatClampNeg) hc) (cwV 1 F.2.2.2.2 (kg_c kl484 (kg_c kl485 (kg_c kl486 (kg_c kl42 (kg_c kl153 kg_a))))) rfl rfl rfl (by decide +kernel) ⟨Nat.le_of_ble_eq_true rfl, Nat.le_of_ble_eq_true rfl⟩) 11 rfl (q := (RX2, TX2, 9)) rfl rfl (kCut_F G) rfl hl.1 rfl (Nat.le_of_ble_eq_true rfl) dX9_receiveMessages_158 ⟨Nat.le_of_ble_eq_true rfl, Nat.le_of_ble_eq_true rfl⟩ (cN := 0) (sN := 0) ⟨rfl, rfl⟩ (fun H locs G => ?_)
                    refine lv_goto (tgt := 164) F.1 F.2.1 dX9_receiveMessages_161 (by decide) ?_
                    exact J164 w_10 _ _ _ h G (lv_sub hl [1, 2] rfl)
                  · have h := op_f h c5
                    refine lv_tableOut (tgt := 164) F.1 F.2.1 dX9_receiveMessages_32 (tab_out 6 (by decide) (lt_s (lt_s (lt_s (lt_s (lt_s (lt_s lt_0 c0) c1) c2) c3) c4) c5)) (by decide) ?_
                    exact J164 w_2 _ _ _ h G (lv_sub hl [1, 2] rfl)
  refine L2 v  _ (fun w_3 H locs ls h G hl => ?_) fu 0 w _ _ _ h G (lv_sub hl [1, 0] rfl)
  clear L2
  refine lv_aload_n F.1 F.2.1 dX9_receiveMessages_170 rfl (lv_at hl 0 rfl) ?_
  refine k_get F G 9 rfl (N := 14) (Tt := TX9) rfl kf9 3 (by decide) kl51 (v := .ref (aQ 19)) rfl dX9_receiveMessages_171 ?_
  refine lv_iconst (v := 0) F.1 F.2.1 dX9_receiveMessages_174 (by decide) ?_
  obtain ⟨w_11, e9, h⟩ := op_st h
  refine k_put F G 28 rfl (N := 9) (Tt := TX8) rfl kf8 tyX8_ok nmX8 4 (by decide) kl464 rfl (v := .int 0) rfl rfl (Nat.le_of_ble_eq_true rfl) dX9_receiveMessages_175 (Wn := (gW T aP aQ v w_11)) (by subst e9; rfl) (fun H locs G => ?_)
  clear e9
  obtain rfl := op_1 h
  exact k_vret F hr hlk G dX9_receiveMessages_178
abbrev rmX9_letOutletAct : Room := ({ frames := 3, cells := 0, slots := 0, locals := 65 } : Room)
noncomputable def qX9_letOutletAct (v : Nat → Nat → Int32) (w : Nat → Nat → Int32) (x1 : Int32) : Option ((Nat → Nat → Int32)) :=
  gd (vp_in x1 12) ((jn (fun (w_1 : Nat → Nat → Int32) => bd (qX10_isIn (w_1 16 0) x1) fun r_2 => (jn (fun (w_3 : Nat → Nat → Int32) => bd (qX10_isIn (w_3 17 0) x1) fun r_4 => (jn (fun (w_5 : Nat → Nat → Int32) => bd (qX2_isDueToAsk v w_5 x1 (w_5 0 0) (w_5 3 0)) fun r_6 => if r_6 = 0 then some w_5 else gd (vp_in x1 12) (bs (va_up w_5 15 (upd (w_5 15) x1.toNatClampNeg (w_5 0 0))) fun w_7 => bd (qX8_send v w_7 0 x1 (-1)) fun w_8 => some w_8)) fun j148 => if r_4 = 0 then (j148 w_3) else (bs (va_up w_3 17 (fun _ => ((w_3 17 0) &&& ((1 <<< (x1 &&& 31)) ^^^ (-1))))) fun w_9 => gd (vp_in x1 12) (bd (qX8_send v w_9 3 x1 ((w_9 11) x1.toNatClampNeg)) fun w_10 => (j148 w_10))))) fun j99 => if r_2 = 0 then (j99 w_1) else (bs (va_up w_1 16 (fun _ => ((w_1 16 0) &&& ((1 <<< (x1 &&& 31)) ^^^ (-1))))) fun w_11 => bd (qX8_send v w_11 2 x1 (-1)) fun w_12 => (j99 w_12)))) fun j58 => if ((w 11) x1.toNatClampNeg) = 2 then gd (vp_in x1 12) (if ((w 12) x1.toNatClampNeg) = 0 then gd (vp_in x1 12) (bs (va_up w 11 (upd (w 11) x1.toNatClampNeg 3)) fun w_13 => gd (vp_in x1 12) (bs (va_up w_13 14 (upd (w_13 14) x1.toNatClampNeg (w_13 0 0))) fun w_14 => bd (qX8_send v w_14 1 x1 (-1)) fun w_15 => (j58 w_15))) else (j58 w)) else (j58 w)))

set_option maxHeartbeats 4000000 in
set_option maxRecDepth 100000 in
theorem mX9_letOutletAct (l : Launch) (D : va_G) (T : Nat → ClassId) (aP : Nat → Nat) (aQ : Nat → Nat) (v : Nat → Nat → Int32) (w : Nat → Nat → Int32) (x1 : Int32) {wR : Nat → Nat → Int32} (hres : qX9_letOutletAct v w x1 = some (wR)) : Ct l yX9_letOutletAct (Cond.code yX9_letOutletAct cX9_letOutletAct 2 none :: kAll) rmX9_letOutletAct D T [.ref (aQ 0), .int x1] (gW T aP aQ v w) none (gW T aP aQ v wR) := by
  refine Ct.of (cc := cX9_letOutletAct) (maxL := 2) (ret := none) (by decide +kernel) rfl (Nat.le_of_ble_eq_true rfl) ?_
  intro pr en st mi ag bl me co A ls F hr hlk hnm G hl
  have hl : lv_has ls 2 [(0, .ref (aQ 0)), (1, .int x1)] := hl
  have h := hres
  unfold qX9_letOutletAct at h
  refine lv_aload_n F.1 F.2.1 dX9_letOutletAct_0 rfl (lv_at hl 0 rfl) ?_
  refine k_get F G 9 rfl (N := 14) (Tt := TX9) rfl kf9 1 (by decide) kl43 (v := .ref (aQ 2)) rfl dX9_letOutletAct_1 ?_
  refine k_get F G 11 rfl (N := 9) (Tt := TX2) rfl kf2 2 (by decide) kl493 (v := .ref (aQ 4)) rfl dX9_letOutletAct_4 ?_
  refine lv_iload_n F.1 F.2.1 dX9_letOutletAct_7 rfl (lv_at hl 1 rfl) ?_
  obtain ⟨c, h⟩ := op_g h
  refine k_iald F G 13 rfl c dX9_letOutletAct_8 ?_
  refine lv_iconst (v := 2) F.1 F.2.1 dX9_letOutletAct_9 (by decide) ?_
  obtain ⟨j58, hj58, h⟩ := op_j h
  have J58 : ∀ (w_1 : Nat → Nat → Int32) (H : Heap) (locs : List Loc) (ls : Array Slot), j58 w_1 = some (wR) → Rg D T A st (gW T aP aQ v w_1) H locs → lv_has ls 2 [(0, .ref (aQ 0)), (1, .int x1)] → W pr l en rmX9_letOutletAct st mi ag bl me co H locs 0 0 (MQ bl (kQ none D (gW T aP aQ v wR) A) ag st rmX9_letOutletAct.cells rmX9_letOutletAct.slots A) (F0 mi 58 ls []) := by
    intro w_1 H locs ls h G hl
    rw [hj58] at h
    refine lv_aload_n F.1 F.2.1 dX9_letOutletAct_58 rfl (lv_at hl 0 rfl) ?_
    refine k_get F G 9 rfl (N := 14) (Tt := TX9) rfl kf9 1 (by decide) kl43 (v := .ref (aQ 2)) rfl dX9_letOutletAct_59 ?_
    refine k_get F G 11 rfl (N := 9) (Tt := TX2) rfl kf2 7 (by decide) kl496 (v := .int (w_1 16 0)) rfl dX9_letOutletAct_62 ?_
    refine lv_iload_n F.1 F.2.1 dX9_letOutletAct_65 rfl (lv_at hl 1 rfl) ?_
    obtain ⟨r_2, hc, h⟩ := op_b h
    refine k_callSN (rv := (some (.int r_2))) (Wc := ([] : va_W)) (W2 := ([] : va_W)) (Wn := (gW T aP aQ v w_1)) (As := [.int (w_1 16 0), .int x1]) (rest := []) F G (mX10_isIn l D T (w_1 16 0) x1 hc) ⟨va_cnB 2 F.2.2.2.2 (kg_c kl119 kg_a) rfl rfl rfl (k_nest G 13 rfl) (F.2.2.2.2 _ kl80) (by decide +kernel) ⟨Nat.le_of_ble_eq_true rfl, Nat.le_of_ble_eq_true rfl⟩, F.2.2.2.2 _ kl122⟩ (kCut_0 G) rfl hl.1 rfl (Nat.le_of_ble_eq_true rfl) dX9_letOutletAct_66 ⟨Nat.le_of_ble_eq_true rfl, Nat.le_of_ble_eq_true rfl⟩ (cN := 0) (sN := 0) ⟨rfl, rfl⟩ (fun H locs G => ?_)
    obtain ⟨j99, hj99, h⟩ := op_j h
    have J99 : ∀ (w_3 : Nat → Nat → Int32) (H : Heap) (locs : List Loc) (ls : Array Slot), j99 w_3 = some (wR) → Rg D T A st (gW T aP aQ v w_3) H locs → lv_has ls 2 [(0, .ref (aQ 0)), (1, .int x1)] → W pr l en rmX9_letOutletAct st mi ag bl me co H locs 0 0 (MQ bl (kQ none D (gW T aP aQ v wR) A) ag st rmX9_letOutletAct.cells rmX9_letOutletAct.slots A) (F0 mi 99 ls []) := by
      intro w_3 H locs ls h G hl
      rw [hj99] at h
      refine lv_aload_n F.1 F.2.1 dX9_letOutletAct_99 rfl (lv_at hl 0 rfl) ?_
      refine k_get F G 9 rfl (N := 14) (Tt := TX9) rfl kf9 1 (by decide) kl43 (v := .ref (aQ 2)) rfl dX9_letOutletAct_100 ?_
      refine k_get F G 11 rfl (N := 9) (Tt := TX2) rfl kf2 8 (by decide) kl497 (v := .int (w_3 17 0)) rfl dX9_letOutletAct_103 ?_
      refine lv_iload_n F.1 F.2.1 dX9_letOutletAct_106 rfl (lv_at hl 1 rfl) ?_
      obtain ⟨r_4, hc, h⟩ := op_b h
      refine k_callSN (rv := (some (.int r_4))) (Wc := ([] : va_W)) (W2 := ([] : va_W)) (Wn := (gW T aP aQ v w_3)) (As := [.int (w_3 17 0), .int x1]) (rest := []) F G (mX10_isIn l D T (w_3 17 0) x1 hc) ⟨va_cnB 2 F.2.2.2.2 (kg_c kl119 kg_a) rfl rfl rfl (k_nest G 13 rfl) (F.2.2.2.2 _ kl80) (by decide +kernel) ⟨Nat.le_of_ble_eq_true rfl, Nat.le_of_ble_eq_true rfl⟩, F.2.2.2.2 _ kl122⟩ (kCut_0 G) rfl hl.1 rfl (Nat.le_of_ble_eq_true rfl) dX9_letOutletAct_107 ⟨Nat.le_of_ble_eq_true rfl, Nat.le_of_ble_eq_true rfl⟩ (cN := 0) (sN := 0) ⟨rfl, rfl⟩ (fun H locs G => ?_)
      obtain ⟨j148, hj148, h⟩ := op_j h
      have J148 : ∀ (w_5 : Nat → Nat → Int32) (H : Heap) (locs : List Loc) (ls : Array Slot), j148 w_5 = some (wR) → Rg D T A st (gW T aP aQ v w_5) H locs → lv_has ls 2 [(0, .ref (aQ 0)), (1, .int x1)] → W pr l en rmX9_letOutletAct st mi ag bl me co H locs 0 0 (MQ bl (kQ none D (gW T aP aQ v wR) A) ag st rmX9_letOutletAct.cells rmX9_letOutletAct.slots A) (F0 mi 148 ls []) := by
        intro w_5 H locs ls h G hl
        rw [hj148] at h
        refine lv_aload_n F.1 F.2.1 dX9_letOutletAct_148 rfl (lv_at hl 0 rfl) ?_
        refine k_get F G 9 rfl (N := 14) (Tt := TX9) rfl kf9 1 (by decide) kl43 (v := .ref (aQ 2)) rfl dX9_letOutletAct_149 ?_
        refine lv_iload_n F.1 F.2.1 dX9_letOutletAct_152 rfl (lv_at hl 1 rfl) ?_
        refine lv_aload_n F.1 F.2.1 dX9_letOutletAct_153 rfl (lv_at hl 0 rfl) ?_
        refine k_get F G 9 rfl (N := 14) (Tt := TX9) rfl kf9 4 (by decide) kl439 (v := .int (w_5 0 0)) rfl dX9_letOutletAct_154 ?_
        refine lv_aload_n F.1 F.2.1 dX9_letOutletAct_157 rfl (lv_at hl 0 rfl) ?_
        refine k_get F G 9 rfl (N := 14) (Tt := TX9) rfl kf9 7 (by decide) kl444 (v := .int (w_5 3 0)) rfl dX9_letOutletAct_158 ?_
        obtain ⟨r_6, hc, h⟩ := op_b h
        refine k_callV (rv := (some (.int r_6))) (Wc := (gW T aP aQ v w_5)) (W2 := (gW T aP aQ v w_5)) (Wn := (gW T aP aQ v w_5)) (As := [.int x1, .int (w_5 0 0), .int (w_5 3 0)]) (rest := []) F G (mX2_isDueToAsk l D T aP aQ v w_5 x1 (w_5 0 0) (w_5 3 0) hc) (cwV 3 F.2.2.2.2 (kg_c kl502 (kg_c kl503 (kg_c kl504 (kg_c kl42 (kg_c kl154 kg_a))))) rfl rfl rfl (by decide +kernel) ⟨Nat.le_of_ble_eq_true rfl, Nat.le_of_ble_eq_true rfl⟩) 11 rfl (q := (RX2, TX2, 9)) rfl rfl (kCut_F G) rfl hl.1 rfl (Nat.le_of_ble_eq_true rfl) dX9_letOutletAct_161 ⟨Nat.le_of_ble_eq_true rfl, Nat.le_of_ble_eq_true rfl⟩ (cN := 0) (sN := 0) ⟨rfl, rfl⟩ (fun H locs G => ?_)
        refine lv_if_eq (tgt := 190) F.1 F.2.1 dX9_letOutletAct_164 (by decide) (fun c => ?_) (fun c => ?_)
        · have h := op_t h c
          obtain rfl := op_1 h
          exact k_vret F hr hlk G dX9_letOutletAct_190
        · have h := op_f h c
          refine lv_aload_n F.1 F.2.1 dX9_letOutletAct_167 rfl (lv_at hl 0 rfl) ?_
          refine k_get F G 9 rfl (N := 14) (Tt := TX9) rfl kf9 1 (by decide) kl43 (v := .ref (aQ 2)) rfl dX9_letOutletAct_168 ?_
          refine k_get F G 11 rfl (N := 9) (Tt := TX2) rfl kf2 6 (by decide) kl498 (v := .ref (aQ 8)) rfl dX9_letOutletAct_171 ?_
          refine lv_iload_n F.1 F.2.1 dX9_letOutletAct_174 rfl (lv_at hl 1 rfl) ?_
          refine lv_aload_n F.1 F.2.1 dX9_letOutletAct_175 rfl (lv_at hl 0 rfl) ?_
          refine k_get F G 9 rfl (N := 14) (Tt := TX9) rfl kf9 4 (by decide) kl439 (v := .int (w_5 0 0)) rfl dX9_letOutletAct_176 ?_
          obtain ⟨c, h⟩ := op_g h
          obtain ⟨w_7, e9, h⟩ := op_st h
          refine k_iast F G 17 rfl c dX9_letOutletAct_179 (Wn := (gW T aP aQ v w_7)) (by subst e9; rfl) (fun H locs G => ?_)
          clear e9
          refine lv_aload_n F.1 F.2.1 dX9_letOutletAct_180 rfl (lv_at hl 0 rfl) ?_
          refine k_get F G 9 rfl (N := 14) (Tt := TX9) rfl kf9 3 (by decide) kl51 (v := .ref (aQ 19)) rfl dX9_letOutletAct_181 ?_
          refine lv_iconst (v := 0) F.1 F.2.1 dX9_letOutletAct_184 (by decide) ?_
          refine lv_iload_n F.1 F.2.1 dX9_letOutletAct_185 rfl (lv_at hl 1 rfl) ?_
          refine lv_iconst (v := (-1)) F.1 F.2.1 dX9_letOutletAct_186 (by decide) ?_
          obtain ⟨w_8, hc, h⟩ := op_b h
          refine k_callV (rv := none) (Wc := (gW T aP aQ v w_7)) (W2 := (gW T aP aQ v w_8)) (Wn := (gW T aP aQ v w_8)) (As := [.int 0, .int x1, .int (-1)]) (rest := []) F G (mX8_send l D T aP aQ v w_7 0 x1 (-1) hc) (cwV 3 F.2.2.2.2 (kg_c kl499 (kg_c kl500 (kg_c kl501 (kg_c kl50 (kg_c kl433 kg_a))))) rfl rfl rfl (by decide +kernel) ⟨Nat.le_of_ble_eq_true rfl, Nat.le_of_ble_eq_true rfl⟩) 28 rfl (q := (RX8, TX8, 9)) rfl rfl (kCut_F G) rfl hl.1 rfl (Nat.le_of_ble_eq_true rfl) dX9_letOutletAct_187 ⟨Nat.le_of_ble_eq_true rfl, Nat.le_of_ble_eq_true rfl⟩ (cN := 0) (sN := 0) ⟨rfl, rfl⟩ (fun H locs G => ?_)
          obtain rfl := op_1 h
          exact k_vret F hr hlk G dX9_letOutletAct_190
      clear hj148
      refine lv_if_eq (tgt := 148) F.1 F.2.1 dX9_letOutletAct_110 (by decide) (fun c => ?_) (fun c => ?_)
      · have h := op_t h c
        exact J148 w_3 _ _ _ h G hl
      · have h := op_f h c
        refine lv_aload_n F.1 F.2.1 dX9_letOutletAct_113 rfl (lv_at hl 0 rfl) ?_
        refine k_get F G 9 rfl (N := 14) (Tt := TX9) rfl kf9 1 (by decide) kl43 (v := .ref (aQ 2)) rfl dX9_letOutletAct_114 ?_
        refine lv_dup F.1 F.2.1 dX9_letOutletAct_117 rfl ?_
        refine k_get F G 11 rfl (N := 9) (Tt := TX2) rfl kf2 8 (by decide) kl497 (v := .int (w_3 17 0)) rfl dX9_letOutletAct_118 ?_
        refine lv_iconst (v := 1) F.1 F.2.1 dX9_letOutletAct_121 (by decide) ?_
        refine lv_iload_n F.1 F.2.1 dX9_letOutletAct_122 rfl (lv_at hl 1 rfl) ?_
        refine lv_ishl F.1 F.2.1 dX9_letOutletAct_123 ?_
        refine lv_iconst (v := (-1)) F.1 F.2.1 dX9_letOutletAct_124 (by decide) ?_
        refine lv_ixor F.1 F.2.1 dX9_letOutletAct_125 ?_
        refine lv_iand F.1 F.2.1 dX9_letOutletAct_126 ?_
        obtain ⟨w_9, e9, h⟩ := op_st h
        refine k_put F G 11 rfl (N := 9) (Tt := TX2) rfl kf2 tyX2_ok nmX2 8 (by decide) kl497 rfl (v := .int ((w_3 17 0) &&& ((1 <<< (x1 &&& 31)) ^^^ (-1)))) rfl rfl (Nat.le_of_ble_eq_true rfl) dX9_letOutletAct_127 (Wn := (gW T aP aQ v w_9)) (by subst e9; rfl) (fun H locs G => ?_)
        clear e9
        refine lv_aload_n F.1 F.2.1 dX9_letOutletAct_130 rfl (lv_at hl 0 rfl) ?_
        refine k_get F G 9 rfl (N := 14) (Tt := TX9) rfl kf9 3 (by decide) kl51 (v := .ref (aQ 19)) rfl dX9_letOutletAct_131 ?_
        refine lv_iconst (v := 3) F.1 F.2.1 dX9_letOutletAct_134 (by decide) ?_
        refine lv_iload_n F.1 F.2.1 dX9_letOutletAct_135 rfl (lv_at hl 1 rfl) ?_
        refine lv_aload_n F.1 F.2.1 dX9_letOutletAct_136 rfl (lv_at hl 0 rfl) ?_
        refine k_get F G 9 rfl (N := 14) (Tt := TX9) rfl kf9 1 (by decide) kl43 (v := .ref (aQ 2)) rfl dX9_letOutletAct_137 ?_
        refine k_get F G 11 rfl (N := 9) (Tt := TX2) rfl kf2 2 (by decide) kl493 (v := .ref (aQ 4)) rfl dX9_letOutletAct_140 ?_
        refine lv_iload_n F.1 F.2.1 dX9_letOutletAct_143 rfl (lv_at hl 1 rfl) ?_
        obtain ⟨c, h⟩ := op_g h
        refine k_iald F G 13 rfl c dX9_letOutletAct_144 ?_
        obtain ⟨w_10, hc, h⟩ := op_b h
        refine k_callV (rv := none) (Wc := (gW T aP aQ v w_9)) (W2 := (gW T aP aQ v w_10)) (Wn := (gW T aP aQ v w_10)) (As := [.int 3, .int x1, .int ((w_9 11) x1.toNatClampNeg)]) (rest := []) F G (mX8_send l D T aP aQ v w_9 3 x1 ((w_9 11) x1.toNatClampNeg) hc) (cwV 3 F.2.2.2.2 (kg_c kl499 (kg_c kl500 (kg_c kl501 (kg_c kl50 (kg_c kl433 kg_a))))) rfl rfl rfl (by decide +kernel) ⟨Nat.le_of_ble_eq_true rfl, Nat.le_of_ble_eq_true rfl⟩) 28 rfl (q := (RX8, TX8, 9)) rfl rfl (kCut_F G) rfl hl.1 rfl (Nat.le_of_ble_eq_true rfl) dX9_letOutletAct_145 ⟨Nat.le_of_ble_eq_true rfl, Nat.le_of_ble_eq_true rfl⟩ (cN := 0) (sN := 0) ⟨rfl, rfl⟩ (fun H locs G => ?_)
        exact J148 w_10 _ _ _ h G hl
    clear hj99
    refine lv_if_eq (tgt := 99) F.1 F.2.1 dX9_letOutletAct_69 (by decide) (fun c => ?_) (fun c => ?_)
    · have h := op_t h c
      exact J99 w_1 _ _ _ h G hl
    · have h := op_f h c
      refine lv_aload_n F.1 F.2.1 dX9_letOutletAct_72 rfl (lv_at hl 0 rfl) ?_
      refine k_get F G 9 rfl (N := 14) (Tt := TX9) rfl kf9 1 (by decide) kl43 (v := .ref (aQ 2)) rfl dX9_letOutletAct_73 ?_
      refine lv_dup F.1 F.2.1 dX9_letOutletAct_76 rfl ?_
      refine k_get F G 11 rfl (N := 9) (Tt := TX2) rfl kf2 7 (by decide) kl496 (v := .int (w_1 16 0)) rfl dX9_letOutletAct_77 ?_
      refine lv_iconst (v := 1) F.1 F.2.1 dX9_letOutletAct_80 (by decide) ?_
      refine lv_iload_n F.1 F.2.1 dX9_letOutletAct_81 rfl (lv_at hl 1 rfl) ?_
      refine lv_ishl F.1 F.2.1 dX9_letOutletAct_82 ?_
      refine lv_iconst (v := (-1)) F.1 F.2.1 dX9_letOutletAct_83 (by decide) ?_
      refine lv_ixor F.1 F.2.1 dX9_letOutletAct_84 ?_
      refine lv_iand F.1 F.2.1 dX9_letOutletAct_85 ?_
      obtain ⟨w_11, e9, h⟩ := op_st h
      refine k_put F G 11 rfl (N := 9) (Tt := TX2) rfl kf2 tyX2_ok nmX2 7 (by decide) kl496 rfl (v := .int ((w_1 16 0) &&& ((1 <<< (x1 &&& 31)) ^^^ (-1)))) rfl rfl (Nat.le_of_ble_eq_true rfl) dX9_letOutletAct_86 (Wn := (gW T aP aQ v w_11)) (by subst e9; rfl) (fun H locs G => ?_)
      clear e9
      refine lv_aload_n F.1 F.2.1 dX9_letOutletAct_89 rfl (lv_at hl 0 rfl) ?_
      refine k_get F G 9 rfl (N := 14) (Tt := TX9) rfl kf9 3 (by decide) kl51 (v := .ref (aQ 19)) rfl dX9_letOutletAct_90 ?_
      refine lv_iconst (v := 2) F.1 F.2.1 dX9_letOutletAct_93 (by decide) ?_
      refine lv_iload_n F.1 F.2.1 dX9_letOutletAct_94 rfl (lv_at hl 1 rfl) ?_
      refine lv_iconst (v := (-1)) F.1 F.2.1 dX9_letOutletAct_95 (by decide) ?_
      obtain ⟨w_12, hc, h⟩ := op_b h
      refine k_callV (rv := none) (Wc := (gW T aP aQ v w_11)) (W2 := (gW T aP aQ v w_12)) (Wn := (gW T aP aQ v w_12)) (As := [.int 2, .int x1, .int (-1)]) (rest := []) F G (mX8_send l D T aP aQ v w_11 2 x1 (-1) hc) (cwV 3 F.2.2.2.2 (kg_c kl499 (kg_c kl500 (kg_c kl501 (kg_c kl50 (kg_c kl433 kg_a))))) rfl rfl rfl (by decide +kernel) ⟨Nat.le_of_ble_eq_true rfl, Nat.le_of_ble_eq_true rfl⟩) 28 rfl (q := (RX8, TX8, 9)) rfl rfl (kCut_F G) rfl hl.1 rfl (Nat.le_of_ble_eq_true rfl) dX9_letOutletAct_96 ⟨Nat.le_of_ble_eq_true rfl, Nat.le_of_ble_eq_true rfl⟩ (cN := 0) (sN := 0) ⟨rfl, rfl⟩ (fun H locs G => ?_)
      exact J99 w_12 _ _ _ h G hl
  clear hj58
  refine lv_icmp_ne (tgt := 58) F.1 F.2.1 dX9_letOutletAct_10 (by decide) (fun c => ?_) (fun c => ?_)
  · have h := op_f h c
    exact J58 w _ _ _ h G hl
  · have h := op_t h c
    refine lv_aload_n F.1 F.2.1 dX9_letOutletAct_13 rfl (lv_at hl 0 rfl) ?_
    refine k_get F G 9 rfl (N := 14) (Tt := TX9) rfl kf9 1 (by decide) kl43 (v := .ref (aQ 2)) rfl dX9_letOutletAct_14 ?_
    refine k_get F G 11 rfl (N := 9) (Tt := TX2) rfl kf2 3 (by decide) kl494 (v := .ref (aQ 5)) rfl dX9_letOutletAct_17 ?_
    refine lv_iload_n F.1 F.2.1 dX9_letOutletAct_20 rfl (lv_at hl 1 rfl) ?_
    obtain ⟨c, h⟩ := op_g h
    refine k_iald F G 14 rfl c dX9_letOutletAct_21 ?_
    refine lv_if_ne (tgt := 58) F.1 F.2.1 dX9_letOutletAct_22 (by decide) (fun c => ?_) (fun c => ?_)
    · have h := op_f h c
      exact J58 w _ _ _ h G hl
    · have h := op_t h c
      refine lv_aload_n F.1 F.2.1 dX9_letOutletAct_25 rfl (lv_at hl 0 rfl) ?_
      refine k_get F G 9 rfl (N := 14) (Tt := TX9) rfl kf9 1 (by decide) kl43 (v := .ref (aQ 2)) rfl dX9_letOutletAct_26 ?_
      refine k_get F G 11 rfl (N := 9) (Tt := TX2) rfl kf2 2 (by decide) kl493 (v := .ref (aQ 4)) rfl dX9_letOutletAct_29 ?_
      refine lv_iload_n F.1 F.2.1 dX9_letOutletAct_32 rfl (lv_at hl 1 rfl) ?_
      refine lv_iconst (v := 3) F.1 F.2.1 dX9_letOutletAct_33 (by decide) ?_
      obtain ⟨c, h⟩ := op_g h
      obtain ⟨w_13, e9, h⟩ := op_st h
      refine k_iast F G 13 rfl c dX9_letOutletAct_34 (Wn := (gW T aP aQ v w_13)) (by subst e9; rfl) (fun H locs G => ?_)
      clear e9
      refine lv_aload_n F.1 F.2.1 dX9_letOutletAct_35 rfl (lv_at hl 0 rfl) ?_
      refine k_get F G 9 rfl (N := 14) (Tt := TX9) rfl kf9 1 (by decide) kl43 (v := .ref (aQ 2)) rfl dX9_letOutletAct_36 ?_
      refine k_get F G 11 rfl (N := 9) (Tt := TX2) rfl kf2 5 (by decide) kl495 (v := .ref (aQ 7)) rfl dX9_letOutletAct_39 ?_
      refine lv_iload_n F.1 F.2.1 dX9_letOutletAct_42 rfl (lv_at hl 1 rfl) ?_
      refine lv_aload_n F.1 F.2.1 dX9_letOutletAct_43 rfl (lv_at hl 0 rfl) ?_
      refine k_get F G 9 rfl (N := 14) (Tt := TX9) rfl kf9 4 (by decide) kl439 (v := .int (w_13 0 0)) rfl dX9_letOutletAct_44 ?_
      obtain ⟨c, h⟩ := op_g h
      obtain ⟨w_14, e9, h⟩ := op_st h
      refine k_iast F G 16 rfl c dX9_letOutletAct_47 (Wn := (gW T aP aQ v w_14)) (by subst e9; rfl) (fun H locs G => ?_)
      clear e9
      refine lv_aload_n F.1 F.2.1 dX9_letOutletAct_48 rfl (lv_at hl 0 rfl) ?_
      refine k_get F G 9 rfl (N := 14) (Tt := TX9) rfl kf9 3 (by decide) kl51 (v := .ref (aQ 19)) rfl dX9_letOutletAct_49 ?_
      refine lv_iconst (v := 1) F.1 F.2.1 dX9_letOutletAct_52 (by decide) ?_
      refine lv_iload_n F.1 F.2.1 dX9_letOutletAct_53 rfl (lv_at hl 1 rfl) ?_
      refine lv_iconst (v := (-1)) F.1 F.2.1 dX9_letOutletAct_54 (by decide) ?_
      obtain ⟨w_15, hc, h⟩ := op_b h
      refine k_callV (rv := none) (Wc := (gW T aP aQ v w_14)) (W2 := (gW T aP aQ v w_15)) (Wn := (gW T aP aQ v w_15)) (As := [.int 1, .int x1, .int (-1)]) (rest := []) F G (mX8_send l D T aP aQ v w_14 1 x1 (-1) hc) (cwV 3 F.2.2.2.2 (kg_c kl499 (kg_c kl500 (kg_c kl501 (kg_c kl50 (kg_c kl433 kg_a))))) rfl rfl rfl (by decide +kernel) ⟨Nat.le_of_ble_eq_true rfl, Nat.le_of_ble_eq_true rfl⟩) 28 rfl (q := (RX8, TX8, 9)) rfl rfl (kCut_F G) rfl hl.1 rfl (Nat.le_of_ble_eq_true rfl) dX9_letOutletAct_55 ⟨Nat.le_of_ble_eq_true rfl, Nat.le_of_ble_eq_true rfl⟩ (cN := 0) (sN := 0) ⟨rfl, rfl⟩ (fun H locs G => ?_)
      exact J58 w_15 _ _ _ h G hl
abbrev rmX9_sendPolls : Room := ({ frames := 3, cells := 0, slots := 0, locals := 65 } : Room)
noncomputable def qX9_sendPolls_L2 (v : Nat → Nat → Int32) (K : (Nat → Nat → Int32) → Option ((Nat → Nat → Int32))) : Nat → Int32 → (Nat → Nat → Int32) → Option ((Nat → Nat → Int32))
  | 0, _, _ => none
  | n + 1, x1_1, w_2 =>
    if (v 0 0) ≤ x1_1 then (K w_2) else bd (qX3_isDueToPoll v w_2 x1_1 (w_2 0 0)) fun r_4 => (jn (fun (w_5 : Nat → Nat → Int32) => (qX9_sendPolls_L2 v K n (x1_1 + 1) w_5)) fun j51 => if r_4 = 0 then (j51 w_2) else gd (vp_in x1_1 12) (bs (va_up w_2 19 (upd (w_2 19) x1_1.toNatClampNeg (w_2 0 0))) fun w_6 => bd (qX8_send v w_6 5 x1_1 (-1)) fun w_7 => (j51 w_7)))

noncomputable def qX9_sendPolls (v : Nat → Nat → Int32) (w : Nat → Nat → Int32) : Option ((Nat → Nat → Int32)) :=
  (qX9_sendPolls_L2 v  (fun (w_3 : Nat → Nat → Int32) => some w_3) fu 0 w)

set_option maxHeartbeats 4000000 in
set_option maxRecDepth 100000 in
theorem mX9_sendPolls (l : Launch) (D : va_G) (T : Nat → ClassId) (aP : Nat → Nat) (aQ : Nat → Nat) (v : Nat → Nat → Int32) (w : Nat → Nat → Int32) {wR : Nat → Nat → Int32} (hres : qX9_sendPolls v w = some (wR)) : Ct l yX9_sendPolls (Cond.code yX9_sendPolls cX9_sendPolls 2 none :: kAll) rmX9_sendPolls D T [.ref (aQ 0)] (gW T aP aQ v w) none (gW T aP aQ v wR) := by
  refine Ct.of (cc := cX9_sendPolls) (maxL := 2) (ret := none) (by decide +kernel) rfl (Nat.le_of_ble_eq_true rfl) ?_
  intro pr en st mi ag bl me co A ls F hr hlk hnm G hl
  have hl : lv_has ls 2 [(0, .ref (aQ 0))] := hl
  have h := hres
  unfold qX9_sendPolls at h
  refine lv_iconst (v := 0) F.1 F.2.1 dX9_sendPolls_0 (by decide) ?_
  refine lv_istore_n (lv' := [(1, .int 0), (0, .ref (aQ 0))]) F.1 F.2.1 dX9_sendPolls_1 rfl hl (by decide) rfl (fun ls hl => ?_)
  have L2 : ∀ (v : Nat → Nat → Int32) (K : (Nat → Nat → Int32) → Option ((Nat → Nat → Int32))) (hK : ∀ (w_3 : Nat → Nat → Int32) (H : Heap) (locs : List Loc) (ls : Array Slot), K w_3 = some (wR) → Rg D T A st (gW T aP aQ v w_3) H locs → lv_has ls 2 [] → W pr l en rmX9_sendPolls st mi ag bl me co H locs 0 0 (MQ bl (kQ none D (gW T aP aQ v wR) A) ag st rmX9_sendPolls.cells rmX9_sendPolls.slots A) (F0 mi 57 ls [])) (n : Nat) (x1_1 : Int32) (w_2 : Nat → Nat → Int32) (H : Heap) (locs : List Loc) (ls : Array Slot), qX9_sendPolls_L2 v K n x1_1 w_2 = some (wR) → Rg D T A st (gW T aP aQ v w_2) H locs → lv_has ls 2 [(0, .ref (aQ 0)), (1, .int x1_1)] → W pr l en rmX9_sendPolls st mi ag bl me co H locs 0 0 (MQ bl (kQ none D (gW T aP aQ v wR) A) ag st rmX9_sendPolls.cells rmX9_sendPolls.slots A) (F0 mi 2 ls []) := by
    intro v K hK n
    induction n with
    | zero => intro x1_1 w_2 H locs ls h; exact op_n h
    | succ n ih =>
      intro x1_1 w_2 H locs ls h G hl
      rw [qX9_sendPolls_L2] at h
      refine lv_iload_n F.1 F.2.1 dX9_sendPolls_2 rfl (lv_at hl 1 rfl) ?_
      refine lv_aload_n F.1 F.2.1 dX9_sendPolls_3 rfl (lv_at hl 0 rfl) ?_
      refine k_get F G 9 rfl (N := 14) (Tt := TX9) rfl kf9 0 (by decide) kl39 (v := .ref (aP 0)) rfl dX9_sendPolls_4 ?_
      refine k_get F G 0 rfl (N := 18) (Tt := TX5) rfl kf5 0 (by decide) kl488 (v := .int (v 0 0)) rfl dX9_sendPolls_7 ?_
      refine lv_icmp_ge (tgt := 57) F.1 F.2.1 dX9_sendPolls_10 (by decide) (fun c => ?_) (fun c => ?_)
      · have h := op_t h c
        exact hK w_2 _ _ _ h G (lv_sub hl [] rfl)
      · have h := op_f h c
        refine lv_aload_n F.1 F.2.1 dX9_sendPolls_13 rfl (lv_at hl 0 rfl) ?_
        refine k_get F G 9 rfl (N := 14) (Tt := TX9) rfl kf9 2 (by decide) kl47 (v := .ref (aQ 9)) rfl dX9_sendPolls_14 ?_
        refine lv_iload_n F.1 F.2.1 dX9_sendPolls_17 rfl (lv_at hl 1 rfl) ?_
        refine lv_aload_n F.1 F.2.1 dX9_sendPolls_18 rfl (lv_at hl 0 rfl) ?_
        refine k_get F G 9 rfl (N := 14) (Tt := TX9) rfl kf9 4 (by decide) kl439 (v := .int (w_2 0 0)) rfl dX9_sendPolls_19 ?_
        obtain ⟨r_4, hc, h⟩ := op_b h
        refine k_callV (rv := (some (.int r_4))) (Wc := (gW T aP aQ v w_2)) (W2 := (gW T aP aQ v w_2)) (Wn := (gW T aP aQ v w_2)) (As := [.int x1_1, .int (w_2 0 0)]) (rest := []) F G (mX3_isDueToPoll l D T aP aQ v w_2 x1_1 (w_2 0 0) hc) (cwV 2 F.2.2.2.2 (kg_c kl507 (kg_c kl508 (kg_c kl509 (kg_c kl46 (kg_c kl192 kg_a))))) rfl rfl rfl (by decide +kernel) ⟨Nat.le_of_ble_eq_true rfl, Nat.le_of_ble_eq_true rfl⟩) 18 rfl (q := (RX3, TX3, 7)) rfl rfl (kCut_F G) rfl hl.1 rfl (Nat.le_of_ble_eq_true rfl) dX9_sendPolls_22 ⟨Nat.le_of_ble_eq_true rfl, Nat.le_of_ble_eq_true rfl⟩ (cN := 0) (sN := 0) ⟨rfl, rfl⟩ (fun H locs G => ?_)
        obtain ⟨j51, hj51, h⟩ := op_j h
        have J51 : ∀ (w_5 : Nat → Nat → Int32) (H : Heap) (locs : List Loc) (ls : Array Slot), j51 w_5 = some (wR) → Rg D T A st (gW T aP aQ v w_5) H locs → lv_has ls 2 [(0, .ref (aQ 0)), (1, .int x1_1)] → W pr l en rmX9_sendPolls st mi ag bl me co H locs 0 0 (MQ bl (kQ none D (gW T aP aQ v wR) A) ag st rmX9_sendPolls.cells rmX9_sendPolls.slots A) (F0 mi 51 ls []) := by
          intro w_5 H locs ls h G hl
          rw [hj51] at h
          refine lv_iinc (v := (x1_1 + 1)) (lv' := [(1, .int (x1_1 + 1)), (0, .ref (aQ 0))]) F.1 F.2.1 dX9_sendPolls_51 hl (k := 1) rfl rfl (by decide) rfl (fun ls hl => ?_)
          refine lv_goto (tgt := 2) F.1 F.2.1 dX9_sendPolls_54 (by decide) ?_
          exact ih (x1_1 + 1) w_5 _ _ _ h G (lv_sub hl [1, 0] rfl)
        clear hj51
        refine lv_if_eq (tgt := 51) F.1 F.2.1 dX9_sendPolls_25 (by decide) (fun c => ?_) (fun c => ?_)
        · have h := op_t h c
          exact J51 w_2 _ _ _ h G hl
        · have h := op_f h c
          refine lv_aload_n F.1 F.2.1 dX9_sendPolls_28 rfl (lv_at hl 0 rfl) ?_
          refine k_get F G 9 rfl (N := 14) (Tt := TX9) rfl kf9 2 (by decide) kl47 (v := .ref (aQ 9)) rfl dX9_sendPolls_29 ?_
          refine k_get F G 18 rfl (N := 7) (Tt := TX3) rfl kf3 2 (by decide) kl506 (v := .ref (aQ 11)) rfl dX9_sendPolls_32 ?_
          refine lv_iload_n F.1 F.2.1 dX9_sendPolls_35 rfl (lv_at hl 1 rfl) ?_
          refine lv_aload_n F.1 F.2.1 dX9_sendPolls_36 rfl (lv_at hl 0 rfl) ?_
          refine k_get F G 9 rfl (N := 14) (Tt := TX9) rfl kf9 4 (by decide) kl439 (v := .int (w_2 0 0)) rfl dX9_sendPolls_37 ?_
          obtain ⟨c, h⟩ := op_g h
          obtain ⟨w_6, e9, h⟩ := op_st h
          refine k_iast F G 20 rfl c dX9_sendPolls_40 (Wn := (gW T aP aQ v w_6)) (by subst e9; rfl) (fun H locs G => ?_)
          clear e9
          refine lv_aload_n F.1 F.2.1 dX9_sendPolls_41 rfl (lv_at hl 0 rfl) ?_
          refine k_get F G 9 rfl (N := 14) (Tt := TX9) rfl kf9 3 (by decide) kl51 (v := .ref (aQ 19)) rfl dX9_sendPolls_42 ?_
          refine lv_iconst (v := 5) F.1 F.2.1 dX9_sendPolls_45 (by decide) ?_
          refine lv_iload_n F.1 F.2.1 dX9_sendPolls_46 rfl (lv_at hl 1 rfl) ?_
          refine lv_iconst (v := (-1)) F.1 F.2.1 dX9_sendPolls_47 (by decide) ?_
          obtain ⟨w_7, hc, h⟩ := op_b h
          refine k_callV (rv := none) (Wc := (gW T aP aQ v w_6)) (W2 := (gW T aP aQ v w_7)) (Wn := (gW T aP aQ v w_7)) (As := [.int 5, .int x1_1, .int (-1)]) (rest := []) F G (mX8_send l D T aP aQ v w_6 5 x1_1 (-1) hc) (cwV 3 F.2.2.2.2 (kg_c kl499 (kg_c kl500 (kg_c kl501 (kg_c kl50 (kg_c kl433 kg_a))))) rfl rfl rfl (by decide +kernel) ⟨Nat.le_of_ble_eq_true rfl, Nat.le_of_ble_eq_true rfl⟩) 28 rfl (q := (RX8, TX8, 9)) rfl rfl (kCut_F G) rfl hl.1 rfl (Nat.le_of_ble_eq_true rfl) dX9_sendPolls_48 ⟨Nat.le_of_ble_eq_true rfl, Nat.le_of_ble_eq_true rfl⟩ (cN := 0) (sN := 0) ⟨rfl, rfl⟩ (fun H locs G => ?_)
          exact J51 w_7 _ _ _ h G hl
  refine L2 v  _ (fun w_3 H locs ls h G hl => ?_) fu 0 w _ _ _ h G (lv_sub hl [1, 0] rfl)
  clear L2
  obtain rfl := op_1 h
  exact k_vret F hr hlk G dX9_sendPolls_57
abbrev rmX9_isAhead : Room := ({ frames := 0, cells := 0, slots := 0, locals := 0 } : Room)
noncomputable def qX9_isAhead (v : Nat → Nat → Int32) (w : Nat → Nat → Int32) (x1 : Int32) (x2 : Int32) : Option (Int32) :=
  gd (vp_in x1 12) (gd (vp_in x2 12) (if ((w 10) x1.toNatClampNeg) = ((w 10) x2.toNatClampNeg) then gd (vp_in x1 12) (gd (vp_in x2 12) (if ((w 23) x1.toNatClampNeg) = (-1) then some 0 else if ((w 23) x2.toNatClampNeg) = (-1) then some 1 else if ((w 23) x2.toNatClampNeg) ≤ ((w 23) x1.toNatClampNeg) then some 0 else some 1)) else gd (vp_in x1 12) (gd (vp_in x2 12) (if ((w 10) x1.toNatClampNeg) ≤ ((w 10) x2.toNatClampNeg) then some 0 else some 1))))

set_option maxHeartbeats 4000000 in
set_option maxRecDepth 100000 in
theorem mX9_isAhead (l : Launch) (D : va_G) (T : Nat → ClassId) (aP : Nat → Nat) (aQ : Nat → Nat) (v : Nat → Nat → Int32) (w : Nat → Nat → Int32) (x1 : Int32) (x2 : Int32) {rR : Int32} (hres : qX9_isAhead v w x1 x2 = some (rR)) : Ct l yX9_isAhead (Cond.code yX9_isAhead cX9_isAhead 5 (some .boolean) :: kAll) rmX9_isAhead D T [.ref (aQ 0), .int x1, .int x2] (gW T aP aQ v w) (some (.int rR)) (gW T aP aQ v w) := by
  refine Ct.of (cc := cX9_isAhead) (maxL := 5) (ret := (some .boolean)) (by decide +kernel) rfl (Nat.le_of_ble_eq_true rfl) ?_
  intro pr en st mi ag bl me co A ls F hr hlk hnm G hl
  have hl : lv_has ls 5 [(0, .ref (aQ 0)), (1, .int x1), (2, .int x2)] := hl
  have h := hres
  unfold qX9_isAhead at h
  refine lv_aload_n F.1 F.2.1 dX9_isAhead_0 rfl (lv_at hl 0 rfl) ?_
  refine k_get F G 9 rfl (N := 14) (Tt := TX9) rfl kf9 1 (by decide) kl43 (v := .ref (aQ 2)) rfl dX9_isAhead_1 ?_
  refine k_get F G 11 rfl (N := 9) (Tt := TX2) rfl kf2 1 (by decide) kl511 (v := .ref (aQ 3)) rfl dX9_isAhead_4 ?_
  refine lv_iload_n F.1 F.2.1 dX9_isAhead_7 rfl (lv_at hl 1 rfl) ?_
  obtain ⟨c, h⟩ := op_g h
  refine k_iald F G 12 rfl c dX9_isAhead_8 ?_
  refine lv_aload_n F.1 F.2.1 dX9_isAhead_9 rfl (lv_at hl 0 rfl) ?_
  refine k_get F G 9 rfl (N := 14) (Tt := TX9) rfl kf9 1 (by decide) kl43 (v := .ref (aQ 2)) rfl dX9_isAhead_10 ?_
  refine k_get F G 11 rfl (N := 9) (Tt := TX2) rfl kf2 1 (by decide) kl511 (v := .ref (aQ 3)) rfl dX9_isAhead_13 ?_
  refine lv_iload_n F.1 F.2.1 dX9_isAhead_16 rfl (lv_at hl 2 rfl) ?_
  obtain ⟨c, h⟩ := op_g h
  refine k_iald F G 12 rfl c dX9_isAhead_17 ?_
  refine lv_icmp_eq (tgt := 48) F.1 F.2.1 dX9_isAhead_18 (by decide) (fun c => ?_) (fun c => ?_)
  · have h := op_t h c
    refine lv_aload_n F.1 F.2.1 dX9_isAhead_48 rfl (lv_at hl 0 rfl) ?_
    refine k_get F G 9 rfl (N := 14) (Tt := TX9) rfl kf9 2 (by decide) kl47 (v := .ref (aQ 9)) rfl dX9_isAhead_49 ?_
    refine k_get F G 18 rfl (N := 7) (Tt := TX3) rfl kf3 5 (by decide) kl512 (v := .ref (aQ 13)) rfl dX9_isAhead_52 ?_
    refine k_get F G 22 rfl (N := 3) (Tt := TX1) rfl kf1 1 (by decide) kl513 (v := .ref (aQ 15)) rfl dX9_isAhead_55 ?_
    refine lv_iload_n F.1 F.2.1 dX9_isAhead_58 rfl (lv_at hl 1 rfl) ?_
    obtain ⟨c, h⟩ := op_g h
    refine k_iald F G 24 rfl c dX9_isAhead_59 ?_
    refine lv_istore_n (lv' := [(3, .int ((w 23) x1.toNatClampNeg)), (0, .ref (aQ 0)), (1, .int x1), (2, .int x2)]) F.1 F.2.1 dX9_isAhead_60 rfl hl (by decide) rfl (fun ls hl => ?_)
    refine lv_aload_n F.1 F.2.1 dX9_isAhead_61 rfl (lv_at hl 1 rfl) ?_
    refine k_get F G 9 rfl (N := 14) (Tt := TX9) rfl kf9 2 (by decide) kl47 (v := .ref (aQ 9)) rfl dX9_isAhead_62 ?_
    refine k_get F G 18 rfl (N := 7) (Tt := TX3) rfl kf3 5 (by decide) kl512 (v := .ref (aQ 13)) rfl dX9_isAhead_65 ?_
    refine k_get F G 22 rfl (N := 3) (Tt := TX1) rfl kf1 1 (by decide) kl513 (v := .ref (aQ 15)) rfl dX9_isAhead_68 ?_
    refine lv_iload_n F.1 F.2.1 dX9_isAhead_71 rfl (lv_at hl 3 rfl) ?_
    obtain ⟨c, h⟩ := op_g h
    refine k_iald F G 24 rfl c dX9_isAhead_72 ?_
    refine lv_istore (lv' := [(4, .int ((w 23) x2.toNatClampNeg)), (3, .int ((w 23) x1.toNatClampNeg)), (0, .ref (aQ 0)), (1, .int x1), (2, .int x2)]) F.1 F.2.1 dX9_isAhead_73 hl (by decide) rfl (fun ls hl => ?_)
    refine lv_iload_n F.1 F.2.1 dX9_isAhead_75 rfl (lv_at hl 1 rfl) ?_
    refine lv_iconst (v := (-1)) F.1 F.2.1 dX9_isAhead_76 (by decide) ?_
    refine lv_icmp_eq (tgt := 96) F.1 F.2.1 dX9_isAhead_77 (by decide) (fun c => ?_) (fun c => ?_)
    · have h := op_t h c
      refine lv_iconst (v := 0) F.1 F.2.1 dX9_isAhead_96 (by decide) ?_
      obtain rfl := op_1 h
      exact k_zret F hr rfl hlk G dX9_isAhead_97
    · have h := op_f h c
      refine lv_iload F.1 F.2.1 dX9_isAhead_80 (lv_at hl 0 rfl) ?_
      refine lv_iconst (v := (-1)) F.1 F.2.1 dX9_isAhead_82 (by decide) ?_
      refine lv_icmp_eq (tgt := 92) F.1 F.2.1 dX9_isAhead_83 (by decide) (fun c => ?_) (fun c => ?_)
      · have h := op_t h c
        refine lv_iconst (v := 1) F.1 F.2.1 dX9_isAhead_92 (by decide) ?_
        refine lv_goto (tgt := 97) F.1 F.2.1 dX9_isAhead_93 (by decide) ?_
        obtain rfl := op_1 h
        exact k_zret F hr rfl hlk G dX9_isAhead_97
      · have h := op_f h c
        refine lv_iload_n F.1 F.2.1 dX9_isAhead_86 rfl (lv_at hl 1 rfl) ?_
        refine lv_iload F.1 F.2.1 dX9_isAhead_87 (lv_at hl 0 rfl) ?_
        refine lv_icmp_ge (tgt := 96) F.1 F.2.1 dX9_isAhead_89 (by decide) (fun c => ?_) (fun c => ?_)
        · have h := op_t h c
          refine lv_iconst (v := 0) F.1 F.2.1 dX9_isAhead_96 (by decide) ?_
          obtain rfl := op_1 h
          exact k_zret F hr rfl hlk G dX9_isAhead_97
        · have h := op_f h c
          refine lv_iconst (v := 1) F.1 F.2.1 dX9_isAhead_92 (by decide) ?_
          refine lv_goto (tgt := 97) F.1 F.2.1 dX9_isAhead_93 (by decide) ?_
          obtain rfl := op_1 h
          exact k_zret F hr rfl hlk G dX9_isAhead_97
  · have h := op_f h c
    refine lv_aload_n F.1 F.2.1 dX9_isAhead_21 rfl (lv_at hl 0 rfl) ?_
    refine k_get F G 9 rfl (N := 14) (Tt := TX9) rfl kf9 1 (by decide) kl43 (v := .ref (aQ 2)) rfl dX9_isAhead_22 ?_
    refine k_get F G 11 rfl (N := 9) (Tt := TX2) rfl kf2 1 (by decide) kl511 (v := .ref (aQ 3)) rfl dX9_isAhead_25 ?_
    refine lv_iload_n F.1 F.2.1 dX9_isAhead_28 rfl (lv_at hl 1 rfl) ?_
    obtain ⟨c, h⟩ := op_g h
    refine k_iald F G 12 rfl c dX9_isAhead_29 ?_
    refine lv_aload_n F.1 F.2.1 dX9_isAhead_30 rfl (lv_at hl 0 rfl) ?_
    refine k_get F G 9 rfl (N := 14) (Tt := TX9) rfl kf9 1 (by decide) kl43 (v := .ref (aQ 2)) rfl dX9_isAhead_31 ?_
    refine k_get F G 11 rfl (N := 9) (Tt := TX2) rfl kf2 1 (by decide) kl511 (v := .ref (aQ 3)) rfl dX9_isAhead_34 ?_
    refine lv_iload_n F.1 F.2.1 dX9_isAhead_37 rfl (lv_at hl 2 rfl) ?_
    obtain ⟨c, h⟩ := op_g h
    refine k_iald F G 12 rfl c dX9_isAhead_38 ?_
    refine lv_icmp_le (tgt := 46) F.1 F.2.1 dX9_isAhead_39 (by decide) (fun c => ?_) (fun c => ?_)
    · have h := op_t h c
      refine lv_iconst (v := 0) F.1 F.2.1 dX9_isAhead_46 (by decide) ?_
      obtain rfl := op_1 h
      exact k_zret F hr rfl hlk G dX9_isAhead_47
    · have h := op_f h c
      refine lv_iconst (v := 1) F.1 F.2.1 dX9_isAhead_42 (by decide) ?_
      refine lv_goto (tgt := 47) F.1 F.2.1 dX9_isAhead_43 (by decide) ?_
      obtain rfl := op_1 h
      exact k_zret F hr rfl hlk G dX9_isAhead_47
abbrev rmX9_fillQueue : Room := ({ frames := 1, cells := 0, slots := 0, locals := 24 } : Room)
noncomputable def qX9_fillQueue_L45 (v : Nat → Nat → Int32) (x1_6 : Int32) (K : Int32 → (Nat → Nat → Int32) → Option ((Nat → Nat → Int32))) : Nat → Int32 → (Nat → Nat → Int32) → Option ((Nat → Nat → Int32))
  | 0, _, _ => none
  | n + 1, x2_7, w_8 =>
    if x2_7 ≤ 0 then (K x2_7 w_8) else gd (vp_in (x2_7 - 1) 12) (bd (qX9_isAhead v w_8 x1_6 ((w_8 9) (x2_7 - 1).toNatClampNeg)) fun r_11 => if r_11 = 0 then (K x2_7 w_8) else gd (vp_in (x2_7 - 1) 12) (gd (vp_in x2_7 12) (bs (va_up w_8 9 (upd (w_8 9) x2_7.toNatClampNeg ((w_8 9) (x2_7 - 1).toNatClampNeg))) fun w_12 => (qX9_fillQueue_L45 v x1_6 K n (x2_7 + (-1)) w_12))))

noncomputable def qX9_fillQueue_L7 (v : Nat → Nat → Int32) (K : (Nat → Nat → Int32) → Option ((Nat → Nat → Int32))) : Nat → Int32 → (Nat → Nat → Int32) → Option ((Nat → Nat → Int32))
  | 0, _, _ => none
  | n + 1, x1_2, w_3 =>
    if (v 0 0) ≤ x1_2 then (K w_3) else if 12 ≤ (w_3 8 0) then (K w_3) else gd (vp_in x1_2 12) ((jn (fun (w_5 : Nat → Nat → Int32) => (qX9_fillQueue_L7 v K n (x1_2 + 1) w_5)) fun j102 => if ((w_3 18) x1_2.toNatClampNeg) = 1 then (qX9_fillQueue_L45 v x1_2 (fun (x2_9 : Int32) (w_10 : Nat → Nat → Int32) => gd (vp_in x2_9 12) (bs (va_up w_10 9 (upd (w_10 9) x2_9.toNatClampNeg x1_2)) fun w_13 => (bs (va_up w_13 8 (fun _ => ((w_13 8 0) + 1))) fun w_14 => (j102 w_14)))) fu (w_3 8 0) w_3) else (j102 w_3)))

noncomputable def qX9_fillQueue (v : Nat → Nat → Int32) (w : Nat → Nat → Int32) : Option ((Nat → Nat → Int32)) :=
  (bs (va_up w 8 (fun _ => 0)) fun w_1 => (qX9_fillQueue_L7 v  (fun (w_4 : Nat → Nat → Int32) => some w_4) fu 0 w_1))

set_option maxHeartbeats 4000000 in
set_option maxRecDepth 100000 in
theorem mX9_fillQueue (l : Launch) (D : va_G) (T : Nat → ClassId) (aP : Nat → Nat) (aQ : Nat → Nat) (v : Nat → Nat → Int32) (w : Nat → Nat → Int32) {wR : Nat → Nat → Int32} (hres : qX9_fillQueue v w = some (wR)) : Ct l yX9_fillQueue (Cond.code yX9_fillQueue cX9_fillQueue 3 none :: kAll) rmX9_fillQueue D T [.ref (aQ 0)] (gW T aP aQ v w) none (gW T aP aQ v wR) := by
  refine Ct.of (cc := cX9_fillQueue) (maxL := 3) (ret := none) (by decide +kernel) rfl (Nat.le_of_ble_eq_true rfl) ?_
  intro pr en st mi ag bl me co A ls F hr hlk hnm G hl
  have hl : lv_has ls 3 [(0, .ref (aQ 0))] := hl
  have h := hres
  unfold qX9_fillQueue at h
  refine lv_aload_n F.1 F.2.1 dX9_fillQueue_0 rfl (lv_at hl 0 rfl) ?_
  refine lv_iconst (v := 0) F.1 F.2.1 dX9_fillQueue_1 (by decide) ?_
  obtain ⟨w_1, e9, h⟩ := op_st h
  refine k_put F G 9 rfl (N := 14) (Tt := TX9) rfl kf9 tyX9_ok nmX9 13 (by decide) kl515 rfl (v := .int 0) rfl rfl (Nat.le_of_ble_eq_true rfl) dX9_fillQueue_2 (Wn := (gW T aP aQ v w_1)) (by subst e9; rfl) (fun H locs G => ?_)
  clear e9
  refine lv_iconst (v := 0) F.1 F.2.1 dX9_fillQueue_5 (by decide) ?_
  refine lv_istore_n (lv' := [(1, .int 0), (0, .ref (aQ 0))]) F.1 F.2.1 dX9_fillQueue_6 rfl hl (by decide) rfl (fun ls hl => ?_)
  have L7 : ∀ (v : Nat → Nat → Int32) (K : (Nat → Nat → Int32) → Option ((Nat → Nat → Int32))) (hK : ∀ (w_4 : Nat → Nat → Int32) (H : Heap) (locs : List Loc) (ls : Array Slot), K w_4 = some (wR) → Rg D T A st (gW T aP aQ v w_4) H locs → lv_has ls 3 [] → W pr l en rmX9_fillQueue st mi ag bl me co H locs 0 0 (MQ bl (kQ none D (gW T aP aQ v wR) A) ag st rmX9_fillQueue.cells rmX9_fillQueue.slots A) (F0 mi 108 ls [])) (n : Nat) (x1_2 : Int32) (w_3 : Nat → Nat → Int32) (H : Heap) (locs : List Loc) (ls : Array Slot), qX9_fillQueue_L7 v K n x1_2 w_3 = some (wR) → Rg D T A st (gW T aP aQ v w_3) H locs → lv_has ls 3 [(0, .ref (aQ 0)), (1, .int x1_2)] → W pr l en rmX9_fillQueue st mi ag bl me co H locs 0 0 (MQ bl (kQ none D (gW T aP aQ v wR) A) ag st rmX9_fillQueue.cells rmX9_fillQueue.slots A) (F0 mi 7 ls []) := by
    intro v K hK n
    induction n with
    | zero => intro x1_2 w_3 H locs ls h; exact op_n h
    | succ n ih =>
      intro x1_2 w_3 H locs ls h G hl
      rw [qX9_fillQueue_L7] at h
      refine lv_iload_n F.1 F.2.1 dX9_fillQueue_7 rfl (lv_at hl 1 rfl) ?_
      refine lv_aload_n F.1 F.2.1 dX9_fillQueue_8 rfl (lv_at hl 0 rfl) ?_
      refine k_get F G 9 rfl (N := 14) (Tt := TX9) rfl kf9 0 (by decide) kl39 (v := .ref (aP 0)) rfl dX9_fillQueue_9 ?_
      refine k_get F G 0 rfl (N := 18) (Tt := TX5) rfl kf5 0 (by decide) kl488 (v := .int (v 0 0)) rfl dX9_fillQueue_12 ?_
      refine lv_icmp_ge (tgt := 108) F.1 F.2.1 dX9_fillQueue_15 (by decide) (fun c => ?_) (fun c => ?_)
      · have h := op_t h c
        exact hK w_3 _ _ _ h G (lv_sub hl [] rfl)
      · have h := op_f h c
        refine lv_aload_n F.1 F.2.1 dX9_fillQueue_18 rfl (lv_at hl 0 rfl) ?_
        refine k_get F G 9 rfl (N := 14) (Tt := TX9) rfl kf9 13 (by decide) kl515 (v := .int (w_3 8 0)) rfl dX9_fillQueue_19 ?_
        refine lv_bipush (v := 12) F.1 F.2.1 dX9_fillQueue_22 (by decide) ?_
        refine lv_icmp_ge (tgt := 108) F.1 F.2.1 dX9_fillQueue_24 (by decide) (fun c => ?_) (fun c => ?_)
        · have h := op_t h c
          exact hK w_3 _ _ _ h G (lv_sub hl [] rfl)
        · have h := op_f h c
          refine lv_aload_n F.1 F.2.1 dX9_fillQueue_27 rfl (lv_at hl 0 rfl) ?_
          refine k_get F G 9 rfl (N := 14) (Tt := TX9) rfl kf9 2 (by decide) kl47 (v := .ref (aQ 9)) rfl dX9_fillQueue_28 ?_
          refine k_get F G 18 rfl (N := 7) (Tt := TX3) rfl kf3 1 (by decide) kl516 (v := .ref (aQ 10)) rfl dX9_fillQueue_31 ?_
          refine lv_iload_n F.1 F.2.1 dX9_fillQueue_34 rfl (lv_at hl 1 rfl) ?_
          obtain ⟨c, h⟩ := op_g h
          refine k_iald F G 19 rfl c dX9_fillQueue_35 ?_
          refine lv_iconst (v := 1) F.1 F.2.1 dX9_fillQueue_36 (by decide) ?_
          obtain ⟨j102, hj102, h⟩ := op_j h
          have J102 : ∀ (w_5 : Nat → Nat → Int32) (H : Heap) (locs : List Loc) (ls : Array Slot), j102 w_5 = some (wR) → Rg D T A st (gW T aP aQ v w_5) H locs → lv_has ls 3 [(0, .ref (aQ 0)), (1, .int x1_2)] → W pr l en rmX9_fillQueue st mi ag bl me co H locs 0 0 (MQ bl (kQ none D (gW T aP aQ v wR) A) ag st rmX9_fillQueue.cells rmX9_fillQueue.slots A) (F0 mi 102 ls []) := by
            intro w_5 H locs ls h G hl
            rw [hj102] at h
            refine lv_iinc (v := (x1_2 + 1)) (lv' := [(1, .int (x1_2 + 1)), (0, .ref (aQ 0))]) F.1 F.2.1 dX9_fillQueue_102 hl (k := 1) rfl rfl (by decide) rfl (fun ls hl => ?_)
            refine lv_goto (tgt := 7) F.1 F.2.1 dX9_fillQueue_105 (by decide) ?_
            exact ih (x1_2 + 1) w_5 _ _ _ h G (lv_sub hl [1, 0] rfl)
          clear hj102
          refine lv_icmp_ne (tgt := 102) F.1 F.2.1 dX9_fillQueue_37 (by decide) (fun c => ?_) (fun c => ?_)
          · have h := op_f h c
            exact J102 w_3 _ _ _ h G hl
          · have h := op_t h c
            refine lv_aload_n F.1 F.2.1 dX9_fillQueue_40 rfl (lv_at hl 0 rfl) ?_
            refine k_get F G 9 rfl (N := 14) (Tt := TX9) rfl kf9 13 (by decide) kl515 (v := .int (w_3 8 0)) rfl dX9_fillQueue_41 ?_
            refine lv_istore_n (lv' := [(2, .int (w_3 8 0)), (0, .ref (aQ 0)), (1, .int x1_2)]) F.1 F.2.1 dX9_fillQueue_44 rfl hl (by decide) rfl (fun ls hl => ?_)
            have L45 : ∀ (v : Nat → Nat → Int32) (x1_6 : Int32) (K : Int32 → (Nat → Nat → Int32) → Option ((Nat → Nat → Int32))) (hK : ∀ (x2_9 : Int32) (w_10 : Nat → Nat → Int32) (H : Heap) (locs : List Loc) (ls : Array Slot), K x2_9 w_10 = some (wR) → Rg D T A st (gW T aP aQ v w_10) H locs → lv_has ls 3 [(0, .ref (aQ 0)), (1, .int x1_6), (2, .int x2_9)] → W pr l en rmX9_fillQueue st mi ag bl me co H locs 0 0 (MQ bl (kQ none D (gW T aP aQ v wR) A) ag st rmX9_fillQueue.cells rmX9_fillQueue.slots A) (F0 mi 85 ls [])) (n : Nat) (x2_7 : Int32) (w_8 : Nat → Nat → Int32) (H : Heap) (locs : List Loc) (ls : Array Slot), qX9_fillQueue_L45 v x1_6 K n x2_7 w_8 = some (wR) → Rg D T A st (gW T aP aQ v w_8) H locs → lv_has ls 3 [(0, .ref (aQ 0)), (1, .int x1_6), (2, .int x2_7)] → W pr l en rmX9_fillQueue st mi ag bl me co H locs 0 0 (MQ bl (kQ none D (gW T aP aQ v wR) A) ag st rmX9_fillQueue.cells rmX9_fillQueue.slots A) (F0 mi 45 ls []) := by
              intro v x1_6 K hK n
              induction n with
              | zero => intro x2_7 w_8 H locs ls h; exact op_n h
              | succ n ih =>
                intro x2_7 w_8 H locs ls h G hl
                rw [qX9_fillQueue_L45] at h
                refine lv_iload_n F.1 F.2.1 dX9_fillQueue_45 rfl (lv_at hl 2 rfl) ?_
                refine lv_if_le (tgt := 85) F.1 F.2.1 dX9_fillQueue_46 (by decide) (fun c => ?_) (fun c => ?_)
                · have h := op_t h c
                  exact hK x2_7 w_8 _ _ _ h G hl
                · have h := op_f h c
                  refine lv_aload_n F.1 F.2.1 dX9_fillQueue_49 rfl (lv_at hl 0 rfl) ?_
                  refine lv_iload_n F.1 F.2.1 dX9_fillQueue_50 rfl (lv_at hl 1 rfl) ?_
                  refine lv_aload_n F.1 F.2.1 dX9_fillQueue_51 rfl (lv_at hl 0 rfl) ?_
                  refine k_get F G 9 rfl (N := 14) (Tt := TX9) rfl kf9 12 (by decide) kl38 (v := .ref (aQ 1)) rfl dX9_fillQueue_52 ?_
                  refine lv_iload_n F.1 F.2.1 dX9_fillQueue_55 rfl (lv_at hl 2 rfl) ?_
                  refine lv_iconst (v := 1) F.1 F.2.1 dX9_fillQueue_56 (by decide) ?_
                  refine lv_isub F.1 F.2.1 dX9_fillQueue_57 ?_
                  obtain ⟨c, h⟩ := op_g h
                  refine k_iald F G 10 rfl c dX9_fillQueue_58 ?_
                  obtain ⟨r_11, hc, h⟩ := op_b h
                  refine k_callV (rv := (some (.int r_11))) (Wc := (gW T aP aQ v w_8)) (W2 := (gW T aP aQ v w_8)) (Wn := (gW T aP aQ v w_8)) (As := [.int x1_6, .int ((w_8 9) (x2_7 - 1).toNatClampNeg)]) (rest := []) F G (mX9_isAhead l D T aP aQ v w_8 x1_6 ((w_8 9) (x2_7 - 1).toNatClampNeg) hc) (cwV 2 F.2.2.2.2 (kg_c kl517 (kg_c kl518 (kg_c kl519 (kg_c kl64 (kg_c kl510 kg_a))))) rfl rfl rfl (by decide +kernel) ⟨Nat.le_of_ble_eq_true rfl, Nat.le_of_ble_eq_true rfl⟩) 9 rfl (q := (RX9, TX9, 14)) rfl rfl (kCut_F G) rfl hl.1 rfl (Nat.le_of_ble_eq_true rfl) dX9_fillQueue_59 ⟨Nat.le_of_ble_eq_true rfl, Nat.le_of_ble_eq_true rfl⟩ (cN := 0) (sN := 0) ⟨rfl, rfl⟩ (fun H locs G => ?_)
                  refine lv_if_eq (tgt := 85) F.1 F.2.1 dX9_fillQueue_62 (by decide) (fun c => ?_) (fun c => ?_)
                  · have h := op_t h c
                    exact hK x2_7 w_8 _ _ _ h G hl
                  · have h := op_f h c
                    refine lv_aload_n F.1 F.2.1 dX9_fillQueue_65 rfl (lv_at hl 0 rfl) ?_
                    refine k_get F G 9 rfl (N := 14) (Tt := TX9) rfl kf9 12 (by decide) kl38 (v := .ref (aQ 1)) rfl dX9_fillQueue_66 ?_
                    refine lv_iload_n F.1 F.2.1 dX9_fillQueue_69 rfl (lv_at hl 2 rfl) ?_
                    refine lv_aload_n F.1 F.2.1 dX9_fillQueue_70 rfl (lv_at hl 0 rfl) ?_
                    refine k_get F G 9 rfl (N := 14) (Tt := TX9) rfl kf9 12 (by decide) kl38 (v := .ref (aQ 1)) rfl dX9_fillQueue_71 ?_
                    refine lv_iload_n F.1 F.2.1 dX9_fillQueue_74 rfl (lv_at hl 2 rfl) ?_
                    refine lv_iconst (v := 1) F.1 F.2.1 dX9_fillQueue_75 (by decide) ?_
                    refine lv_isub F.1 F.2.1 dX9_fillQueue_76 ?_
                    obtain ⟨c, h⟩ := op_g h
                    refine k_iald F G 10 rfl c dX9_fillQueue_77 ?_
                    obtain ⟨c, h⟩ := op_g h
                    obtain ⟨w_12, e9, h⟩ := op_st h
                    refine k_iast F G 10 rfl c dX9_fillQueue_78 (Wn := (gW T aP aQ v w_12)) (by subst e9; rfl) (fun H locs G => ?_)
                    clear e9
                    refine lv_iinc (v := (x2_7 + (-1))) (lv' := [(2, .int (x2_7 + (-1))), (0, .ref (aQ 0)), (1, .int x1_6)]) F.1 F.2.1 dX9_fillQueue_79 hl (k := 2) rfl rfl (by decide) rfl (fun ls hl => ?_)
                    refine lv_goto (tgt := 45) F.1 F.2.1 dX9_fillQueue_82 (by decide) ?_
                    exact ih (x2_7 + (-1)) w_12 _ _ _ h G (lv_sub hl [1, 2, 0] rfl)
            refine L45 v x1_2 _ (fun x2_9 w_10 H locs ls h G hl => ?_) fu (w_3 8 0) w_3 _ _ _ h G (lv_sub hl [1, 2, 0] rfl)
            clear L45
            refine lv_aload_n F.1 F.2.1 dX9_fillQueue_85 rfl (lv_at hl 0 rfl) ?_
            refine k_get F G 9 rfl (N := 14) (Tt := TX9) rfl kf9 12 (by decide) kl38 (v := .ref (aQ 1)) rfl dX9_fillQueue_86 ?_
            refine lv_iload_n F.1 F.2.1 dX9_fillQueue_89 rfl (lv_at hl 2 rfl) ?_
            refine lv_iload_n F.1 F.2.1 dX9_fillQueue_90 rfl (lv_at hl 1 rfl) ?_
            obtain ⟨c, h⟩ := op_g h
            obtain ⟨w_13, e9, h⟩ := op_st h
            refine k_iast F G 10 rfl c dX9_fillQueue_91 (Wn := (gW T aP aQ v w_13)) (by subst e9; rfl) (fun H locs G => ?_)
            clear e9
            refine lv_aload_n F.1 F.2.1 dX9_fillQueue_92 rfl (lv_at hl 0 rfl) ?_
            refine lv_dup F.1 F.2.1 dX9_fillQueue_93 rfl ?_
            refine k_get F G 9 rfl (N := 14) (Tt := TX9) rfl kf9 13 (by decide) kl515 (v := .int (w_13 8 0)) rfl dX9_fillQueue_94 ?_
            refine lv_iconst (v := 1) F.1 F.2.1 dX9_fillQueue_97 (by decide) ?_
            refine lv_iadd F.1 F.2.1 dX9_fillQueue_98 ?_
            obtain ⟨w_14, e9, h⟩ := op_st h
            refine k_put F G 9 rfl (N := 14) (Tt := TX9) rfl kf9 tyX9_ok nmX9 13 (by decide) kl515 rfl (v := .int ((w_13 8 0) + 1)) rfl rfl (Nat.le_of_ble_eq_true rfl) dX9_fillQueue_99 (Wn := (gW T aP aQ v w_14)) (by subst e9; rfl) (fun H locs G => ?_)
            clear e9
            exact J102 w_14 _ _ _ h G (lv_sub hl [0, 1] rfl)
  refine L7 v  _ (fun w_4 H locs ls h G hl => ?_) fu 0 w_1 _ _ _ h G (lv_sub hl [1, 0] rfl)
  clear L7
  obtain rfl := op_1 h
  exact k_vret F hr hlk G dX9_fillQueue_108
abbrev rmX9_grantable : Room := ({ frames := 2, cells := 0, slots := 0, locals := 46 } : Room)
noncomputable def qX9_grantable_L26 (v : Nat → Nat → Int32) (w_8 : Nat → Nat → Int32) (x1_4 : Int32) (K : Int32 → Option (Int32 × (Nat → Nat → Int32))) : Nat → Int32 → Int32 → Int32 → Option (Int32 × (Nat → Nat → Int32))
  | 0, _, _, _ => none
  | n + 1, x2_5, x3_6, x4_7 =>
    if (w_8 8 0) ≤ x4_7 then (K x3_6) else gd (vp_in x4_7 12) (gd (vp_in ((w_8 9) x4_7.toNatClampNeg) 12) ((jn (fun (x2_10 : Int32) (x3_11 : Int32) => (qX9_grantable_L26 v w_8 x1_4 K n x2_10 x3_11 (x4_7 + 1))) fun j112 => if (((v 14) ((w_8 9) x4_7.toNatClampNeg).toNatClampNeg) &&& (x1_4 ^^^ (-1))) = 0 then gd (vp_in ((w_8 9) x4_7.toNatClampNeg) 12) (if (w_8 2 0) < (x2_5 + ((w_8 20) ((w_8 9) x4_7.toNatClampNeg).toNatClampNeg)) then if (w_8 4 0) = 0 then (j112 x2_5 x3_6) else (K x3_6) else (j112 (x2_5 + ((w_8 20) ((w_8 9) x4_7.toNatClampNeg).toNatClampNeg)) (x3_6 ||| (1 <<< (((w_8 9) x4_7.toNatClampNeg) &&& 31))))) else (j112 x2_5 x3_6))))

noncomputable def qX9_grantable (v : Nat → Nat → Int32) (w : Nat → Nat → Int32) : Option (Int32 × (Nat → Nat → Int32)) :=
  bd (qX9_fillQueue v w) fun w_1 => bd (qX3_markedWith v w_1 3) fun r_2 => bd (qX3_reservedForAll v w_1) fun r_3 => (qX9_grantable_L26 v w_1 r_2 (fun (x3_9 : Int32) => some (x3_9, w_1)) fu r_3 0 0 )

set_option maxHeartbeats 4000000 in
set_option maxRecDepth 100000 in
theorem mX9_grantable (l : Launch) (D : va_G) (T : Nat → ClassId) (aP : Nat → Nat) (aQ : Nat → Nat) (v : Nat → Nat → Int32) (w : Nat → Nat → Int32) {rR : Int32} {wR : Nat → Nat → Int32} (hres : qX9_grantable v w = some (rR, wR)) : Ct l yX9_grantable (Cond.code yX9_grantable cX9_grantable 7 (some .int) :: kAll) rmX9_grantable D T [.ref (aQ 0)] (gW T aP aQ v w) (some (.int rR)) (gW T aP aQ v wR) := by
  refine Ct.of (cc := cX9_grantable) (maxL := 7) (ret := (some .int)) (by decide +kernel) rfl (Nat.le_of_ble_eq_true rfl) ?_
  intro pr en st mi ag bl me co A ls F hr hlk hnm G hl
  have hl : lv_has ls 7 [(0, .ref (aQ 0))] := hl
  have h := hres
  unfold qX9_grantable at h
  refine lv_aload_n F.1 F.2.1 dX9_grantable_0 rfl (lv_at hl 0 rfl) ?_
  obtain ⟨w_1, hc, h⟩ := op_b h
  refine k_callV (rv := none) (Wc := (gW T aP aQ v w)) (W2 := (gW T aP aQ v w_1)) (Wn := (gW T aP aQ v w_1)) (As := []) (rest := []) F G (mX9_fillQueue l D T aP aQ v w hc) (cwV 0 F.2.2.2.2 (kg_c kl522 (kg_c kl523 (kg_c kl524 (kg_c kl64 (kg_c kl514 kg_a))))) rfl rfl rfl (by decide +kernel) ⟨Nat.le_of_ble_eq_true rfl, Nat.le_of_ble_eq_true rfl⟩) 9 rfl (q := (RX9, TX9, 14)) rfl rfl (kCut_F G) rfl hl.1 rfl (Nat.le_of_ble_eq_true rfl) dX9_grantable_1 ⟨Nat.le_of_ble_eq_true rfl, Nat.le_of_ble_eq_true rfl⟩ (cN := 0) (sN := 0) ⟨rfl, rfl⟩ (fun H locs G => ?_)
  refine lv_aload_n F.1 F.2.1 dX9_grantable_4 rfl (lv_at hl 0 rfl) ?_
  refine k_get F G 9 rfl (N := 14) (Tt := TX9) rfl kf9 2 (by decide) kl47 (v := .ref (aQ 9)) rfl dX9_grantable_5 ?_
  refine lv_iconst (v := 3) F.1 F.2.1 dX9_grantable_8 (by decide) ?_
  obtain ⟨r_2, hc, h⟩ := op_b h
  refine k_callV (rv := (some (.int r_2))) (Wc := (gW T aP aQ v w_1)) (W2 := (gW T aP aQ v w_1)) (Wn := (gW T aP aQ v w_1)) (As := [.int 3]) (rest := []) F G (mX3_markedWith l D T aP aQ v w_1 3 hc) (cwV 1 F.2.2.2.2 (kg_c kl525 (kg_c kl196 (kg_c kl197 (kg_c kl46 (kg_c kl177 kg_a))))) rfl rfl rfl (by decide +kernel) ⟨Nat.le_of_ble_eq_true rfl, Nat.le_of_ble_eq_true rfl⟩) 18 rfl (q := (RX3, TX3, 7)) rfl rfl (kCut_F G) rfl hl.1 rfl (Nat.le_of_ble_eq_true rfl) dX9_grantable_9 ⟨Nat.le_of_ble_eq_true rfl, Nat.le_of_ble_eq_true rfl⟩ (cN := 0) (sN := 0) ⟨rfl, rfl⟩ (fun H locs G => ?_)
  refine lv_istore_n (lv' := [(1, .int r_2), (0, .ref (aQ 0))]) F.1 F.2.1 dX9_grantable_12 rfl hl (by decide) rfl (fun ls hl => ?_)
  refine lv_aload_n F.1 F.2.1 dX9_grantable_13 rfl (lv_at hl 1 rfl) ?_
  refine k_get F G 9 rfl (N := 14) (Tt := TX9) rfl kf9 2 (by decide) kl47 (v := .ref (aQ 9)) rfl dX9_grantable_14 ?_
  obtain ⟨r_3, hc, h⟩ := op_b h
  refine k_callV (rv := (some (.int r_3))) (Wc := (gW T aP aQ v w_1)) (W2 := (gW T aP aQ v w_1)) (Wn := (gW T aP aQ v w_1)) (As := []) (rest := []) F G (mX3_reservedForAll l D T aP aQ v w_1 hc) (cwV 0 F.2.2.2.2 (kg_c kl526 (kg_c kl527 (kg_c kl528 (kg_c kl46 (kg_c kl172 kg_a))))) rfl rfl rfl (by decide +kernel) ⟨Nat.le_of_ble_eq_true rfl, Nat.le_of_ble_eq_true rfl⟩) 18 rfl (q := (RX3, TX3, 7)) rfl rfl (kCut_F G) rfl hl.1 rfl (Nat.le_of_ble_eq_true rfl) dX9_grantable_17 ⟨Nat.le_of_ble_eq_true rfl, Nat.le_of_ble_eq_true rfl⟩ (cN := 0) (sN := 0) ⟨rfl, rfl⟩ (fun H locs G => ?_)
  refine lv_istore_n (lv' := [(2, .int r_3), (1, .int r_2), (0, .ref (aQ 0))]) F.1 F.2.1 dX9_grantable_20 rfl hl (by decide) rfl (fun ls hl => ?_)
  refine lv_iconst (v := 0) F.1 F.2.1 dX9_grantable_21 (by decide) ?_
  refine lv_istore_n (lv' := [(3, .int 0), (2, .int r_3), (1, .int r_2), (0, .ref (aQ 0))]) F.1 F.2.1 dX9_grantable_22 rfl hl (by decide) rfl (fun ls hl => ?_)
  refine lv_iconst (v := 0) F.1 F.2.1 dX9_grantable_23 (by decide) ?_
  refine lv_istore (lv' := [(4, .int 0), (3, .int 0), (2, .int r_3), (1, .int r_2), (0, .ref (aQ 0))]) F.1 F.2.1 dX9_grantable_24 hl (by decide) rfl (fun ls hl => ?_)
  have L26 : ∀ (v : Nat → Nat → Int32) (w_8 : Nat → Nat → Int32) (x1_4 : Int32) (K : Int32 → Option (Int32 × (Nat → Nat → Int32))) (hK : ∀ (x3_9 : Int32) (H : Heap) (locs : List Loc) (ls : Array Slot), K x3_9 = some (rR, wR) → Rg D T A st (gW T aP aQ v w_8) H locs → lv_has ls 7 [(3, .int x3_9)] → W pr l en rmX9_grantable st mi ag bl me co H locs 0 0 (MQ bl (kQ (some (.int rR)) D (gW T aP aQ v wR) A) ag st rmX9_grantable.cells rmX9_grantable.slots A) (F0 mi 118 ls [])) (n : Nat) (x2_5 : Int32) (x3_6 : Int32) (x4_7 : Int32) (H : Heap) (locs : List Loc) (ls : Array Slot), qX9_grantable_L26 v w_8 x1_4 K n x2_5 x3_6 x4_7 = some (rR, wR) → Rg D T A st (gW T aP aQ v w_8) H locs → lv_has ls 7 [(0, .ref (aQ 0)), (1, .int x1_4), (2, .int x2_5), (3, .int x3_6), (4, .int x4_7)] → W pr l en rmX9_grantable st mi ag bl me co H locs 0 0 (MQ bl (kQ (some (.int rR)) D (gW T aP aQ v wR) A) ag st rmX9_grantable.cells rmX9_grantable.slots A) (F0 mi 26 ls []) := by
    intro v w_8 x1_4 K hK n
    induction n with
    | zero => intro x2_5 x3_6 x4_7 H locs ls h; exact op_n h
    | succ n ih =>
      intro x2_5 x3_6 x4_7 H locs ls h G hl
      rw [qX9_grantable_L26] at h
      refine lv_iload F.1 F.2.1 dX9_grantable_26 (lv_at hl 4 rfl) ?_
      refine lv_aload_n F.1 F.2.1 dX9_grantable_28 rfl (lv_at hl 0 rfl) ?_
      refine k_get F G 9 rfl (N := 14) (Tt := TX9) rfl kf9 13 (by decide) kl515 (v := .int (w_8 8 0)) rfl dX9_grantable_29 ?_
      refine lv_icmp_ge (tgt := 118) F.1 F.2.1 dX9_grantable_32 (by decide) (fun c => ?_) (fun c => ?_)
      · have h := op_t h c
        exact hK x3_6 _ _ _ h G (lv_sub hl [3] rfl)
      · have h := op_f h c
        refine lv_aload_n F.1 F.2.1 dX9_grantable_35 rfl (lv_at hl 0 rfl) ?_
        refine k_get F G 9 rfl (N := 14) (Tt := TX9) rfl kf9 12 (by decide) kl38 (v := .ref (aQ 1)) rfl dX9_grantable_36 ?_
        refine lv_iload F.1 F.2.1 dX9_grantable_39 (lv_at hl 4 rfl) ?_
        obtain ⟨c, h⟩ := op_g h
        refine k_iald F G 10 rfl c dX9_grantable_41 ?_
        refine lv_istore (lv' := [(5, .int ((w_8 9) x4_7.toNatClampNeg)), (0, .ref (aQ 0)), (1, .int x1_4), (2, .int x2_5), (3, .int x3_6), (4, .int x4_7)]) F.1 F.2.1 dX9_grantable_42 hl (by decide) rfl (fun ls hl => ?_)
        refine lv_aload_n F.1 F.2.1 dX9_grantable_44 rfl (lv_at hl 1 rfl) ?_
        refine k_get F G 9 rfl (N := 14) (Tt := TX9) rfl kf9 0 (by decide) kl39 (v := .ref (aP 0)) rfl dX9_grantable_45 ?_
        refine k_get F G 0 rfl (N := 18) (Tt := TX5) rfl kf5 7 (by decide) kl490 (v := .ref (aP 6)) rfl dX9_grantable_48 ?_
        refine lv_iload F.1 F.2.1 dX9_grantable_51 (lv_at hl 0 rfl) ?_
        obtain ⟨c, h⟩ := op_g h
        refine k_iald F G 6 rfl c dX9_grantable_53 ?_
        refine lv_iload_n F.1 F.2.1 dX9_grantable_54 rfl (lv_at hl 2 rfl) ?_
        refine lv_iconst (v := (-1)) F.1 F.2.1 dX9_grantable_55 (by decide) ?_
        refine lv_ixor F.1 F.2.1 dX9_grantable_56 ?_
        refine lv_iand F.1 F.2.1 dX9_grantable_57 ?_
        obtain ⟨j112, hj112, h⟩ := op_j h
        have J112 : ∀ (x2_10 : Int32) (x3_11 : Int32) (H : Heap) (locs : List Loc) (ls : Array Slot), j112 x2_10 x3_11 = some (rR, wR) → Rg D T A st (gW T aP aQ v w_8) H locs → lv_has ls 7 [(0, .ref (aQ 0)), (1, .int x1_4), (2, .int x2_10), (3, .int x3_11), (4, .int x4_7)] → W pr l en rmX9_grantable st mi ag bl me co H locs 0 0 (MQ bl (kQ (some (.int rR)) D (gW T aP aQ v wR) A) ag st rmX9_grantable.cells rmX9_grantable.slots A) (F0 mi 112 ls []) := by
          intro x2_10 x3_11 H locs ls h G hl
          rw [hj112] at h
          refine lv_iinc (v := (x4_7 + 1)) (lv' := [(4, .int (x4_7 + 1)), (0, .ref (aQ 0)), (1, .int x1_4), (2, .int x2_10), (3, .int x3_11)]) F.1 F.2.1 dX9_grantable_112 hl (k := 4) rfl rfl (by decide) rfl (fun ls hl => ?_)
          refine lv_goto (tgt := 26) F.1 F.2.1 dX9_grantable_115 (by decide) ?_
          exact ih x2_10 x3_11 (x4_7 + 1) _ _ _ h G (lv_sub hl [1, 2, 3, 4, 0] rfl)
        clear hj112
        refine lv_if_eq (tgt := 64) F.1 F.2.1 dX9_grantable_58 (by decide) (fun c => ?_) (fun c => ?_)
        · have h := op_t h c
          refine lv_aload_n F.1 F.2.1 dX9_grantable_64 rfl (lv_at hl 1 rfl) ?_
          refine k_get F G 9 rfl (N := 14) (Tt := TX9) rfl kf9 2 (by decide) kl47 (v := .ref (aQ 9)) rfl dX9_grantable_65 ?_
          refine k_get F G 18 rfl (N := 7) (Tt := TX3) rfl kf3 3 (by decide) kl521 (v := .ref (aQ 12)) rfl dX9_grantable_68 ?_
          refine lv_iload F.1 F.2.1 dX9_grantable_71 (lv_at hl 0 rfl) ?_
          obtain ⟨c, h⟩ := op_g h
          refine k_iald F G 21 rfl c dX9_grantable_73 ?_
          refine lv_istore (lv' := [(6, .int ((w_8 20) ((w_8 9) x4_7.toNatClampNeg).toNatClampNeg)), (5, .int ((w_8 9) x4_7.toNatClampNeg)), (0, .ref (aQ 0)), (1, .int x1_4), (2, .int x2_5), (3, .int x3_6), (4, .int x4_7)]) F.1 F.2.1 dX9_grantable_74 hl (by decide) rfl (fun ls hl => ?_)
          refine lv_iload_n F.1 F.2.1 dX9_grantable_76 rfl (lv_at hl 4 rfl) ?_
          refine lv_iload F.1 F.2.1 dX9_grantable_77 (lv_at hl 0 rfl) ?_
          refine lv_iadd F.1 F.2.1 dX9_grantable_79 ?_
          refine lv_aload_n F.1 F.2.1 dX9_grantable_80 rfl (lv_at hl 2 rfl) ?_
          refine k_get F G 9 rfl (N := 14) (Tt := TX9) rfl kf9 6 (by decide) kl442 (v := .int (w_8 2 0)) rfl dX9_grantable_81 ?_
          refine lv_icmp_gt (tgt := 102) F.1 F.2.1 dX9_grantable_84 (by decide) (fun c => ?_) (fun c => ?_)
          · have h := op_t h c
            refine lv_aload_n F.1 F.2.1 dX9_grantable_102 rfl (lv_at hl 2 rfl) ?_
            refine k_get F G 9 rfl (N := 14) (Tt := TX9) rfl kf9 8 (by decide) kl446 (v := .int (w_8 4 0)) rfl dX9_grantable_103 ?_
            refine lv_if_eq (tgt := 112) F.1 F.2.1 dX9_grantable_106 (by decide) (fun c => ?_) (fun c => ?_)
            · have h := op_t h c
              exact J112 x2_5 x3_6 _ _ _ h G (lv_sub hl [2, 3, 4, 5, 6] rfl)
            · have h := op_f h c
              refine lv_goto (tgt := 118) F.1 F.2.1 dX9_grantable_109 (by decide) ?_
              exact hK x3_6 _ _ _ h G (lv_sub hl [5] rfl)
          · have h := op_f h c
            refine lv_iload_n F.1 F.2.1 dX9_grantable_87 rfl (lv_at hl 4 rfl) ?_
            refine lv_iload F.1 F.2.1 dX9_grantable_88 (lv_at hl 0 rfl) ?_
            refine lv_iadd F.1 F.2.1 dX9_grantable_90 ?_
            refine lv_istore_n (lv' := [(2, .int (x2_5 + ((w_8 20) ((w_8 9) x4_7.toNatClampNeg).toNatClampNeg))), (6, .int ((w_8 20) ((w_8 9) x4_7.toNatClampNeg).toNatClampNeg)), (5, .int ((w_8 9) x4_7.toNatClampNeg)), (0, .ref (aQ 0)), (1, .int x1_4), (3, .int x3_6), (4, .int x4_7)]) F.1 F.2.1 dX9_grantable_91 rfl hl (by decide) rfl (fun ls hl => ?_)
            refine lv_iload_n F.1 F.2.1 dX9_grantable_92 rfl (lv_at hl 5 rfl) ?_
            refine lv_iconst (v := 1) F.1 F.2.1 dX9_grantable_93 (by decide) ?_
            refine lv_iload F.1 F.2.1 dX9_grantable_94 (lv_at hl 2 rfl) ?_
            refine lv_ishl F.1 F.2.1 dX9_grantable_96 ?_
            refine lv_ior F.1 F.2.1 dX9_grantable_97 ?_
            refine lv_istore_n (lv' := [(3, .int (x3_6 ||| (1 <<< (((w_8 9) x4_7.toNatClampNeg) &&& 31)))), (2, .int (x2_5 + ((w_8 20) ((w_8 9) x4_7.toNatClampNeg).toNatClampNeg))), (6, .int ((w_8 20) ((w_8 9) x4_7.toNatClampNeg).toNatClampNeg)), (5, .int ((w_8 9) x4_7.toNatClampNeg)), (0, .ref (aQ 0)), (1, .int x1_4), (4, .int x4_7)]) F.1 F.2.1 dX9_grantable_98 rfl hl (by decide) rfl (fun ls hl => ?_)
            refine lv_goto (tgt := 112) F.1 F.2.1 dX9_grantable_99 (by decide) ?_
            exact J112 (x2_5 + ((w_8 20) ((w_8 9) x4_7.toNatClampNeg).toNatClampNeg)) (x3_6 ||| (1 <<< (((w_8 9) x4_7.toNatClampNeg) &&& 31))) _ _ _ h G (lv_sub hl [4, 5, 1, 0, 6] rfl)
        · have h := op_f h c
          refine lv_goto (tgt := 112) F.1 F.2.1 dX9_grantable_61 (by decide) ?_
          exact J112 x2_5 x3_6 _ _ _ h G (lv_sub hl [1, 2, 3, 4, 5] rfl)
  refine L26 v w_1 r_2 _ (fun x3_9 H locs ls h G hl => ?_) fu r_3 0 0  _ _ _ h G (lv_sub hl [4, 3, 2, 1, 0] rfl)
  clear L26
  refine lv_iload_n F.1 F.2.1 dX9_grantable_118 rfl (lv_at hl 0 rfl) ?_
  obtain ⟨rfl, rfl⟩ := op_2 h
  exact k_iret F hr hlk G dX9_grantable_119
abbrev rmX9_sendGrants : Room := ({ frames := 3, cells := 0, slots := 0, locals := 72 } : Room)
noncomputable def qX9_sendGrants_L7 (v : Nat → Nat → Int32) (x1_3 : Int32) (K : (Nat → Nat → Int32) → Option ((Nat → Nat → Int32))) : Nat → Int32 → (Nat → Nat → Int32) → Option ((Nat → Nat → Int32))
  | 0, _, _ => none
  | n + 1, x2_4, w_5 =>
    if (w_5 8 0) ≤ x2_4 then (K w_5) else gd (vp_in x2_4 12) (bd (qX10_isIn x1_3 ((w_5 9) x2_4.toNatClampNeg)) fun r_7 => (jn (fun (w_8 : Nat → Nat → Int32) => (qX9_sendGrants_L7 v x1_3 K n (x2_4 + 1) w_8)) fun j53 => if r_7 = 0 then (j53 w_5) else bd (qX3_setMark v w_5 ((w_5 9) x2_4.toNatClampNeg) 2 (w_5 0 0)) fun w_9 => bd (qX8_send v w_9 4 ((w_5 9) x2_4.toNatClampNeg) (-1)) fun w_10 => (j53 w_10)))

noncomputable def qX9_sendGrants (v : Nat → Nat → Int32) (w : Nat → Nat → Int32) : Option ((Nat → Nat → Int32)) :=
  bd2 (qX9_grantable v w) fun r_1 w_2 => (qX9_sendGrants_L7 v r_1 (fun (w_6 : Nat → Nat → Int32) => some w_6) fu 0 w_2)

set_option maxHeartbeats 4000000 in
set_option maxRecDepth 100000 in
theorem mX9_sendGrants (l : Launch) (D : va_G) (T : Nat → ClassId) (aP : Nat → Nat) (aQ : Nat → Nat) (v : Nat → Nat → Int32) (w : Nat → Nat → Int32) {wR : Nat → Nat → Int32} (hres : qX9_sendGrants v w = some (wR)) : Ct l yX9_sendGrants (Cond.code yX9_sendGrants cX9_sendGrants 4 none :: kAll) rmX9_sendGrants D T [.ref (aQ 0)] (gW T aP aQ v w) none (gW T aP aQ v wR) := by
  refine Ct.of (cc := cX9_sendGrants) (maxL := 4) (ret := none) (by decide +kernel) rfl (Nat.le_of_ble_eq_true rfl) ?_
  intro pr en st mi ag bl me co A ls F hr hlk hnm G hl
  have hl : lv_has ls 4 [(0, .ref (aQ 0))] := hl
  have h := hres
  unfold qX9_sendGrants at h
  refine lv_aload_n F.1 F.2.1 dX9_sendGrants_0 rfl (lv_at hl 0 rfl) ?_
  obtain ⟨r_1, w_2, hc, h⟩ := op_b2 h
  refine k_callV (rv := (some (.int r_1))) (Wc := (gW T aP aQ v w)) (W2 := (gW T aP aQ v w_2)) (Wn := (gW T aP aQ v w_2)) (As := []) (rest := []) F G (mX9_grantable l D T aP aQ v w hc) (cwV 0 F.2.2.2.2 (kg_c kl530 (kg_c kl531 (kg_c kl532 (kg_c kl64 (kg_c kl520 kg_a))))) rfl rfl rfl (by decide +kernel) ⟨Nat.le_of_ble_eq_true rfl, Nat.le_of_ble_eq_true rfl⟩) 9 rfl (q := (RX9, TX9, 14)) rfl rfl (kCut_F G) rfl hl.1 rfl (Nat.le_of_ble_eq_true rfl) dX9_sendGrants_1 ⟨Nat.le_of_ble_eq_true rfl, Nat.le_of_ble_eq_true rfl⟩ (cN := 0) (sN := 0) ⟨rfl, rfl⟩ (fun H locs G => ?_)
  refine lv_istore_n (lv' := [(1, .int r_1), (0, .ref (aQ 0))]) F.1 F.2.1 dX9_sendGrants_4 rfl hl (by decide) rfl (fun ls hl => ?_)
  refine lv_iconst (v := 0) F.1 F.2.1 dX9_sendGrants_5 (by decide) ?_
  refine lv_istore_n (lv' := [(2, .int 0), (1, .int r_1), (0, .ref (aQ 0))]) F.1 F.2.1 dX9_sendGrants_6 rfl hl (by decide) rfl (fun ls hl => ?_)
  have L7 : ∀ (v : Nat → Nat → Int32) (x1_3 : Int32) (K : (Nat → Nat → Int32) → Option ((Nat → Nat → Int32))) (hK : ∀ (w_6 : Nat → Nat → Int32) (H : Heap) (locs : List Loc) (ls : Array Slot), K w_6 = some (wR) → Rg D T A st (gW T aP aQ v w_6) H locs → lv_has ls 4 [] → W pr l en rmX9_sendGrants st mi ag bl me co H locs 0 0 (MQ bl (kQ none D (gW T aP aQ v wR) A) ag st rmX9_sendGrants.cells rmX9_sendGrants.slots A) (F0 mi 59 ls [])) (n : Nat) (x2_4 : Int32) (w_5 : Nat → Nat → Int32) (H : Heap) (locs : List Loc) (ls : Array Slot), qX9_sendGrants_L7 v x1_3 K n x2_4 w_5 = some (wR) → Rg D T A st (gW T aP aQ v w_5) H locs → lv_has ls 4 [(0, .ref (aQ 0)), (1, .int x1_3), (2, .int x2_4)] → W pr l en rmX9_sendGrants st mi ag bl me co H locs 0 0 (MQ bl (kQ none D (gW T aP aQ v wR) A) ag st rmX9_sendGrants.cells rmX9_sendGrants.slots A) (F0 mi 7 ls []) := by
    intro v x1_3 K hK n
    induction n with
    | zero => intro x2_4 w_5 H locs ls h; exact op_n h
    | succ n ih =>
      intro x2_4 w_5 H locs ls h G hl
      rw [qX9_sendGrants_L7] at h
      refine lv_iload_n F.1 F.2.1 dX9_sendGrants_7 rfl (lv_at hl 2 rfl) ?_
      refine lv_aload_n F.1 F.2.1 dX9_sendGrants_8 rfl (lv_at hl 0 rfl) ?_
      refine k_get F G 9 rfl (N := 14) (Tt := TX9) rfl kf9 13 (by decide) kl515 (v := .int (w_5 8 0)) rfl dX9_sendGrants_9 ?_
      refine lv_icmp_ge (tgt := 59) F.1 F.2.1 dX9_sendGrants_12 (by decide) (fun c => ?_) (fun c => ?_)
      · have h := op_t h c
        exact hK w_5 _ _ _ h G (lv_sub hl [] rfl)
      · have h := op_f h c
        refine lv_aload_n F.1 F.2.1 dX9_sendGrants_15 rfl (lv_at hl 0 rfl) ?_
        refine k_get F G 9 rfl (N := 14) (Tt := TX9) rfl kf9 12 (by decide) kl38 (v := .ref (aQ 1)) rfl dX9_sendGrants_16 ?_
        refine lv_iload_n F.1 F.2.1 dX9_sendGrants_19 rfl (lv_at hl 2 rfl) ?_
        obtain ⟨c, h⟩ := op_g h
        refine k_iald F G 10 rfl c dX9_sendGrants_20 ?_
        refine lv_istore_n (lv' := [(3, .int ((w_5 9) x2_4.toNatClampNeg)), (0, .ref (aQ 0)), (1, .int x1_3), (2, .int x2_4)]) F.1 F.2.1 dX9_sendGrants_21 rfl hl (by decide) rfl (fun ls hl => ?_)
        refine lv_iload_n F.1 F.2.1 dX9_sendGrants_22 rfl (lv_at hl 2 rfl) ?_
        refine lv_iload_n F.1 F.2.1 dX9_sendGrants_23 rfl (lv_at hl 0 rfl) ?_
        obtain ⟨r_7, hc, h⟩ := op_b h
        refine k_callSN (rv := (some (.int r_7))) (Wc := ([] : va_W)) (W2 := ([] : va_W)) (Wn := (gW T aP aQ v w_5)) (As := [.int x1_3, .int ((w_5 9) x2_4.toNatClampNeg)]) (rest := []) F G (mX10_isIn l D T x1_3 ((w_5 9) x2_4.toNatClampNeg) hc) ⟨va_cnB 2 F.2.2.2.2 (kg_c kl119 kg_a) rfl rfl rfl (k_nest G 13 rfl) (F.2.2.2.2 _ kl80) (by decide +kernel) ⟨Nat.le_of_ble_eq_true rfl, Nat.le_of_ble_eq_true rfl⟩, F.2.2.2.2 _ kl122⟩ (kCut_0 G) rfl hl.1 rfl (Nat.le_of_ble_eq_true rfl) dX9_sendGrants_24 ⟨Nat.le_of_ble_eq_true rfl, Nat.le_of_ble_eq_true rfl⟩ (cN := 0) (sN := 0) ⟨rfl, rfl⟩ (fun H locs G => ?_)
        obtain ⟨j53, hj53, h⟩ := op_j h
        have J53 : ∀ (w_8 : Nat → Nat → Int32) (H : Heap) (locs : List Loc) (ls : Array Slot), j53 w_8 = some (wR) → Rg D T A st (gW T aP aQ v w_8) H locs → lv_has ls 4 [(0, .ref (aQ 0)), (1, .int x1_3), (2, .int x2_4)] → W pr l en rmX9_sendGrants st mi ag bl me co H locs 0 0 (MQ bl (kQ none D (gW T aP aQ v wR) A) ag st rmX9_sendGrants.cells rmX9_sendGrants.slots A) (F0 mi 53 ls []) := by
          intro w_8 H locs ls h G hl
          rw [hj53] at h
          refine lv_iinc (v := (x2_4 + 1)) (lv' := [(2, .int (x2_4 + 1)), (0, .ref (aQ 0)), (1, .int x1_3)]) F.1 F.2.1 dX9_sendGrants_53 hl (k := 2) rfl rfl (by decide) rfl (fun ls hl => ?_)
          refine lv_goto (tgt := 7) F.1 F.2.1 dX9_sendGrants_56 (by decide) ?_
          exact ih (x2_4 + 1) w_8 _ _ _ h G (lv_sub hl [1, 2, 0] rfl)
        clear hj53
        refine lv_if_eq (tgt := 53) F.1 F.2.1 dX9_sendGrants_27 (by decide) (fun c => ?_) (fun c => ?_)
        · have h := op_t h c
          exact J53 w_5 _ _ _ h G (lv_sub hl [1, 2, 3] rfl)
        · have h := op_f h c
          refine lv_aload_n F.1 F.2.1 dX9_sendGrants_30 rfl (lv_at hl 1 rfl) ?_
          refine k_get F G 9 rfl (N := 14) (Tt := TX9) rfl kf9 2 (by decide) kl47 (v := .ref (aQ 9)) rfl dX9_sendGrants_31 ?_
          refine lv_iload_n F.1 F.2.1 dX9_sendGrants_34 rfl (lv_at hl 0 rfl) ?_
          refine lv_iconst (v := 2) F.1 F.2.1 dX9_sendGrants_35 (by decide) ?_
          refine lv_aload_n F.1 F.2.1 dX9_sendGrants_36 rfl (lv_at hl 1 rfl) ?_
          refine k_get F G 9 rfl (N := 14) (Tt := TX9) rfl kf9 4 (by decide) kl439 (v := .int (w_5 0 0)) rfl dX9_sendGrants_37 ?_
          obtain ⟨w_9, hc, h⟩ := op_b h
          refine k_callV (rv := none) (Wc := (gW T aP aQ v w_5)) (W2 := (gW T aP aQ v w_9)) (Wn := (gW T aP aQ v w_9)) (As := [.int ((w_5 9) x2_4.toNatClampNeg), .int 2, .int (w_5 0 0)]) (rest := []) F G (mX3_setMark l D T aP aQ v w_5 ((w_5 9) x2_4.toNatClampNeg) 2 (w_5 0 0) hc) (cwV 3 F.2.2.2.2 (kg_c kl477 (kg_c kl181 (kg_c kl182 (kg_c kl46 (kg_c kl178 kg_a))))) rfl rfl rfl (by decide +kernel) ⟨Nat.le_of_ble_eq_true rfl, Nat.le_of_ble_eq_true rfl⟩) 18 rfl (q := (RX3, TX3, 7)) rfl rfl (kCut_F G) rfl hl.1 rfl (Nat.le_of_ble_eq_true rfl) dX9_sendGrants_40 ⟨Nat.le_of_ble_eq_true rfl, Nat.le_of_ble_eq_true rfl⟩ (cN := 0) (sN := 0) ⟨rfl, rfl⟩ (fun H locs G => ?_)
          refine lv_aload_n F.1 F.2.1 dX9_sendGrants_43 rfl (lv_at hl 1 rfl) ?_
          refine k_get F G 9 rfl (N := 14) (Tt := TX9) rfl kf9 3 (by decide) kl51 (v := .ref (aQ 19)) rfl dX9_sendGrants_44 ?_
          refine lv_iconst (v := 4) F.1 F.2.1 dX9_sendGrants_47 (by decide) ?_
          refine lv_iload_n F.1 F.2.1 dX9_sendGrants_48 rfl (lv_at hl 0 rfl) ?_
          refine lv_iconst (v := (-1)) F.1 F.2.1 dX9_sendGrants_49 (by decide) ?_
          obtain ⟨w_10, hc, h⟩ := op_b h
          refine k_callV (rv := none) (Wc := (gW T aP aQ v w_9)) (W2 := (gW T aP aQ v w_10)) (Wn := (gW T aP aQ v w_10)) (As := [.int 4, .int ((w_5 9) x2_4.toNatClampNeg), .int (-1)]) (rest := []) F G (mX8_send l D T aP aQ v w_9 4 ((w_5 9) x2_4.toNatClampNeg) (-1) hc) (cwV 3 F.2.2.2.2 (kg_c kl499 (kg_c kl500 (kg_c kl501 (kg_c kl50 (kg_c kl433 kg_a))))) rfl rfl rfl (by decide +kernel) ⟨Nat.le_of_ble_eq_true rfl, Nat.le_of_ble_eq_true rfl⟩) 28 rfl (q := (RX8, TX8, 9)) rfl rfl (kCut_F G) rfl hl.1 rfl (Nat.le_of_ble_eq_true rfl) dX9_sendGrants_50 ⟨Nat.le_of_ble_eq_true rfl, Nat.le_of_ble_eq_true rfl⟩ (cN := 0) (sN := 0) ⟨rfl, rfl⟩ (fun H locs G => ?_)
          exact J53 w_10 _ _ _ h G (lv_sub hl [1, 2, 3] rfl)
  refine L7 v r_1 _ (fun w_6 H locs ls h G hl => ?_) fu 0 w_2 _ _ _ h G (lv_sub hl [2, 1, 0] rfl)
  clear L7
  obtain rfl := op_1 h
  exact k_vret F hr hlk G dX9_sendGrants_59
abbrev rmX9_drawOfAll : Room := ({ frames := 1, cells := 0, slots := 0, locals := 21 } : Room)
noncomputable def qX9_drawOfAll_L4 (v : Nat → Nat → Int32) (w : Nat → Nat → Int32) (K : Int32 → Option (Int32)) : Nat → Int32 → Int32 → Option (Int32)
  | 0, _, _ => none
  | n + 1, x1_1, x2_2 =>
    if (v 0 0) ≤ x2_2 then (K x1_1) else bd (qX2_drawOf v w x2_2) fun r_4 => (qX9_drawOfAll_L4 v w K n (x1_1 + r_4) (x2_2 + 1))

noncomputable def qX9_drawOfAll (v : Nat → Nat → Int32) (w : Nat → Nat → Int32) : Option (Int32) :=
  (qX9_drawOfAll_L4 v w  (fun (x1_3 : Int32) => some x1_3) fu 0 0 )

set_option maxHeartbeats 4000000 in
set_option maxRecDepth 100000 in
theorem mX9_drawOfAll (l : Launch) (D : va_G) (T : Nat → ClassId) (aP : Nat → Nat) (aQ : Nat → Nat) (v : Nat → Nat → Int32) (w : Nat → Nat → Int32) {rR : Int32} (hres : qX9_drawOfAll v w = some (rR)) : Ct l yX9_drawOfAll (Cond.code yX9_drawOfAll cX9_drawOfAll 3 (some .int) :: kAll) rmX9_drawOfAll D T [.ref (aQ 0)] (gW T aP aQ v w) (some (.int rR)) (gW T aP aQ v w) := by
  refine Ct.of (cc := cX9_drawOfAll) (maxL := 3) (ret := (some .int)) (by decide +kernel) rfl (Nat.le_of_ble_eq_true rfl) ?_
  intro pr en st mi ag bl me co A ls F hr hlk hnm G hl
  have hl : lv_has ls 3 [(0, .ref (aQ 0))] := hl
  have h := hres
  unfold qX9_drawOfAll at h
  refine lv_iconst (v := 0) F.1 F.2.1 dX9_drawOfAll_0 (by decide) ?_
  refine lv_istore_n (lv' := [(1, .int 0), (0, .ref (aQ 0))]) F.1 F.2.1 dX9_drawOfAll_1 rfl hl (by decide) rfl (fun ls hl => ?_)
  refine lv_iconst (v := 0) F.1 F.2.1 dX9_drawOfAll_2 (by decide) ?_
  refine lv_istore_n (lv' := [(2, .int 0), (1, .int 0), (0, .ref (aQ 0))]) F.1 F.2.1 dX9_drawOfAll_3 rfl hl (by decide) rfl (fun ls hl => ?_)
  have L4 : ∀ (v : Nat → Nat → Int32) (w : Nat → Nat → Int32) (K : Int32 → Option (Int32)) (hK : ∀ (x1_3 : Int32) (H : Heap) (locs : List Loc) (ls : Array Slot), K x1_3 = some (rR) → Rg D T A st (gW T aP aQ v w) H locs → lv_has ls 3 [(1, .int x1_3)] → W pr l en rmX9_drawOfAll st mi ag bl me co H locs 0 0 (MQ bl (kQ (some (.int rR)) D (gW T aP aQ v w) A) ag st rmX9_drawOfAll.cells rmX9_drawOfAll.slots A) (F0 mi 32 ls [])) (n : Nat) (x1_1 : Int32) (x2_2 : Int32) (H : Heap) (locs : List Loc) (ls : Array Slot), qX9_drawOfAll_L4 v w K n x1_1 x2_2 = some (rR) → Rg D T A st (gW T aP aQ v w) H locs → lv_has ls 3 [(0, .ref (aQ 0)), (1, .int x1_1), (2, .int x2_2)] → W pr l en rmX9_drawOfAll st mi ag bl me co H locs 0 0 (MQ bl (kQ (some (.int rR)) D (gW T aP aQ v w) A) ag st rmX9_drawOfAll.cells rmX9_drawOfAll.slots A) (F0 mi 4 ls []) := by
    intro v w K hK n
    induction n with
    | zero => intro x1_1 x2_2 H locs ls h; exact op_n h
    | succ n ih =>
      intro x1_1 x2_2 H locs ls h G hl
      rw [qX9_drawOfAll_L4] at h
      refine lv_iload_n F.1 F.2.1 dX9_drawOfAll_4 rfl (lv_at hl 2 rfl) ?_
      refine lv_aload_n F.1 F.2.1 dX9_drawOfAll_5 rfl (lv_at hl 0 rfl) ?_
      refine k_get F G 9 rfl (N := 14) (Tt := TX9) rfl kf9 0 (by decide) kl39 (v := .ref (aP 0)) rfl dX9_drawOfAll_6 ?_
      refine k_get F G 0 rfl (N := 18) (Tt := TX5) rfl kf5 0 (by decide) kl488 (v := .int (v 0 0)) rfl dX9_drawOfAll_9 ?_
      refine lv_icmp_ge (tgt := 32) F.1 F.2.1 dX9_drawOfAll_12 (by decide) (fun c => ?_) (fun c => ?_)
      · have h := op_t h c
        exact hK x1_1 _ _ _ h G (lv_sub hl [1] rfl)
      · have h := op_f h c
        refine lv_iload_n F.1 F.2.1 dX9_drawOfAll_15 rfl (lv_at hl 1 rfl) ?_
        refine lv_aload_n F.1 F.2.1 dX9_drawOfAll_16 rfl (lv_at hl 0 rfl) ?_
        refine k_get F G 9 rfl (N := 14) (Tt := TX9) rfl kf9 1 (by decide) kl43 (v := .ref (aQ 2)) rfl dX9_drawOfAll_17 ?_
        refine lv_iload_n F.1 F.2.1 dX9_drawOfAll_20 rfl (lv_at hl 2 rfl) ?_
        obtain ⟨r_4, hc, h⟩ := op_b h
        refine k_callV (rv := (some (.int r_4))) (Wc := (gW T aP aQ v w)) (W2 := (gW T aP aQ v w)) (Wn := (gW T aP aQ v w)) (As := [.int x2_2]) (rest := [.int x1_1]) F G (mX2_drawOf l D T aP aQ v w x2_2 hc) (cwV 1 F.2.2.2.2 (kg_c kl534 (kg_c kl535 (kg_c kl536 (kg_c kl42 (kg_c kl139 kg_a))))) rfl rfl rfl (by decide +kernel) ⟨Nat.le_of_ble_eq_true rfl, Nat.le_of_ble_eq_true rfl⟩) 11 rfl (q := (RX2, TX2, 9)) rfl rfl (kCut_F G) rfl hl.1 rfl (Nat.le_of_ble_eq_true rfl) dX9_drawOfAll_21 ⟨Nat.le_of_ble_eq_true rfl, Nat.le_of_ble_eq_true rfl⟩ (cN := 0) (sN := 0) ⟨rfl, rfl⟩ (fun H locs G => ?_)
        refine lv_iadd F.1 F.2.1 dX9_drawOfAll_24 ?_
        refine lv_istore_n (lv' := [(1, .int (x1_1 + r_4)), (0, .ref (aQ 0)), (2, .int x2_2)]) F.1 F.2.1 dX9_drawOfAll_25 rfl hl (by decide) rfl (fun ls hl => ?_)
        refine lv_iinc (v := (x2_2 + 1)) (lv' := [(2, .int (x2_2 + 1)), (1, .int (x1_1 + r_4)), (0, .ref (aQ 0))]) F.1 F.2.1 dX9_drawOfAll_26 hl (k := 2) rfl rfl (by decide) rfl (fun ls hl => ?_)
        refine lv_goto (tgt := 4) F.1 F.2.1 dX9_drawOfAll_29 (by decide) ?_
        exact ih (x1_1 + r_4) (x2_2 + 1) _ _ _ h G (lv_sub hl [2, 1, 0] rfl)
  refine L4 v w  _ (fun x1_3 H locs ls h G hl => ?_) fu 0 0  _ _ _ h G (lv_sub hl [2, 1, 0] rfl)
  clear L4
  refine lv_iload_n F.1 F.2.1 dX9_drawOfAll_32 rfl (lv_at hl 0 rfl) ?_
  obtain rfl := op_1 h
  exact k_iret F hr hlk G dX9_drawOfAll_33
abbrev rmX9_readMeter : Room := ({ frames := 4, cells := 0, slots := 0, locals := 85 } : Room)
noncomputable def qX9_readMeter (v : Nat → Nat → Int32) (w : Nat → Nat → Int32) : Option ((Nat → Nat → Int32)) :=
  bd (qX9_drawOfAll v w) fun r_1 => (bs (va_up w 7 (fun _ => (if (w 7 0) < r_1 then r_1 else (w 7 0)))) fun w_2 => bd (qX2_spendTick v w_2) fun w_3 => (bs (va_up w_3 0 (fun _ => ((w_3 0 0) + 1))) fun w_4 => if r_1 ≤ (w_4 2 0) then some w_4 else (bs (va_up w_4 6 (fun _ => ((w_4 6 0) + 1))) fun w_5 => bd (qX9_beginBlackout v w_5 5) fun w_6 => some w_6)))

set_option maxHeartbeats 4000000 in
set_option maxRecDepth 100000 in
theorem mX9_readMeter (l : Launch) (D : va_G) (T : Nat → ClassId) (aP : Nat → Nat) (aQ : Nat → Nat) (v : Nat → Nat → Int32) (w : Nat → Nat → Int32) {wR : Nat → Nat → Int32} (hres : qX9_readMeter v w = some (wR)) : Ct l yX9_readMeter (Cond.code yX9_readMeter cX9_readMeter 2 none :: kAll) rmX9_readMeter D T [.ref (aQ 0)] (gW T aP aQ v w) none (gW T aP aQ v wR) := by
  refine Ct.of (cc := cX9_readMeter) (maxL := 2) (ret := none) (by decide +kernel) rfl (Nat.le_of_ble_eq_true rfl) ?_
  intro pr en st mi ag bl me co A ls F hr hlk hnm G hl
  have hl : lv_has ls 2 [(0, .ref (aQ 0))] := hl
  have h := hres
  unfold qX9_readMeter at h
  refine lv_aload_n F.1 F.2.1 dX9_readMeter_0 rfl (lv_at hl 0 rfl) ?_
  obtain ⟨r_1, hc, h⟩ := op_b h
  refine k_callV (rv := (some (.int r_1))) (Wc := (gW T aP aQ v w)) (W2 := (gW T aP aQ v w)) (Wn := (gW T aP aQ v w)) (As := []) (rest := []) F G (mX9_drawOfAll l D T aP aQ v w hc) (cwV 0 F.2.2.2.2 (kg_c kl538 (kg_c kl539 (kg_c kl540 (kg_c kl64 (kg_c kl533 kg_a))))) rfl rfl rfl (by decide +kernel) ⟨Nat.le_of_ble_eq_true rfl, Nat.le_of_ble_eq_true rfl⟩) 9 rfl (q := (RX9, TX9, 14)) rfl rfl (kCut_F G) rfl hl.1 rfl (Nat.le_of_ble_eq_true rfl) dX9_readMeter_1 ⟨Nat.le_of_ble_eq_true rfl, Nat.le_of_ble_eq_true rfl⟩ (cN := 0) (sN := 0) ⟨rfl, rfl⟩ (fun H locs G => ?_)
  refine lv_istore_n (lv' := [(1, .int r_1), (0, .ref (aQ 0))]) F.1 F.2.1 dX9_readMeter_4 rfl hl (by decide) rfl (fun ls hl => ?_)
  refine lv_aload_n F.1 F.2.1 dX9_readMeter_5 rfl (lv_at hl 1 rfl) ?_
  refine lv_aload_n F.1 F.2.1 dX9_readMeter_6 rfl (lv_at hl 1 rfl) ?_
  refine k_get F G 9 rfl (N := 14) (Tt := TX9) rfl kf9 11 (by decide) kl449 (v := .int (w 7 0)) rfl dX9_readMeter_7 ?_
  refine lv_iload_n F.1 F.2.1 dX9_readMeter_10 rfl (lv_at hl 0 rfl) ?_
  refine va_mmax F.1 F.2.1 (F.2.2.1.trans hl.1.symm) F.2.2.2.1 (F.2.2.2.2 _ kl461) (F.2.2.2.2 _ kl462) (F.2.2.2.2 _ kl70) (F.2.2.2.2 _ kl463) (Nat.le_of_ble_eq_true rfl) (Nat.le_of_ble_eq_true rfl) (Nat.le_of_ble_eq_true rfl) (Nat.le_of_ble_eq_true rfl) dX9_readMeter_11 ?_
  obtain ⟨w_2, e9, h⟩ := op_st h
  refine k_put F G 9 rfl (N := 14) (Tt := TX9) rfl kf9 tyX9_ok nmX9 11 (by decide) kl449 rfl (v := .int (if (w 7 0) < r_1 then r_1 else (w 7 0))) rfl rfl (Nat.le_of_ble_eq_true rfl) dX9_readMeter_14 (Wn := (gW T aP aQ v w_2)) (by subst e9; rfl) (fun H locs G => ?_)
  clear e9
  refine lv_aload_n F.1 F.2.1 dX9_readMeter_17 rfl (lv_at hl 1 rfl) ?_
  refine k_get F G 9 rfl (N := 14) (Tt := TX9) rfl kf9 1 (by decide) kl43 (v := .ref (aQ 2)) rfl dX9_readMeter_18 ?_
  obtain ⟨w_3, hc, h⟩ := op_b h
  refine k_callV (rv := none) (Wc := (gW T aP aQ v w_2)) (W2 := (gW T aP aQ v w_3)) (Wn := (gW T aP aQ v w_3)) (As := []) (rest := []) F G (mX2_spendTick l D T aP aQ v w_2 hc) (cwV 0 F.2.2.2.2 (kg_c kl541 (kg_c kl542 (kg_c kl543 (kg_c kl42 (kg_c kl155 kg_a))))) rfl rfl rfl (by decide +kernel) ⟨Nat.le_of_ble_eq_true rfl, Nat.le_of_ble_eq_true rfl⟩) 11 rfl (q := (RX2, TX2, 9)) rfl rfl (kCut_F G) rfl hl.1 rfl (Nat.le_of_ble_eq_true rfl) dX9_readMeter_21 ⟨Nat.le_of_ble_eq_true rfl, Nat.le_of_ble_eq_true rfl⟩ (cN := 0) (sN := 0) ⟨rfl, rfl⟩ (fun H locs G => ?_)
  refine lv_aload_n F.1 F.2.1 dX9_readMeter_24 rfl (lv_at hl 1 rfl) ?_
  refine lv_dup F.1 F.2.1 dX9_readMeter_25 rfl ?_
  refine k_get F G 9 rfl (N := 14) (Tt := TX9) rfl kf9 4 (by decide) kl439 (v := .int (w_3 0 0)) rfl dX9_readMeter_26 ?_
  refine lv_iconst (v := 1) F.1 F.2.1 dX9_readMeter_29 (by decide) ?_
  refine lv_iadd F.1 F.2.1 dX9_readMeter_30 ?_
  obtain ⟨w_4, e9, h⟩ := op_st h
  refine k_put F G 9 rfl (N := 14) (Tt := TX9) rfl kf9 tyX9_ok nmX9 4 (by decide) kl439 rfl (v := .int ((w_3 0 0) + 1)) rfl rfl (Nat.le_of_ble_eq_true rfl) dX9_readMeter_31 (Wn := (gW T aP aQ v w_4)) (by subst e9; rfl) (fun H locs G => ?_)
  clear e9
  refine lv_iload_n F.1 F.2.1 dX9_readMeter_34 rfl (lv_at hl 0 rfl) ?_
  refine lv_aload_n F.1 F.2.1 dX9_readMeter_35 rfl (lv_at hl 1 rfl) ?_
  refine k_get F G 9 rfl (N := 14) (Tt := TX9) rfl kf9 6 (by decide) kl442 (v := .int (w_4 2 0)) rfl dX9_readMeter_36 ?_
  refine lv_icmp_le (tgt := 57) F.1 F.2.1 dX9_readMeter_39 (by decide) (fun c => ?_) (fun c => ?_)
  · have h := op_t h c
    obtain rfl := op_1 h
    exact k_vret F hr hlk G dX9_readMeter_57
  · have h := op_f h c
    refine lv_aload_n F.1 F.2.1 dX9_readMeter_42 rfl (lv_at hl 1 rfl) ?_
    refine lv_dup F.1 F.2.1 dX9_readMeter_43 rfl ?_
    refine k_get F G 9 rfl (N := 14) (Tt := TX9) rfl kf9 10 (by decide) kl448 (v := .int (w_4 6 0)) rfl dX9_readMeter_44 ?_
    refine lv_iconst (v := 1) F.1 F.2.1 dX9_readMeter_47 (by decide) ?_
    refine lv_iadd F.1 F.2.1 dX9_readMeter_48 ?_
    obtain ⟨w_5, e9, h⟩ := op_st h
    refine k_put F G 9 rfl (N := 14) (Tt := TX9) rfl kf9 tyX9_ok nmX9 10 (by decide) kl448 rfl (v := .int ((w_4 6 0) + 1)) rfl rfl (Nat.le_of_ble_eq_true rfl) dX9_readMeter_49 (Wn := (gW T aP aQ v w_5)) (by subst e9; rfl) (fun H locs G => ?_)
    clear e9
    refine lv_aload_n F.1 F.2.1 dX9_readMeter_52 rfl (lv_at hl 1 rfl) ?_
    refine lv_iconst (v := 5) F.1 F.2.1 dX9_readMeter_53 (by decide) ?_
    obtain ⟨w_6, hc, h⟩ := op_b h
    refine k_callV (rv := none) (Wc := (gW T aP aQ v w_5)) (W2 := (gW T aP aQ v w_6)) (Wn := (gW T aP aQ v w_6)) (As := [.int 5]) (rest := []) F G (mX9_beginBlackout l D T aP aQ v w_5 5 hc) (cwV 1 F.2.2.2.2 (kg_c kl544 (kg_c kl545 (kg_c kl546 (kg_c kl64 (kg_c kl460 kg_a))))) rfl rfl rfl (by decide +kernel) ⟨Nat.le_of_ble_eq_true rfl, Nat.le_of_ble_eq_true rfl⟩) 9 rfl (q := (RX9, TX9, 14)) rfl rfl (kCut_F G) rfl hl.1 rfl (Nat.le_of_ble_eq_true rfl) dX9_readMeter_54 ⟨Nat.le_of_ble_eq_true rfl, Nat.le_of_ble_eq_true rfl⟩ (cN := 0) (sN := 0) ⟨rfl, rfl⟩ (fun H locs G => ?_)
    obtain rfl := op_1 h
    exact k_vret F hr hlk G dX9_readMeter_57
abbrev rmX9_entitled : Room := ({ frames := 1, cells := 0, slots := 0, locals := 21 } : Room)
noncomputable def qX9_entitled_L20 (v : Nat → Nat → Int32) (w : Nat → Nat → Int32) (x2_5 : Int32) (x3_6 : Int32) (K : Int32 → Option (Int32)) : Nat → Int32 → Int32 → Option (Int32)
  | 0, _, _ => none
  | n + 1, x1_4, x4_7 =>
    if (v 0 0) ≤ x4_7 then (K x1_4) else bd (qX2_doesWant v w x4_7) fun r_9 => (jn (fun (x1_10 : Int32) => (qX9_entitled_L20 v w x2_5 x3_6 K n x1_10 (x4_7 + 1))) fun j85 => if r_9 = 0 then (j85 x1_4) else gd (vp_in x4_7 12) (if (w 2 0) < ((v 10) x4_7.toNatClampNeg) then (j85 x1_4) else gd (vp_in x4_7 12) (if (((v 14) x4_7.toNatClampNeg) &&& (x1_4 ^^^ (-1))) = 0 then (j85 (x1_4 ||| (1 <<< (x4_7 &&& 31)))) else (j85 x1_4))))

noncomputable def qX9_entitled_L4 (v : Nat → Nat → Int32) (w : Nat → Nat → Int32) (K : Int32 → Option (Int32)) : Nat → Int32 → Int32 → Option (Int32)
  | 0, _, _ => none
  | n + 1, x1_1, x2_2 =>
    if (v 0 0) ≤ x2_2 then (K x1_1) else (qX9_entitled_L20 v w x2_2 x1_1 (fun (x1_8 : Int32) => if x1_8 = x1_1 then (K x1_8) else (qX9_entitled_L4 v w K n x1_8 (x2_2 + 1))) fu x1_1 0 )

noncomputable def qX9_entitled (v : Nat → Nat → Int32) (w : Nat → Nat → Int32) : Option (Int32) :=
  (qX9_entitled_L4 v w  (fun (x1_3 : Int32) => some x1_3) fu 0 0 )

set_option maxHeartbeats 4000000 in
set_option maxRecDepth 100000 in
theorem mX9_entitled (l : Launch) (D : va_G) (T : Nat → ClassId) (aP : Nat → Nat) (aQ : Nat → Nat) (v : Nat → Nat → Int32) (w : Nat → Nat → Int32) {rR : Int32} (hres : qX9_entitled v w = some (rR)) : Ct l yX9_entitled (Cond.code yX9_entitled cX9_entitled 5 (some .int) :: kAll) rmX9_entitled D T [.ref (aQ 0)] (gW T aP aQ v w) (some (.int rR)) (gW T aP aQ v w) := by
  refine Ct.of (cc := cX9_entitled) (maxL := 5) (ret := (some .int)) (by decide +kernel) rfl (Nat.le_of_ble_eq_true rfl) ?_
  intro pr en st mi ag bl me co A ls F hr hlk hnm G hl
  have hl : lv_has ls 5 [(0, .ref (aQ 0))] := hl
  have h := hres
  unfold qX9_entitled at h
  refine lv_iconst (v := 0) F.1 F.2.1 dX9_entitled_0 (by decide) ?_
  refine lv_istore_n (lv' := [(1, .int 0), (0, .ref (aQ 0))]) F.1 F.2.1 dX9_entitled_1 rfl hl (by decide) rfl (fun ls hl => ?_)
  refine lv_iconst (v := 0) F.1 F.2.1 dX9_entitled_2 (by decide) ?_
  refine lv_istore_n (lv' := [(2, .int 0), (1, .int 0), (0, .ref (aQ 0))]) F.1 F.2.1 dX9_entitled_3 rfl hl (by decide) rfl (fun ls hl => ?_)
  have L4 : ∀ (v : Nat → Nat → Int32) (w : Nat → Nat → Int32) (K : Int32 → Option (Int32)) (hK : ∀ (x1_3 : Int32) (H : Heap) (locs : List Loc) (ls : Array Slot), K x1_3 = some (rR) → Rg D T A st (gW T aP aQ v w) H locs → lv_has ls 5 [(1, .int x1_3)] → W pr l en rmX9_entitled st mi ag bl me co H locs 0 0 (MQ bl (kQ (some (.int rR)) D (gW T aP aQ v w) A) ag st rmX9_entitled.cells rmX9_entitled.slots A) (F0 mi 105 ls [])) (n : Nat) (x1_1 : Int32) (x2_2 : Int32) (H : Heap) (locs : List Loc) (ls : Array Slot), qX9_entitled_L4 v w K n x1_1 x2_2 = some (rR) → Rg D T A st (gW T aP aQ v w) H locs → lv_has ls 5 [(0, .ref (aQ 0)), (1, .int x1_1), (2, .int x2_2)] → W pr l en rmX9_entitled st mi ag bl me co H locs 0 0 (MQ bl (kQ (some (.int rR)) D (gW T aP aQ v w) A) ag st rmX9_entitled.cells rmX9_entitled.slots A) (F0 mi 4 ls []) := by
    intro v w K hK n
    induction n with
    | zero => intro x1_1 x2_2 H locs ls h; exact op_n h
    | succ n ih =>
      intro x1_1 x2_2 H locs ls h G hl
      rw [qX9_entitled_L4] at h
      refine lv_iload_n F.1 F.2.1 dX9_entitled_4 rfl (lv_at hl 2 rfl) ?_
      refine lv_aload_n F.1 F.2.1 dX9_entitled_5 rfl (lv_at hl 0 rfl) ?_
      refine k_get F G 9 rfl (N := 14) (Tt := TX9) rfl kf9 0 (by decide) kl39 (v := .ref (aP 0)) rfl dX9_entitled_6 ?_
      refine k_get F G 0 rfl (N := 18) (Tt := TX5) rfl kf5 0 (by decide) kl488 (v := .int (v 0 0)) rfl dX9_entitled_9 ?_
      refine lv_icmp_ge (tgt := 105) F.1 F.2.1 dX9_entitled_12 (by decide) (fun c => ?_) (fun c => ?_)
      · have h := op_t h c
        exact hK x1_1 _ _ _ h G (lv_sub hl [1] rfl)
      · have h := op_f h c
        refine lv_iload_n F.1 F.2.1 dX9_entitled_15 rfl (lv_at hl 1 rfl) ?_
        refine lv_istore_n (lv' := [(3, .int x1_1), (0, .ref (aQ 0)), (1, .int x1_1), (2, .int x2_2)]) F.1 F.2.1 dX9_entitled_16 rfl hl (by decide) rfl (fun ls hl => ?_)
        refine lv_iconst (v := 0) F.1 F.2.1 dX9_entitled_17 (by decide) ?_
        refine lv_istore (lv' := [(4, .int 0), (3, .int x1_1), (0, .ref (aQ 0)), (1, .int x1_1), (2, .int x2_2)]) F.1 F.2.1 dX9_entitled_18 hl (by decide) rfl (fun ls hl => ?_)
        have L20 : ∀ (v : Nat → Nat → Int32) (w : Nat → Nat → Int32) (x2_5 : Int32) (x3_6 : Int32) (K : Int32 → Option (Int32)) (hK : ∀ (x1_8 : Int32) (H : Heap) (locs : List Loc) (ls : Array Slot), K x1_8 = some (rR) → Rg D T A st (gW T aP aQ v w) H locs → lv_has ls 5 [(0, .ref (aQ 0)), (1, .int x1_8), (2, .int x2_5), (3, .int x3_6)] → W pr l en rmX9_entitled st mi ag bl me co H locs 0 0 (MQ bl (kQ (some (.int rR)) D (gW T aP aQ v w) A) ag st rmX9_entitled.cells rmX9_entitled.slots A) (F0 mi 91 ls [])) (n : Nat) (x1_4 : Int32) (x4_7 : Int32) (H : Heap) (locs : List Loc) (ls : Array Slot), qX9_entitled_L20 v w x2_5 x3_6 K n x1_4 x4_7 = some (rR) → Rg D T A st (gW T aP aQ v w) H locs → lv_has ls 5 [(0, .ref (aQ 0)), (1, .int x1_4), (2, .int x2_5), (3, .int x3_6), (4, .int x4_7)] → W pr l en rmX9_entitled st mi ag bl me co H locs 0 0 (MQ bl (kQ (some (.int rR)) D (gW T aP aQ v w) A) ag st rmX9_entitled.cells rmX9_entitled.slots A) (F0 mi 20 ls []) := by
          intro v w x2_5 x3_6 K hK n
          induction n with
          | zero => intro x1_4 x4_7 H locs ls h; exact op_n h
          | succ n ih =>
            intro x1_4 x4_7 H locs ls h G hl
            rw [qX9_entitled_L20] at h
            refine lv_iload F.1 F.2.1 dX9_entitled_20 (lv_at hl 4 rfl) ?_
            refine lv_aload_n F.1 F.2.1 dX9_entitled_22 rfl (lv_at hl 0 rfl) ?_
            refine k_get F G 9 rfl (N := 14) (Tt := TX9) rfl kf9 0 (by decide) kl39 (v := .ref (aP 0)) rfl dX9_entitled_23 ?_
            refine k_get F G 0 rfl (N := 18) (Tt := TX5) rfl kf5 0 (by decide) kl488 (v := .int (v 0 0)) rfl dX9_entitled_26 ?_
            refine lv_icmp_ge (tgt := 91) F.1 F.2.1 dX9_entitled_29 (by decide) (fun c => ?_) (fun c => ?_)
            · have h := op_t h c
              exact hK x1_4 _ _ _ h G (lv_sub hl [0, 1, 2, 3] rfl)
            · have h := op_f h c
              refine lv_aload_n F.1 F.2.1 dX9_entitled_32 rfl (lv_at hl 0 rfl) ?_
              refine k_get F G 9 rfl (N := 14) (Tt := TX9) rfl kf9 1 (by decide) kl43 (v := .ref (aQ 2)) rfl dX9_entitled_33 ?_
              refine lv_iload F.1 F.2.1 dX9_entitled_36 (lv_at hl 4 rfl) ?_
              obtain ⟨r_9, hc, h⟩ := op_b h
              refine k_callV (rv := (some (.int r_9))) (Wc := (gW T aP aQ v w)) (W2 := (gW T aP aQ v w)) (Wn := (gW T aP aQ v w)) (As := [.int x4_7]) (rest := []) F G (mX2_doesWant l D T aP aQ v w x4_7 hc) (cwV 1 F.2.2.2.2 (kg_c kl491 (kg_c kl146 (kg_c kl147 (kg_c kl42 (kg_c kl137 kg_a))))) rfl rfl rfl (by decide +kernel) ⟨Nat.le_of_ble_eq_true rfl, Nat.le_of_ble_eq_true rfl⟩) 11 rfl (q := (RX2, TX2, 9)) rfl rfl (kCut_F G) rfl hl.1 rfl (Nat.le_of_ble_eq_true rfl) dX9_entitled_38 ⟨Nat.le_of_ble_eq_true rfl, Nat.le_of_ble_eq_true rfl⟩ (cN := 0) (sN := 0) ⟨rfl, rfl⟩ (fun H locs G => ?_)
              obtain ⟨j85, hj85, h⟩ := op_j h
              have J85 : ∀ (x1_10 : Int32) (H : Heap) (locs : List Loc) (ls : Array Slot), j85 x1_10 = some (rR) → Rg D T A st (gW T aP aQ v w) H locs → lv_has ls 5 [(0, .ref (aQ 0)), (1, .int x1_10), (2, .int x2_5), (3, .int x3_6), (4, .int x4_7)] → W pr l en rmX9_entitled st mi ag bl me co H locs 0 0 (MQ bl (kQ (some (.int rR)) D (gW T aP aQ v w) A) ag st rmX9_entitled.cells rmX9_entitled.slots A) (F0 mi 85 ls []) := by
                intro x1_10 H locs ls h G hl
                rw [hj85] at h
                refine lv_iinc (v := (x4_7 + 1)) (lv' := [(4, .int (x4_7 + 1)), (0, .ref (aQ 0)), (1, .int x1_10), (2, .int x2_5), (3, .int x3_6)]) F.1 F.2.1 dX9_entitled_85 hl (k := 4) rfl rfl (by decide) rfl (fun ls hl => ?_)
                refine lv_goto (tgt := 20) F.1 F.2.1 dX9_entitled_88 (by decide) ?_
                exact ih x1_10 (x4_7 + 1) _ _ _ h G (lv_sub hl [1, 2, 3, 4, 0] rfl)
              clear hj85
              refine lv_if_eq (tgt := 85) F.1 F.2.1 dX9_entitled_41 (by decide) (fun c => ?_) (fun c => ?_)
              · have h := op_t h c
                exact J85 x1_4 _ _ _ h G hl
              · have h := op_f h c
                refine lv_aload_n F.1 F.2.1 dX9_entitled_44 rfl (lv_at hl 0 rfl) ?_
                refine k_get F G 9 rfl (N := 14) (Tt := TX9) rfl kf9 0 (by decide) kl39 (v := .ref (aP 0)) rfl dX9_entitled_45 ?_
                refine k_get F G 0 rfl (N := 18) (Tt := TX5) rfl kf5 3 (by decide) kl489 (v := .ref (aP 2)) rfl dX9_entitled_48 ?_
                refine lv_iload F.1 F.2.1 dX9_entitled_51 (lv_at hl 4 rfl) ?_
                obtain ⟨c, h⟩ := op_g h
                refine k_iald F G 2 rfl c dX9_entitled_53 ?_
                refine lv_aload_n F.1 F.2.1 dX9_entitled_54 rfl (lv_at hl 0 rfl) ?_
                refine k_get F G 9 rfl (N := 14) (Tt := TX9) rfl kf9 6 (by decide) kl442 (v := .int (w 2 0)) rfl dX9_entitled_55 ?_
                refine lv_icmp_gt (tgt := 85) F.1 F.2.1 dX9_entitled_58 (by decide) (fun c => ?_) (fun c => ?_)
                · have h := op_t h c
                  exact J85 x1_4 _ _ _ h G hl
                · have h := op_f h c
                  refine lv_aload_n F.1 F.2.1 dX9_entitled_61 rfl (lv_at hl 0 rfl) ?_
                  refine k_get F G 9 rfl (N := 14) (Tt := TX9) rfl kf9 0 (by decide) kl39 (v := .ref (aP 0)) rfl dX9_entitled_62 ?_
                  refine k_get F G 0 rfl (N := 18) (Tt := TX5) rfl kf5 7 (by decide) kl490 (v := .ref (aP 6)) rfl dX9_entitled_65 ?_
                  refine lv_iload F.1 F.2.1 dX9_entitled_68 (lv_at hl 4 rfl) ?_
                  obtain ⟨c, h⟩ := op_g h
                  refine k_iald F G 6 rfl c dX9_entitled_70 ?_
                  refine lv_iload_n F.1 F.2.1 dX9_entitled_71 rfl (lv_at hl 1 rfl) ?_
                  refine lv_iconst (v := (-1)) F.1 F.2.1 dX9_entitled_72 (by decide) ?_
                  refine lv_ixor F.1 F.2.1 dX9_entitled_73 ?_
                  refine lv_iand F.1 F.2.1 dX9_entitled_74 ?_
                  refine lv_if_ne (tgt := 85) F.1 F.2.1 dX9_entitled_75 (by decide) (fun c => ?_) (fun c => ?_)
                  · have h := op_f h c
                    exact J85 x1_4 _ _ _ h G hl
                  · have h := op_t h c
                    refine lv_iload_n F.1 F.2.1 dX9_entitled_78 rfl (lv_at hl 1 rfl) ?_
                    refine lv_iconst (v := 1) F.1 F.2.1 dX9_entitled_79 (by decide) ?_
                    refine lv_iload F.1 F.2.1 dX9_entitled_80 (lv_at hl 4 rfl) ?_
                    refine lv_ishl F.1 F.2.1 dX9_entitled_82 ?_
                    refine lv_ior F.1 F.2.1 dX9_entitled_83 ?_
                    refine lv_istore_n (lv' := [(1, .int (x1_4 ||| (1 <<< (x4_7 &&& 31)))), (0, .ref (aQ 0)), (2, .int x2_5), (3, .int x3_6), (4, .int x4_7)]) F.1 F.2.1 dX9_entitled_84 rfl hl (by decide) rfl (fun ls hl => ?_)
                    exact J85 (x1_4 ||| (1 <<< (x4_7 &&& 31))) _ _ _ h G (lv_sub hl [1, 0, 2, 3, 4] rfl)
        refine L20 v w x2_2 x1_1 _ (fun x1_8 H locs ls h G hl => ?_) fu x1_1 0  _ _ _ h G (lv_sub hl [2, 3, 4, 1, 0] rfl)
        clear L20
        refine lv_iload_n F.1 F.2.1 dX9_entitled_91 rfl (lv_at hl 1 rfl) ?_
        refine lv_iload_n F.1 F.2.1 dX9_entitled_92 rfl (lv_at hl 3 rfl) ?_
        refine lv_icmp_ne (tgt := 99) F.1 F.2.1 dX9_entitled_93 (by decide) (fun c => ?_) (fun c => ?_)
        · have h := op_f h c
          refine lv_iinc (v := (x2_2 + 1)) (lv' := [(2, .int (x2_2 + 1)), (0, .ref (aQ 0)), (1, .int x1_8), (3, .int x1_1)]) F.1 F.2.1 dX9_entitled_99 hl (k := 2) rfl rfl (by decide) rfl (fun ls hl => ?_)
          refine lv_goto (tgt := 4) F.1 F.2.1 dX9_entitled_102 (by decide) ?_
          exact ih x1_8 (x2_2 + 1) _ _ _ h G (lv_sub hl [1, 2, 0] rfl)
        · have h := op_t h c
          refine lv_goto (tgt := 105) F.1 F.2.1 dX9_entitled_96 (by decide) ?_
          exact hK x1_8 _ _ _ h G (lv_sub hl [1] rfl)
  refine L4 v w  _ (fun x1_3 H locs ls h G hl => ?_) fu 0 0  _ _ _ h G (lv_sub hl [2, 1, 0] rfl)
  clear L4
  refine lv_iload_n F.1 F.2.1 dX9_entitled_105 rfl (lv_at hl 0 rfl) ?_
  obtain rfl := op_1 h
  exact k_iret F hr hlk G dX9_entitled_106
abbrev rmX9_passTick : Room := ({ frames := 5, cells := 0, slots := 0, locals := 106 } : Room)
noncomputable def qX9_passTick_L2 (v : Nat → Nat → Int32) (K : (Nat → Nat → Int32) → Option ((Nat → Nat → Int32))) : Nat → Int32 → (Nat → Nat → Int32) → Option ((Nat → Nat → Int32))
  | 0, _, _ => none
  | n + 1, x1_1, w_2 =>
    if (v 8 0) ≤ x1_1 then (K w_2) else gd (vp_in x1_1 4) ((jn (fun (w_4 : Nat → Nat → Int32) => (qX9_passTick_L2 v K n (x1_1 + 1) w_4)) fun j42 => if ((v 15) x1_1.toNatClampNeg) = (w_2 0 0) then gd (vp_in x1_1 4) (bd (qX9_beginBlackout v w_2 ((v 16) x1_1.toNatClampNeg)) fun w_5 => (j42 w_5)) else (j42 w_2)))

noncomputable def qX9_passTick_L83 (v : Nat → Nat → Int32) (K : (Nat → Nat → Int32) → Option ((Nat → Nat → Int32))) : Nat → Int32 → (Nat → Nat → Int32) → Option ((Nat → Nat → Int32))
  | 0, _, _ => none
  | n + 1, x1_10, w_11 =>
    if (v 0 0) ≤ x1_10 then (K w_11) else bd (qX9_letOutletAct v w_11 x1_10) fun w_13 => (qX9_passTick_L83 v K n (x1_10 + 1) w_13)

noncomputable def qX9_passTick (v : Nat → Nat → Int32) (w : Nat → Nat → Int32) : Option ((Nat → Nat → Int32)) :=
  (qX9_passTick_L2 v  (fun (w_3 : Nat → Nat → Int32) => bd (qX9_isDark v w_3) fun r_6 => if r_6 = 0 then bd (qX9_receiveMessages v w_3) fun w_7 => bd (qX9_entitled v w_7) fun r_8 => bd (qX3_learnOrder v w_7 r_8) fun w_9 => (qX9_passTick_L83 v  (fun (w_12 : Nat → Nat → Int32) => bd (qX9_sendPolls v w_12) fun w_14 => bd (qX9_sendGrants v w_14) fun w_15 => bd (qX9_readMeter v w_15) fun w_16 => some w_16) fu 0 w_9) else (bs (va_up w_3 0 (fun _ => ((w_3 0 0) + 1))) fun w_17 => some w_17)) fu 0 w)

set_option maxHeartbeats 4000000 in
set_option maxRecDepth 100000 in
theorem mX9_passTick (l : Launch) (D : va_G) (T : Nat → ClassId) (aP : Nat → Nat) (aQ : Nat → Nat) (v : Nat → Nat → Int32) (w : Nat → Nat → Int32) {wR : Nat → Nat → Int32} (hres : qX9_passTick v w = some (wR)) : Ct l yX9_passTick (Cond.code yX9_passTick cX9_passTick 2 none :: kAll) rmX9_passTick D T [.ref (aQ 0)] (gW T aP aQ v w) none (gW T aP aQ v wR) := by
  refine Ct.of (cc := cX9_passTick) (maxL := 2) (ret := none) (by decide +kernel) rfl (Nat.le_of_ble_eq_true rfl) ?_
  intro pr en st mi ag bl me co A ls F hr hlk hnm G hl
  have hl : lv_has ls 2 [(0, .ref (aQ 0))] := hl
  have h := hres
  unfold qX9_passTick at h
  refine lv_iconst (v := 0) F.1 F.2.1 dX9_passTick_0 (by decide) ?_
  refine lv_istore_n (lv' := [(1, .int 0), (0, .ref (aQ 0))]) F.1 F.2.1 dX9_passTick_1 rfl hl (by decide) rfl (fun ls hl => ?_)
  have L2 : ∀ (v : Nat → Nat → Int32) (K : (Nat → Nat → Int32) → Option ((Nat → Nat → Int32))) (hK : ∀ (w_3 : Nat → Nat → Int32) (H : Heap) (locs : List Loc) (ls : Array Slot), K w_3 = some (wR) → Rg D T A st (gW T aP aQ v w_3) H locs → lv_has ls 2 [(0, .ref (aQ 0))] → W pr l en rmX9_passTick st mi ag bl me co H locs 0 0 (MQ bl (kQ none D (gW T aP aQ v wR) A) ag st rmX9_passTick.cells rmX9_passTick.slots A) (F0 mi 48 ls [])) (n : Nat) (x1_1 : Int32) (w_2 : Nat → Nat → Int32) (H : Heap) (locs : List Loc) (ls : Array Slot), qX9_passTick_L2 v K n x1_1 w_2 = some (wR) → Rg D T A st (gW T aP aQ v w_2) H locs → lv_has ls 2 [(0, .ref (aQ 0)), (1, .int x1_1)] → W pr l en rmX9_passTick st mi ag bl me co H locs 0 0 (MQ bl (kQ none D (gW T aP aQ v wR) A) ag st rmX9_passTick.cells rmX9_passTick.slots A) (F0 mi 2 ls []) := by
    intro v K hK n
    induction n with
    | zero => intro x1_1 w_2 H locs ls h; exact op_n h
    | succ n ih =>
      intro x1_1 w_2 H locs ls h G hl
      rw [qX9_passTick_L2] at h
      refine lv_iload_n F.1 F.2.1 dX9_passTick_2 rfl (lv_at hl 1 rfl) ?_
      refine lv_aload_n F.1 F.2.1 dX9_passTick_3 rfl (lv_at hl 0 rfl) ?_
      refine k_get F G 9 rfl (N := 14) (Tt := TX9) rfl kf9 0 (by decide) kl39 (v := .ref (aP 0)) rfl dX9_passTick_4 ?_
      refine k_get F G 0 rfl (N := 18) (Tt := TX5) rfl kf5 15 (by decide) kl548 (v := .int (v 8 0)) rfl dX9_passTick_7 ?_
      refine lv_icmp_ge (tgt := 48) F.1 F.2.1 dX9_passTick_10 (by decide) (fun c => ?_) (fun c => ?_)
      · have h := op_t h c
        exact hK w_2 _ _ _ h G (lv_sub hl [0] rfl)
      · have h := op_f h c
        refine lv_aload_n F.1 F.2.1 dX9_passTick_13 rfl (lv_at hl 0 rfl) ?_
        refine k_get F G 9 rfl (N := 14) (Tt := TX9) rfl kf9 0 (by decide) kl39 (v := .ref (aP 0)) rfl dX9_passTick_14 ?_
        refine k_get F G 0 rfl (N := 18) (Tt := TX5) rfl kf5 16 (by decide) kl549 (v := .ref (aP 7)) rfl dX9_passTick_17 ?_
        refine lv_iload_n F.1 F.2.1 dX9_passTick_20 rfl (lv_at hl 1 rfl) ?_
        obtain ⟨c, h⟩ := op_g h
        refine k_iald F G 7 rfl c dX9_passTick_21 ?_
        refine lv_aload_n F.1 F.2.1 dX9_passTick_22 rfl (lv_at hl 0 rfl) ?_
        refine k_get F G 9 rfl (N := 14) (Tt := TX9) rfl kf9 4 (by decide) kl439 (v := .int (w_2 0 0)) rfl dX9_passTick_23 ?_
        obtain ⟨j42, hj42, h⟩ := op_j h
        have J42 : ∀ (w_4 : Nat → Nat → Int32) (H : Heap) (locs : List Loc) (ls : Array Slot), j42 w_4 = some (wR) → Rg D T A st (gW T aP aQ v w_4) H locs → lv_has ls 2 [(0, .ref (aQ 0)), (1, .int x1_1)] → W pr l en rmX9_passTick st mi ag bl me co H locs 0 0 (MQ bl (kQ none D (gW T aP aQ v wR) A) ag st rmX9_passTick.cells rmX9_passTick.slots A) (F0 mi 42 ls []) := by
          intro w_4 H locs ls h G hl
          rw [hj42] at h
          refine lv_iinc (v := (x1_1 + 1)) (lv' := [(1, .int (x1_1 + 1)), (0, .ref (aQ 0))]) F.1 F.2.1 dX9_passTick_42 hl (k := 1) rfl rfl (by decide) rfl (fun ls hl => ?_)
          refine lv_goto (tgt := 2) F.1 F.2.1 dX9_passTick_45 (by decide) ?_
          exact ih (x1_1 + 1) w_4 _ _ _ h G (lv_sub hl [1, 0] rfl)
        clear hj42
        refine lv_icmp_ne (tgt := 42) F.1 F.2.1 dX9_passTick_26 (by decide) (fun c => ?_) (fun c => ?_)
        · have h := op_f h c
          exact J42 w_2 _ _ _ h G hl
        · have h := op_t h c
          refine lv_aload_n F.1 F.2.1 dX9_passTick_29 rfl (lv_at hl 0 rfl) ?_
          refine lv_aload_n F.1 F.2.1 dX9_passTick_30 rfl (lv_at hl 0 rfl) ?_
          refine k_get F G 9 rfl (N := 14) (Tt := TX9) rfl kf9 0 (by decide) kl39 (v := .ref (aP 0)) rfl dX9_passTick_31 ?_
          refine k_get F G 0 rfl (N := 18) (Tt := TX5) rfl kf5 17 (by decide) kl550 (v := .ref (aP 8)) rfl dX9_passTick_34 ?_
          refine lv_iload_n F.1 F.2.1 dX9_passTick_37 rfl (lv_at hl 1 rfl) ?_
          obtain ⟨c, h⟩ := op_g h
          refine k_iald F G 8 rfl c dX9_passTick_38 ?_
          obtain ⟨w_5, hc, h⟩ := op_b h
          refine k_callV (rv := none) (Wc := (gW T aP aQ v w_2)) (W2 := (gW T aP aQ v w_5)) (Wn := (gW T aP aQ v w_5)) (As := [.int ((v 16) x1_1.toNatClampNeg)]) (rest := []) F G (mX9_beginBlackout l D T aP aQ v w_2 ((v 16) x1_1.toNatClampNeg) hc) (cwV 1 F.2.2.2.2 (kg_c kl544 (kg_c kl545 (kg_c kl546 (kg_c kl64 (kg_c kl460 kg_a))))) rfl rfl rfl (by decide +kernel) ⟨Nat.le_of_ble_eq_true rfl, Nat.le_of_ble_eq_true rfl⟩) 9 rfl (q := (RX9, TX9, 14)) rfl rfl (kCut_F G) rfl hl.1 rfl (Nat.le_of_ble_eq_true rfl) dX9_passTick_39 ⟨Nat.le_of_ble_eq_true rfl, Nat.le_of_ble_eq_true rfl⟩ (cN := 0) (sN := 0) ⟨rfl, rfl⟩ (fun H locs G => ?_)
          exact J42 w_5 _ _ _ h G hl
  refine L2 v  _ (fun w_3 H locs ls h G hl => ?_) fu 0 w _ _ _ h G (lv_sub hl [1, 0] rfl)
  clear L2
  refine lv_aload_n F.1 F.2.1 dX9_passTick_48 rfl (lv_at hl 0 rfl) ?_
  obtain ⟨r_6, hc, h⟩ := op_b h
  refine k_callV (rv := (some (.int r_6))) (Wc := (gW T aP aQ v w_3)) (W2 := (gW T aP aQ v w_3)) (Wn := (gW T aP aQ v w_3)) (As := []) (rest := []) F G (mX9_isDark l D T aP aQ v w_3 hc) (cwV 0 F.2.2.2.2 (kg_c kl551 (kg_c kl552 (kg_c kl553 (kg_c kl64 (kg_c kl459 kg_a))))) rfl rfl rfl (by decide +kernel) ⟨Nat.le_of_ble_eq_true rfl, Nat.le_of_ble_eq_true rfl⟩) 9 rfl (q := (RX9, TX9, 14)) rfl rfl (kCut_F G) rfl hl.1 rfl (Nat.le_of_ble_eq_true rfl) dX9_passTick_49 ⟨Nat.le_of_ble_eq_true rfl, Nat.le_of_ble_eq_true rfl⟩ (cN := 0) (sN := 0) ⟨rfl, rfl⟩ (fun H locs G => ?_)
  refine lv_if_eq (tgt := 66) F.1 F.2.1 dX9_passTick_52 (by decide) (fun c => ?_) (fun c => ?_)
  · have h := op_t h c
    refine lv_aload_n F.1 F.2.1 dX9_passTick_66 rfl (lv_at hl 0 rfl) ?_
    obtain ⟨w_7, hc, h⟩ := op_b h
    refine k_callV (rv := none) (Wc := (gW T aP aQ v w_3)) (W2 := (gW T aP aQ v w_7)) (Wn := (gW T aP aQ v w_7)) (As := []) (rest := []) F G (mX9_receiveMessages l D T aP aQ v w_3 hc) (cwV 0 F.2.2.2.2 (kg_c kl554 (kg_c kl555 (kg_c kl556 (kg_c kl64 (kg_c kl469 kg_a))))) rfl rfl rfl (by decide +kernel) ⟨Nat.le_of_ble_eq_true rfl, Nat.le_of_ble_eq_true rfl⟩) 9 rfl (q := (RX9, TX9, 14)) rfl rfl (kCut_F G) rfl hl.1 rfl (Nat.le_of_ble_eq_true rfl) dX9_passTick_67 ⟨Nat.le_of_ble_eq_true rfl, Nat.le_of_ble_eq_true rfl⟩ (cN := 0) (sN := 0) ⟨rfl, rfl⟩ (fun H locs G => ?_)
    refine lv_aload_n F.1 F.2.1 dX9_passTick_70 rfl (lv_at hl 0 rfl) ?_
    refine k_get F G 9 rfl (N := 14) (Tt := TX9) rfl kf9 2 (by decide) kl47 (v := .ref (aQ 9)) rfl dX9_passTick_71 ?_
    refine lv_aload_n F.1 F.2.1 dX9_passTick_74 rfl (lv_at hl 0 rfl) ?_
    obtain ⟨r_8, hc, h⟩ := op_b h
    refine k_callV (rv := (some (.int r_8))) (Wc := (gW T aP aQ v w_7)) (W2 := (gW T aP aQ v w_7)) (Wn := (gW T aP aQ v w_7)) (As := []) (rest := [.ref (aQ 9)]) F G (mX9_entitled l D T aP aQ v w_7 hc) (cwV 0 F.2.2.2.2 (kg_c kl557 (kg_c kl558 (kg_c kl559 (kg_c kl64 (kg_c kl487 kg_a))))) rfl rfl rfl (by decide +kernel) ⟨Nat.le_of_ble_eq_true rfl, Nat.le_of_ble_eq_true rfl⟩) 9 rfl (q := (RX9, TX9, 14)) rfl rfl (kCut_F G) rfl hl.1 rfl (Nat.le_of_ble_eq_true rfl) dX9_passTick_75 ⟨Nat.le_of_ble_eq_true rfl, Nat.le_of_ble_eq_true rfl⟩ (cN := 0) (sN := 0) ⟨rfl, rfl⟩ (fun H locs G => ?_)
    obtain ⟨w_9, hc, h⟩ := op_b h
    refine k_callV (rv := none) (Wc := (gW T aP aQ v w_7)) (W2 := (gW T aP aQ v w_9)) (Wn := (gW T aP aQ v w_9)) (As := [.int r_8]) (rest := []) F G (mX3_learnOrder l D T aP aQ v w_7 r_8 hc) (cwV 1 F.2.2.2.2 (kg_c kl560 (kg_c kl561 (kg_c kl562 (kg_c kl46 (kg_c kl194 kg_a))))) rfl rfl rfl (by decide +kernel) ⟨Nat.le_of_ble_eq_true rfl, Nat.le_of_ble_eq_true rfl⟩) 18 rfl (q := (RX3, TX3, 7)) rfl rfl (kCut_F G) rfl hl.1 rfl (Nat.le_of_ble_eq_true rfl) dX9_passTick_78 ⟨Nat.le_of_ble_eq_true rfl, Nat.le_of_ble_eq_true rfl⟩ (cN := 0) (sN := 0) ⟨rfl, rfl⟩ (fun H locs G => ?_)
    refine lv_iconst (v := 0) F.1 F.2.1 dX9_passTick_81 (by decide) ?_
    refine lv_istore_n (lv' := [(1, .int 0), (0, .ref (aQ 0))]) F.1 F.2.1 dX9_passTick_82 rfl hl (by decide) rfl (fun ls hl => ?_)
    have L83 : ∀ (v : Nat → Nat → Int32) (K : (Nat → Nat → Int32) → Option ((Nat → Nat → Int32))) (hK : ∀ (w_12 : Nat → Nat → Int32) (H : Heap) (locs : List Loc) (ls : Array Slot), K w_12 = some (wR) → Rg D T A st (gW T aP aQ v w_12) H locs → lv_has ls 2 [(0, .ref (aQ 0))] → W pr l en rmX9_passTick st mi ag bl me co H locs 0 0 (MQ bl (kQ none D (gW T aP aQ v wR) A) ag st rmX9_passTick.cells rmX9_passTick.slots A) (F0 mi 105 ls [])) (n : Nat) (x1_10 : Int32) (w_11 : Nat → Nat → Int32) (H : Heap) (locs : List Loc) (ls : Array Slot), qX9_passTick_L83 v K n x1_10 w_11 = some (wR) → Rg D T A st (gW T aP aQ v w_11) H locs → lv_has ls 2 [(0, .ref (aQ 0)), (1, .int x1_10)] → W pr l en rmX9_passTick st mi ag bl me co H locs 0 0 (MQ bl (kQ none D (gW T aP aQ v wR) A) ag st rmX9_passTick.cells rmX9_passTick.slots A) (F0 mi 83 ls []) := by
      intro v K hK n
      induction n with
      | zero => intro x1_10 w_11 H locs ls h; exact op_n h
      | succ n ih =>
        intro x1_10 w_11 H locs ls h G hl
        rw [qX9_passTick_L83] at h
        refine lv_iload_n F.1 F.2.1 dX9_passTick_83 rfl (lv_at hl 1 rfl) ?_
        refine lv_aload_n F.1 F.2.1 dX9_passTick_84 rfl (lv_at hl 0 rfl) ?_
        refine k_get F G 9 rfl (N := 14) (Tt := TX9) rfl kf9 0 (by decide) kl39 (v := .ref (aP 0)) rfl dX9_passTick_85 ?_
        refine k_get F G 0 rfl (N := 18) (Tt := TX5) rfl kf5 0 (by decide) kl488 (v := .int (v 0 0)) rfl dX9_passTick_88 ?_
        refine lv_icmp_ge (tgt := 105) F.1 F.2.1 dX9_passTick_91 (by decide) (fun c => ?_) (fun c => ?_)
        · have h := op_t h c
          exact hK w_11 _ _ _ h G (lv_sub hl [0] rfl)
        · have h := op_f h c
          refine lv_aload_n F.1 F.2.1 dX9_passTick_94 rfl (lv_at hl 0 rfl) ?_
          refine lv_iload_n F.1 F.2.1 dX9_passTick_95 rfl (lv_at hl 1 rfl) ?_
          obtain ⟨w_13, hc, h⟩ := op_b h
          refine k_callV (rv := none) (Wc := (gW T aP aQ v w_11)) (W2 := (gW T aP aQ v w_13)) (Wn := (gW T aP aQ v w_13)) (As := [.int x1_10]) (rest := []) F G (mX9_letOutletAct l D T aP aQ v w_11 x1_10 hc) (cwV 1 F.2.2.2.2 (kg_c kl563 (kg_c kl564 (kg_c kl565 (kg_c kl64 (kg_c kl492 kg_a))))) rfl rfl rfl (by decide +kernel) ⟨Nat.le_of_ble_eq_true rfl, Nat.le_of_ble_eq_true rfl⟩) 9 rfl (q := (RX9, TX9, 14)) rfl rfl (kCut_F G) rfl hl.1 rfl (Nat.le_of_ble_eq_true rfl) dX9_passTick_96 ⟨Nat.le_of_ble_eq_true rfl, Nat.le_of_ble_eq_true rfl⟩ (cN := 0) (sN := 0) ⟨rfl, rfl⟩ (fun H locs G => ?_)
          refine lv_iinc (v := (x1_10 + 1)) (lv' := [(1, .int (x1_10 + 1)), (0, .ref (aQ 0))]) F.1 F.2.1 dX9_passTick_99 hl (k := 1) rfl rfl (by decide) rfl (fun ls hl => ?_)
          refine lv_goto (tgt := 83) F.1 F.2.1 dX9_passTick_102 (by decide) ?_
          exact ih (x1_10 + 1) w_13 _ _ _ h G (lv_sub hl [1, 0] rfl)
    refine L83 v  _ (fun w_12 H locs ls h G hl => ?_) fu 0 w_9 _ _ _ h G (lv_sub hl [1, 0] rfl)
    clear L83
    refine lv_aload_n F.1 F.2.1 dX9_passTick_105 rfl (lv_at hl 0 rfl) ?_
    obtain ⟨w_14, hc, h⟩ := op_b h
    refine k_callV (rv := none) (Wc := (gW T aP aQ v w_12)) (W2 := (gW T aP aQ v w_14)) (Wn := (gW T aP aQ v w_14)) (As := []) (rest := []) F G (mX9_sendPolls l D T aP aQ v w_12 hc) (cwV 0 F.2.2.2.2 (kg_c kl566 (kg_c kl567 (kg_c kl568 (kg_c kl64 (kg_c kl505 kg_a))))) rfl rfl rfl (by decide +kernel) ⟨Nat.le_of_ble_eq_true rfl, Nat.le_of_ble_eq_true rfl⟩) 9 rfl (q := (RX9, TX9, 14)) rfl rfl (kCut_F G) rfl hl.1 rfl (Nat.le_of_ble_eq_true rfl) dX9_passTick_106 ⟨Nat.le_of_ble_eq_true rfl, Nat.le_of_ble_eq_true rfl⟩ (cN := 0) (sN := 0) ⟨rfl, rfl⟩ (fun H locs G => ?_)
    refine lv_aload_n F.1 F.2.1 dX9_passTick_109 rfl (lv_at hl 0 rfl) ?_
    obtain ⟨w_15, hc, h⟩ := op_b h
    refine k_callV (rv := none) (Wc := (gW T aP aQ v w_14)) (W2 := (gW T aP aQ v w_15)) (Wn := (gW T aP aQ v w_15)) (As := []) (rest := []) F G (mX9_sendGrants l D T aP aQ v w_14 hc) (cwV 0 F.2.2.2.2 (kg_c kl569 (kg_c kl570 (kg_c kl571 (kg_c kl64 (kg_c kl529 kg_a))))) rfl rfl rfl (by decide +kernel) ⟨Nat.le_of_ble_eq_true rfl, Nat.le_of_ble_eq_true rfl⟩) 9 rfl (q := (RX9, TX9, 14)) rfl rfl (kCut_F G) rfl hl.1 rfl (Nat.le_of_ble_eq_true rfl) dX9_passTick_110 ⟨Nat.le_of_ble_eq_true rfl, Nat.le_of_ble_eq_true rfl⟩ (cN := 0) (sN := 0) ⟨rfl, rfl⟩ (fun H locs G => ?_)
    refine lv_aload_n F.1 F.2.1 dX9_passTick_113 rfl (lv_at hl 0 rfl) ?_
    obtain ⟨w_16, hc, h⟩ := op_b h
    refine k_callV (rv := none) (Wc := (gW T aP aQ v w_15)) (W2 := (gW T aP aQ v w_16)) (Wn := (gW T aP aQ v w_16)) (As := []) (rest := []) F G (mX9_readMeter l D T aP aQ v w_15 hc) (cwV 0 F.2.2.2.2 (kg_c kl572 (kg_c kl573 (kg_c kl574 (kg_c kl64 (kg_c kl537 kg_a))))) rfl rfl rfl (by decide +kernel) ⟨Nat.le_of_ble_eq_true rfl, Nat.le_of_ble_eq_true rfl⟩) 9 rfl (q := (RX9, TX9, 14)) rfl rfl (kCut_F G) rfl hl.1 rfl (Nat.le_of_ble_eq_true rfl) dX9_passTick_114 ⟨Nat.le_of_ble_eq_true rfl, Nat.le_of_ble_eq_true rfl⟩ (cN := 0) (sN := 0) ⟨rfl, rfl⟩ (fun H locs G => ?_)
    obtain rfl := op_1 h
    exact k_vret F hr hlk G dX9_passTick_117
  · have h := op_f h c
    refine lv_aload_n F.1 F.2.1 dX9_passTick_55 rfl (lv_at hl 0 rfl) ?_
    refine lv_dup F.1 F.2.1 dX9_passTick_56 rfl ?_
    refine k_get F G 9 rfl (N := 14) (Tt := TX9) rfl kf9 4 (by decide) kl439 (v := .int (w_3 0 0)) rfl dX9_passTick_57 ?_
    refine lv_iconst (v := 1) F.1 F.2.1 dX9_passTick_60 (by decide) ?_
    refine lv_iadd F.1 F.2.1 dX9_passTick_61 ?_
    obtain ⟨w_17, e9, h⟩ := op_st h
    refine k_put F G 9 rfl (N := 14) (Tt := TX9) rfl kf9 tyX9_ok nmX9 4 (by decide) kl439 rfl (v := .int ((w_3 0 0) + 1)) rfl rfl (Nat.le_of_ble_eq_true rfl) dX9_passTick_62 (Wn := (gW T aP aQ v w_17)) (by subst e9; rfl) (fun H locs G => ?_)
    clear e9
    obtain rfl := op_1 h
    exact k_vret F hr hlk G dX9_passTick_65
abbrev rmX9_passTicks : Room := ({ frames := 6, cells := 0, slots := 0, locals := 127 } : Room)
noncomputable def qX9_passTicks_L2 (v : Nat → Nat → Int32) (x1_1 : Int32) (K : (Nat → Nat → Int32) → Option ((Nat → Nat → Int32))) : Nat → Int32 → (Nat → Nat → Int32) → Option ((Nat → Nat → Int32))
  | 0, _, _ => none
  | n + 1, x2_2, w_3 =>
    if x1_1 ≤ x2_2 then (K w_3) else bd (qX9_passTick v w_3) fun w_5 => (qX9_passTicks_L2 v x1_1 K n (x2_2 + 1) w_5)

noncomputable def qX9_passTicks (v : Nat → Nat → Int32) (w : Nat → Nat → Int32) (x1 : Int32) : Option ((Nat → Nat → Int32)) :=
  (qX9_passTicks_L2 v x1 (fun (w_4 : Nat → Nat → Int32) => some w_4) fu 0 w)

set_option maxHeartbeats 4000000 in
set_option maxRecDepth 100000 in
theorem mX9_passTicks (l : Launch) (D : va_G) (T : Nat → ClassId) (aP : Nat → Nat) (aQ : Nat → Nat) (v : Nat → Nat → Int32) (w : Nat → Nat → Int32) (x1 : Int32) {wR : Nat → Nat → Int32} (hres : qX9_passTicks v w x1 = some (wR)) : Ct l yX9_passTicks (Cond.code yX9_passTicks cX9_passTicks 3 none :: kAll) rmX9_passTicks D T [.ref (aQ 0), .int x1] (gW T aP aQ v w) none (gW T aP aQ v wR) := by
  refine Ct.of (cc := cX9_passTicks) (maxL := 3) (ret := none) (by decide +kernel) rfl (Nat.le_of_ble_eq_true rfl) ?_
  intro pr en st mi ag bl me co A ls F hr hlk hnm G hl
  have hl : lv_has ls 3 [(0, .ref (aQ 0)), (1, .int x1)] := hl
  have h := hres
  unfold qX9_passTicks at h
  refine lv_iconst (v := 0) F.1 F.2.1 dX9_passTicks_0 (by decide) ?_
  refine lv_istore_n (lv' := [(2, .int 0), (0, .ref (aQ 0)), (1, .int x1)]) F.1 F.2.1 dX9_passTicks_1 rfl hl (by decide) rfl (fun ls hl => ?_)
  have L2 : ∀ (v : Nat → Nat → Int32) (x1_1 : Int32) (K : (Nat → Nat → Int32) → Option ((Nat → Nat → Int32))) (hK : ∀ (w_4 : Nat → Nat → Int32) (H : Heap) (locs : List Loc) (ls : Array Slot), K w_4 = some (wR) → Rg D T A st (gW T aP aQ v w_4) H locs → lv_has ls 3 [] → W pr l en rmX9_passTicks st mi ag bl me co H locs 0 0 (MQ bl (kQ none D (gW T aP aQ v wR) A) ag st rmX9_passTicks.cells rmX9_passTicks.slots A) (F0 mi 17 ls [])) (n : Nat) (x2_2 : Int32) (w_3 : Nat → Nat → Int32) (H : Heap) (locs : List Loc) (ls : Array Slot), qX9_passTicks_L2 v x1_1 K n x2_2 w_3 = some (wR) → Rg D T A st (gW T aP aQ v w_3) H locs → lv_has ls 3 [(0, .ref (aQ 0)), (1, .int x1_1), (2, .int x2_2)] → W pr l en rmX9_passTicks st mi ag bl me co H locs 0 0 (MQ bl (kQ none D (gW T aP aQ v wR) A) ag st rmX9_passTicks.cells rmX9_passTicks.slots A) (F0 mi 2 ls []) := by
    intro v x1_1 K hK n
    induction n with
    | zero => intro x2_2 w_3 H locs ls h; exact op_n h
    | succ n ih =>
      intro x2_2 w_3 H locs ls h G hl
      rw [qX9_passTicks_L2] at h
      refine lv_iload_n F.1 F.2.1 dX9_passTicks_2 rfl (lv_at hl 2 rfl) ?_
      refine lv_iload_n F.1 F.2.1 dX9_passTicks_3 rfl (lv_at hl 1 rfl) ?_
      refine lv_icmp_ge (tgt := 17) F.1 F.2.1 dX9_passTicks_4 (by decide) (fun c => ?_) (fun c => ?_)
      · have h := op_t h c
        exact hK w_3 _ _ _ h G (lv_sub hl [] rfl)
      · have h := op_f h c
        refine lv_aload_n F.1 F.2.1 dX9_passTicks_7 rfl (lv_at hl 0 rfl) ?_
        obtain ⟨w_5, hc, h⟩ := op_b h
        refine k_callV (rv := none) (Wc := (gW T aP aQ v w_3)) (W2 := (gW T aP aQ v w_5)) (Wn := (gW T aP aQ v w_5)) (As := []) (rest := []) F G (mX9_passTick l D T aP aQ v w_3 hc) (cwV 0 F.2.2.2.2 (kg_c kl576 (kg_c kl577 (kg_c kl578 (kg_c kl64 (kg_c kl547 kg_a))))) rfl rfl rfl (by decide +kernel) ⟨Nat.le_of_ble_eq_true rfl, Nat.le_of_ble_eq_true rfl⟩) 9 rfl (q := (RX9, TX9, 14)) rfl rfl (kCut_F G) rfl hl.1 rfl (Nat.le_of_ble_eq_true rfl) dX9_passTicks_8 ⟨Nat.le_of_ble_eq_true rfl, Nat.le_of_ble_eq_true rfl⟩ (cN := 0) (sN := 0) ⟨rfl, rfl⟩ (fun H locs G => ?_)
        refine lv_iinc (v := (x2_2 + 1)) (lv' := [(2, .int (x2_2 + 1)), (0, .ref (aQ 0)), (1, .int x1_1)]) F.1 F.2.1 dX9_passTicks_11 hl (k := 2) rfl rfl (by decide) rfl (fun ls hl => ?_)
        refine lv_goto (tgt := 2) F.1 F.2.1 dX9_passTicks_14 (by decide) ?_
        exact ih (x2_2 + 1) w_5 _ _ _ h G (lv_sub hl [1, 2, 0] rfl)
  refine L2 v x1 _ (fun w_4 H locs ls h G hl => ?_) fu 0 w _ _ _ h G (lv_sub hl [1, 2, 0] rfl)
  clear L2
  obtain rfl := op_1 h
  exact k_vret F hr hlk G dX9_passTicks_17
abbrev rmX9_reasonAgainst : Room := ({ frames := 3, cells := 0, slots := 0, locals := 72 } : Room)
noncomputable def qX9_reasonAgainst (v : Nat → Nat → Int32) (w : Nat → Nat → Int32) (x1 : Int32) : Option (Int32 × (Nat → Nat → Int32)) :=
  bd (qX2_doesWant v w x1) fun r_1 => if r_1 = 0 then some (1, w) else gd (vp_in x1 12) (if ((w 11) x1.toNatClampNeg) = 1 then bd (qX9_isDark v w) fun r_2 => if r_2 = 0 then gd (vp_in x1 12) (if ((w 18) x1.toNatClampNeg) = 1 then gd (vp_in x1 12) (bd (qX3_markedWith v w 3) fun r_3 => if (((v 14) x1.toNatClampNeg) &&& (r_3 ^^^ (-1))) = 0 then gd (vp_in x1 12) (if ((w 20) x1.toNatClampNeg) ≤ (w 2 0) then bd2 (qX9_grantable v w) fun r_4 w_5 => bd (qX10_isIn r_4 x1) fun r_6 => if r_6 = 0 then some (7, w_5) else some (0, w_5) else some (6, w)) else some (5, w)) else some (4, w)) else some (3, w) else some (2, w))

set_option maxHeartbeats 4000000 in
set_option maxRecDepth 100000 in
theorem mX9_reasonAgainst (l : Launch) (D : va_G) (T : Nat → ClassId) (aP : Nat → Nat) (aQ : Nat → Nat) (v : Nat → Nat → Int32) (w : Nat → Nat → Int32) (x1 : Int32) {rR : Int32} {wR : Nat → Nat → Int32} (hres : qX9_reasonAgainst v w x1 = some (rR, wR)) : Ct l yX9_reasonAgainst (Cond.code yX9_reasonAgainst cX9_reasonAgainst 2 (some .int) :: kAll) rmX9_reasonAgainst D T [.ref (aQ 0), .int x1] (gW T aP aQ v w) (some (.int rR)) (gW T aP aQ v wR) := by
  refine Ct.of (cc := cX9_reasonAgainst) (maxL := 2) (ret := (some .int)) (by decide +kernel) rfl (Nat.le_of_ble_eq_true rfl) ?_
  intro pr en st mi ag bl me co A ls F hr hlk hnm G hl
  have hl : lv_has ls 2 [(0, .ref (aQ 0)), (1, .int x1)] := hl
  have h := hres
  unfold qX9_reasonAgainst at h
  refine lv_aload_n F.1 F.2.1 dX9_reasonAgainst_0 rfl (lv_at hl 0 rfl) ?_
  refine k_get F G 9 rfl (N := 14) (Tt := TX9) rfl kf9 1 (by decide) kl43 (v := .ref (aQ 2)) rfl dX9_reasonAgainst_1 ?_
  refine lv_iload_n F.1 F.2.1 dX9_reasonAgainst_4 rfl (lv_at hl 1 rfl) ?_
  obtain ⟨r_1, hc, h⟩ := op_b h
  refine k_callV (rv := (some (.int r_1))) (Wc := (gW T aP aQ v w)) (W2 := (gW T aP aQ v w)) (Wn := (gW T aP aQ v w)) (As := [.int x1]) (rest := []) F G (mX2_doesWant l D T aP aQ v w x1 hc) (cwV 1 F.2.2.2.2 (kg_c kl491 (kg_c kl146 (kg_c kl147 (kg_c kl42 (kg_c kl137 kg_a))))) rfl rfl rfl (by decide +kernel) ⟨Nat.le_of_ble_eq_true rfl, Nat.le_of_ble_eq_true rfl⟩) 11 rfl (q := (RX2, TX2, 9)) rfl rfl (kCut_F G) rfl hl.1 rfl (Nat.le_of_ble_eq_true rfl) dX9_reasonAgainst_5 ⟨Nat.le_of_ble_eq_true rfl, Nat.le_of_ble_eq_true rfl⟩ (cN := 0) (sN := 0) ⟨rfl, rfl⟩ (fun H locs G => ?_)
  refine lv_if_ne (tgt := 13) F.1 F.2.1 dX9_reasonAgainst_8 (by decide) (fun c => ?_) (fun c => ?_)
  · have h := op_f h c
    refine lv_aload_n F.1 F.2.1 dX9_reasonAgainst_13 rfl (lv_at hl 0 rfl) ?_
    refine k_get F G 9 rfl (N := 14) (Tt := TX9) rfl kf9 1 (by decide) kl43 (v := .ref (aQ 2)) rfl dX9_reasonAgainst_14 ?_
    refine k_get F G 11 rfl (N := 9) (Tt := TX2) rfl kf2 2 (by decide) kl493 (v := .ref (aQ 4)) rfl dX9_reasonAgainst_17 ?_
    refine lv_iload_n F.1 F.2.1 dX9_reasonAgainst_20 rfl (lv_at hl 1 rfl) ?_
    obtain ⟨c, h⟩ := op_g h
    refine k_iald F G 13 rfl c dX9_reasonAgainst_21 ?_
    refine lv_iconst (v := 1) F.1 F.2.1 dX9_reasonAgainst_22 (by decide) ?_
    refine lv_icmp_eq (tgt := 28) F.1 F.2.1 dX9_reasonAgainst_23 (by decide) (fun c => ?_) (fun c => ?_)
    · have h := op_t h c
      refine lv_aload_n F.1 F.2.1 dX9_reasonAgainst_28 rfl (lv_at hl 0 rfl) ?_
      obtain ⟨r_2, hc, h⟩ := op_b h
      refine k_callV (rv := (some (.int r_2))) (Wc := (gW T aP aQ v w)) (W2 := (gW T aP aQ v w)) (Wn := (gW T aP aQ v w)) (As := []) (rest := []) F G (mX9_isDark l D T aP aQ v w hc) (cwV 0 F.2.2.2.2 (kg_c kl551 (kg_c kl552 (kg_c kl553 (kg_c kl64 (kg_c kl459 kg_a))))) rfl rfl rfl (by decide +kernel) ⟨Nat.le_of_ble_eq_true rfl, Nat.le_of_ble_eq_true rfl⟩) 9 rfl (q := (RX9, TX9, 14)) rfl rfl (kCut_F G) rfl hl.1 rfl (Nat.le_of_ble_eq_true rfl) dX9_reasonAgainst_29 ⟨Nat.le_of_ble_eq_true rfl, Nat.le_of_ble_eq_true rfl⟩ (cN := 0) (sN := 0) ⟨rfl, rfl⟩ (fun H locs G => ?_)
      refine lv_if_eq (tgt := 37) F.1 F.2.1 dX9_reasonAgainst_32 (by decide) (fun c => ?_) (fun c => ?_)
      · have h := op_t h c
        refine lv_aload_n F.1 F.2.1 dX9_reasonAgainst_37 rfl (lv_at hl 0 rfl) ?_
        refine k_get F G 9 rfl (N := 14) (Tt := TX9) rfl kf9 2 (by decide) kl47 (v := .ref (aQ 9)) rfl dX9_reasonAgainst_38 ?_
        refine k_get F G 18 rfl (N := 7) (Tt := TX3) rfl kf3 1 (by decide) kl516 (v := .ref (aQ 10)) rfl dX9_reasonAgainst_41 ?_
        refine lv_iload_n F.1 F.2.1 dX9_reasonAgainst_44 rfl (lv_at hl 1 rfl) ?_
        obtain ⟨c, h⟩ := op_g h
        refine k_iald F G 19 rfl c dX9_reasonAgainst_45 ?_
        refine lv_iconst (v := 1) F.1 F.2.1 dX9_reasonAgainst_46 (by decide) ?_
        refine lv_icmp_eq (tgt := 52) F.1 F.2.1 dX9_reasonAgainst_47 (by decide) (fun c => ?_) (fun c => ?_)
        · have h := op_t h c
          refine lv_aload_n F.1 F.2.1 dX9_reasonAgainst_52 rfl (lv_at hl 0 rfl) ?_
          refine k_get F G 9 rfl (N := 14) (Tt := TX9) rfl kf9 0 (by decide) kl39 (v := .ref (aP 0)) rfl dX9_reasonAgainst_53 ?_
          refine k_get F G 0 rfl (N := 18) (Tt := TX5) rfl kf5 7 (by decide) kl490 (v := .ref (aP 6)) rfl dX9_reasonAgainst_56 ?_
          refine lv_iload_n F.1 F.2.1 dX9_reasonAgainst_59 rfl (lv_at hl 1 rfl) ?_
          obtain ⟨c, h⟩ := op_g h
          refine k_iald F G 6 rfl c dX9_reasonAgainst_60 ?_
          refine lv_aload_n F.1 F.2.1 dX9_reasonAgainst_61 rfl (lv_at hl 0 rfl) ?_
          refine k_get F G 9 rfl (N := 14) (Tt := TX9) rfl kf9 2 (by decide) kl47 (v := .ref (aQ 9)) rfl dX9_reasonAgainst_62 ?_
          refine lv_iconst (v := 3) F.1 F.2.1 dX9_reasonAgainst_65 (by decide) ?_
          obtain ⟨r_3, hc, h⟩ := op_b h
          refine k_callV (rv := (some (.int r_3))) (Wc := (gW T aP aQ v w)) (W2 := (gW T aP aQ v w)) (Wn := (gW T aP aQ v w)) (As := [.int 3]) (rest := [.int ((v 14) x1.toNatClampNeg)]) F G (mX3_markedWith l D T aP aQ v w 3 hc) (cwV 1 F.2.2.2.2 (kg_c kl525 (kg_c kl196 (kg_c kl197 (kg_c kl46 (kg_c kl177 kg_a))))) rfl rfl rfl (by decide +kernel) ⟨Nat.le_of_ble_eq_true rfl, Nat.le_of_ble_eq_true rfl⟩) 18 rfl (q := (RX3, TX3, 7)) rfl rfl (kCut_F G) rfl hl.1 rfl (Nat.le_of_ble_eq_true rfl) dX9_reasonAgainst_66 ⟨Nat.le_of_ble_eq_true rfl, Nat.le_of_ble_eq_true rfl⟩ (cN := 0) (sN := 0) ⟨rfl, rfl⟩ (fun H locs G => ?_)
          refine lv_iconst (v := (-1)) F.1 F.2.1 dX9_reasonAgainst_69 (by decide) ?_
          refine lv_ixor F.1 F.2.1 dX9_reasonAgainst_70 ?_
          refine lv_iand F.1 F.2.1 dX9_reasonAgainst_71 ?_
          refine lv_if_eq (tgt := 77) F.1 F.2.1 dX9_reasonAgainst_72 (by decide) (fun c => ?_) (fun c => ?_)
          · have h := op_t h c
            refine lv_aload_n F.1 F.2.1 dX9_reasonAgainst_77 rfl (lv_at hl 0 rfl) ?_
            refine k_get F G 9 rfl (N := 14) (Tt := TX9) rfl kf9 2 (by decide) kl47 (v := .ref (aQ 9)) rfl dX9_reasonAgainst_78 ?_
            refine k_get F G 18 rfl (N := 7) (Tt := TX3) rfl kf3 3 (by decide) kl521 (v := .ref (aQ 12)) rfl dX9_reasonAgainst_81 ?_
            refine lv_iload_n F.1 F.2.1 dX9_reasonAgainst_84 rfl (lv_at hl 1 rfl) ?_
            obtain ⟨c, h⟩ := op_g h
            refine k_iald F G 21 rfl c dX9_reasonAgainst_85 ?_
            refine lv_aload_n F.1 F.2.1 dX9_reasonAgainst_86 rfl (lv_at hl 0 rfl) ?_
            refine k_get F G 9 rfl (N := 14) (Tt := TX9) rfl kf9 6 (by decide) kl442 (v := .int (w 2 0)) rfl dX9_reasonAgainst_87 ?_
            refine lv_icmp_le (tgt := 96) F.1 F.2.1 dX9_reasonAgainst_90 (by decide) (fun c => ?_) (fun c => ?_)
            · have h := op_t h c
              refine lv_aload_n F.1 F.2.1 dX9_reasonAgainst_96 rfl (lv_at hl 0 rfl) ?_
              obtain ⟨r_4, w_5, hc, h⟩ := op_b2 h
              refine k_callV (rv := (some (.int r_4))) (Wc := (gW T aP aQ v w)) (W2 := (gW T aP aQ v w_5)) (Wn := (gW T aP aQ v w_5)) (As := []) (rest := []) F G (mX9_grantable l D T aP aQ v w hc) (cwV 0 F.2.2.2.2 (kg_c kl530 (kg_c kl531 (kg_c kl532 (kg_c kl64 (kg_c kl520 kg_a))))) rfl rfl rfl (by decide +kernel) ⟨Nat.le_of_ble_eq_true rfl, Nat.le_of_ble_eq_true rfl⟩) 9 rfl (q := (RX9, TX9, 14)) rfl rfl (kCut_F G) rfl hl.1 rfl (Nat.le_of_ble_eq_true rfl) dX9_reasonAgainst_97 ⟨Nat.le_of_ble_eq_true rfl, Nat.le_of_ble_eq_true rfl⟩ (cN := 0) (sN := 0) ⟨rfl, rfl⟩ (fun H locs G => ?_)
              refine lv_iload_n F.1 F.2.1 dX9_reasonAgainst_100 rfl (lv_at hl 1 rfl) ?_
              obtain ⟨r_6, hc, h⟩ := op_b h
              refine k_callSN (rv := (some (.int r_6))) (Wc := ([] : va_W)) (W2 := ([] : va_W)) (Wn := (gW T aP aQ v w_5)) (As := [.int r_4, .int x1]) (rest := []) F G (mX10_isIn l D T r_4 x1 hc) ⟨va_cnB 2 F.2.2.2.2 (kg_c kl119 kg_a) rfl rfl rfl (k_nest G 13 rfl) (F.2.2.2.2 _ kl80) (by decide +kernel) ⟨Nat.le_of_ble_eq_true rfl, Nat.le_of_ble_eq_true rfl⟩, F.2.2.2.2 _ kl122⟩ (kCut_0 G) rfl hl.1 rfl (Nat.le_of_ble_eq_true rfl) dX9_reasonAgainst_101 ⟨Nat.le_of_ble_eq_true rfl, Nat.le_of_ble_eq_true rfl⟩ (cN := 0) (sN := 0) ⟨rfl, rfl⟩ (fun H locs G => ?_)
              refine lv_if_eq (tgt := 111) F.1 F.2.1 dX9_reasonAgainst_104 (by decide) (fun c => ?_) (fun c => ?_)
              · have h := op_t h c
                refine lv_bipush (v := 7) F.1 F.2.1 dX9_reasonAgainst_111 (by decide) ?_
                obtain ⟨rfl, rfl⟩ := op_2 h
                exact k_iret F hr hlk G dX9_reasonAgainst_113
              · have h := op_f h c
                refine lv_iconst (v := 0) F.1 F.2.1 dX9_reasonAgainst_107 (by decide) ?_
                refine lv_goto (tgt := 113) F.1 F.2.1 dX9_reasonAgainst_108 (by decide) ?_
                obtain ⟨rfl, rfl⟩ := op_2 h
                exact k_iret F hr hlk G dX9_reasonAgainst_113
            · have h := op_f h c
              refine lv_bipush (v := 6) F.1 F.2.1 dX9_reasonAgainst_93 (by decide) ?_
              obtain ⟨rfl, rfl⟩ := op_2 h
              exact k_iret F hr hlk G dX9_reasonAgainst_95
          · have h := op_f h c
            refine lv_iconst (v := 5) F.1 F.2.1 dX9_reasonAgainst_75 (by decide) ?_
            obtain ⟨rfl, rfl⟩ := op_2 h
            exact k_iret F hr hlk G dX9_reasonAgainst_76
        · have h := op_f h c
          refine lv_iconst (v := 4) F.1 F.2.1 dX9_reasonAgainst_50 (by decide) ?_
          obtain ⟨rfl, rfl⟩ := op_2 h
          exact k_iret F hr hlk G dX9_reasonAgainst_51
      · have h := op_f h c
        refine lv_iconst (v := 3) F.1 F.2.1 dX9_reasonAgainst_35 (by decide) ?_
        obtain ⟨rfl, rfl⟩ := op_2 h
        exact k_iret F hr hlk G dX9_reasonAgainst_36
    · have h := op_f h c
      refine lv_iconst (v := 2) F.1 F.2.1 dX9_reasonAgainst_26 (by decide) ?_
      obtain ⟨rfl, rfl⟩ := op_2 h
      exact k_iret F hr hlk G dX9_reasonAgainst_27
  · have h := op_t h c
    refine lv_iconst (v := 1) F.1 F.2.1 dX9_reasonAgainst_11 (by decide) ?_
    obtain ⟨rfl, rfl⟩ := op_2 h
    exact k_iret F hr hlk G dX9_reasonAgainst_12
