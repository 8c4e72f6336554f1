abbrev rmX1_clear_l : Room := ({ frames := 1, cells := 0, slots := 0, locals := 23 } : Room)
noncomputable def qX1_clear_l (v : Nat → Nat → Int32) (w : Nat → Nat → Int32) : Option ((Nat → Nat → Int32)) :=
  (bs (va_up w 23 (kfill 12 (-1) (w 23))) fun w_1 => (bs (va_up w_1 24 (fun _ => 0)) fun w_2 => some w_2))

set_option maxHeartbeats 4000000 in
set_option maxRecDepth 100000 in
theorem mX1_clear_l (l : Launch) (D : va_G) (T : Nat → ClassId) (aP : Nat → Nat) (aQ : Nat → Nat) (v : Nat → Nat → Int32) (w : Nat → Nat → Int32) {wR : Nat → Nat → Int32} (hres : qX1_clear_l v w = some (wR)) : Ct l yX1_clear (Cond.code yX1_clear cX1_clear 1 none :: kAll) rmX1_clear_l D T [.ref (aQ 13)] (gW T aP aQ v w) none (gW T aP aQ v wR) := by
  refine Ct.of (cc := cX1_clear) (maxL := 1) (ret := none) (by decide +kernel) rfl (Nat.le_of_ble_eq_true rfl) ?_
  intro pr en st mi ag bl me co A ls F hr hlk hnm G hl
  have hl : lv_has ls 1 [(0, .ref (aQ 13))] := hl
  have h := hres
  unfold qX1_clear_l at h
  refine lv_aload_n F.1 F.2.1 dX1_clear_0 rfl (lv_at hl 0 rfl) ?_
  refine k_get F G 22 rfl (N := 3) (Tt := TX1) rfl kf1 1 (by decide) kl15 (v := .ref (aQ 15)) rfl dX1_clear_1 ?_
  refine lv_iconst (v := (-1)) F.1 F.2.1 dX1_clear_4 (by decide) ?_
  obtain ⟨w_1, e9, h⟩ := op_st h
  refine k_callS (rv := none) (Wc := (gA T (aQ 15) 12 (w 23))) (W2 := (gA T (aQ 15) 12 (kfill 12 (-1) (w 23)))) (Wn := (gW T aP aQ v w_1)) (As := [.ref (aQ 15), .int (-1)]) (rest := []) F G (mJ7_fill_53178 l D T (aQ 15) 12 (w 23) (-1) (by decide)) (va_cwS 2 F.2.2.2.2 (kg_c kl128 (kg_c kl129 (kg_c kl130 (kg_c kl126 kg_a)))) rfl rfl rfl (by decide +kernel) ⟨Nat.le_of_ble_eq_true rfl, Nat.le_of_ble_eq_true rfl⟩) (kCut_1 G 24 rfl (by subst e9; rfl)) rfl hl.1 rfl (Nat.le_of_ble_eq_true rfl) dX1_clear_5 ⟨Nat.le_of_ble_eq_true rfl, Nat.le_of_ble_eq_true rfl⟩ (cN := 0) (sN := 0) ⟨rfl, rfl⟩ (fun H locs G => ?_)
  clear e9
  refine lv_aload_n F.1 F.2.1 dX1_clear_8 rfl (lv_at hl 0 rfl) ?_
  refine lv_iconst (v := 0) F.1 F.2.1 dX1_clear_9 (by decide) ?_
  obtain ⟨w_2, e9, h⟩ := op_st h
  refine k_put F G 22 rfl (N := 3) (Tt := TX1) rfl kf1 tyX1_ok nmX1 2 (by decide) kl82 rfl (v := .int 0) rfl rfl (Nat.le_of_ble_eq_true rfl) dX1_clear_10 (Wn := (gW T aP aQ v w_2)) (by subst e9; rfl) (fun H locs G => ?_)
  clear e9
  obtain rfl := op_1 h
  exact k_vret F hr hlk G dX1_clear_13
abbrev rmX1_clear_p : Room := ({ frames := 1, cells := 0, slots := 0, locals := 23 } : Room)
noncomputable def qX1_clear_p (v : Nat → Nat → Int32) (w : Nat → Nat → Int32) : Option ((Nat → Nat → Int32)) :=
  (bs (va_up w 26 (kfill 12 (-1) (w 26))) fun w_1 => (bs (va_up w_1 27 (fun _ => 0)) fun w_2 => some w_2))

set_option maxHeartbeats 4000000 in
set_option maxRecDepth 100000 in
theorem mX1_clear_p (l : Launch) (D : va_G) (T : Nat → ClassId) (aP : Nat → Nat) (aQ : Nat → Nat) (v : Nat → Nat → Int32) (w : Nat → Nat → Int32) {wR : Nat → Nat → Int32} (hres : qX1_clear_p v w = some (wR)) : Ct l yX1_clear (Cond.code yX1_clear cX1_clear 1 none :: kAll) rmX1_clear_p D T [.ref (aQ 16)] (gW T aP aQ v w) none (gW T aP aQ v wR) := by
  refine Ct.of (cc := cX1_clear) (maxL := 1) (ret := none) (by decide +kernel) rfl (Nat.le_of_ble_eq_true rfl) ?_
  intro pr en st mi ag bl me co A ls F hr hlk hnm G hl
  have hl : lv_has ls 1 [(0, .ref (aQ 16))] := hl
  have h := hres
  unfold qX1_clear_p at h
  refine lv_aload_n F.1 F.2.1 dX1_clear_0 rfl (lv_at hl 0 rfl) ?_
  refine k_get F G 25 rfl (N := 3) (Tt := TX1) rfl kf1 1 (by decide) kl15 (v := .ref (aQ 18)) rfl dX1_clear_1 ?_
  refine lv_iconst (v := (-1)) F.1 F.2.1 dX1_clear_4 (by decide) ?_
  obtain ⟨w_1, e9, h⟩ := op_st h
  refine k_callS (rv := none) (Wc := (gA T (aQ 18) 12 (w 26))) (W2 := (gA T (aQ 18) 12 (kfill 12 (-1) (w 26)))) (Wn := (gW T aP aQ v w_1)) (As := [.ref (aQ 18), .int (-1)]) (rest := []) F G (mJ7_fill_53178 l D T (aQ 18) 12 (w 26) (-1) (by decide)) (va_cwS 2 F.2.2.2.2 (kg_c kl128 (kg_c kl129 (kg_c kl130 (kg_c kl126 kg_a)))) rfl rfl rfl (by decide +kernel) ⟨Nat.le_of_ble_eq_true rfl, Nat.le_of_ble_eq_true rfl⟩) (kCut_1 G 27 rfl (by subst e9; rfl)) rfl hl.1 rfl (Nat.le_of_ble_eq_true rfl) dX1_clear_5 ⟨Nat.le_of_ble_eq_true rfl, Nat.le_of_ble_eq_true rfl⟩ (cN := 0) (sN := 0) ⟨rfl, rfl⟩ (fun H locs G => ?_)
  clear e9
  refine lv_aload_n F.1 F.2.1 dX1_clear_8 rfl (lv_at hl 0 rfl) ?_
  refine lv_iconst (v := 0) F.1 F.2.1 dX1_clear_9 (by decide) ?_
  obtain ⟨w_2, e9, h⟩ := op_st h
  refine k_put F G 25 rfl (N := 3) (Tt := TX1) rfl kf1 tyX1_ok nmX1 2 (by decide) kl82 rfl (v := .int 0) rfl rfl (Nat.le_of_ble_eq_true rfl) dX1_clear_10 (Wn := (gW T aP aQ v w_2)) (by subst e9; rfl) (fun H locs G => ?_)
  clear e9
  obtain rfl := op_1 h
  exact k_vret F hr hlk G dX1_clear_13
abbrev rmX1_addOnce : Room := ({ frames := 0, cells := 0, slots := 0, locals := 0 } : Room)
noncomputable def qX1_addOnce (v : Nat → Nat → Int32) (w : Nat → Nat → Int32) (x1 : Int32) : Option ((Nat → Nat → Int32)) :=
  gd (vp_in x1 12) (if ((w 26) x1.toNatClampNeg) = (-1) then if 12 ≤ (w 27 0) then some w else gd (vp_in (w 27 0) 12) (bs (va_up w 25 (upd (w 25) (w 27 0).toNatClampNeg x1)) fun w_1 => gd (vp_in x1 12) (bs (va_up w_1 26 (upd (w_1 26) x1.toNatClampNeg (w_1 27 0))) fun w_2 => (bs (va_up w_2 27 (fun _ => ((w_2 27 0) + 1))) fun w_3 => some w_3))) else some w)

set_option maxHeartbeats 4000000 in
set_option maxRecDepth 100000 in
theorem mX1_addOnce (l : Launch) (D : va_G) (T : Nat → ClassId) (aP : Nat → Nat) (aQ : Nat → Nat) (v : Nat → Nat → Int32) (w : Nat → Nat → Int32) (x1 : Int32) {wR : Nat → Nat → Int32} (hres : qX1_addOnce v w x1 = some (wR)) : Ct l yX1_addOnce (Cond.code yX1_addOnce cX1_addOnce 2 none :: kAll) rmX1_addOnce D T [.ref (aQ 16), .int x1] (gW T aP aQ v w) none (gW T aP aQ v wR) := by
  refine Ct.of (cc := cX1_addOnce) (maxL := 2) (ret := none) (by decide +kernel) rfl (Nat.le_of_ble_eq_true rfl) ?_
  intro pr en st mi ag bl me co A ls F hr hlk hnm G hl
  have hl : lv_has ls 2 [(0, .ref (aQ 16)), (1, .int x1)] := hl
  have h := hres
  unfold qX1_addOnce at h
  refine lv_aload_n F.1 F.2.1 dX1_addOnce_0 rfl (lv_at hl 0 rfl) ?_
  refine k_get F G 25 rfl (N := 3) (Tt := TX1) rfl kf1 1 (by decide) kl15 (v := .ref (aQ 18)) rfl dX1_addOnce_1 ?_
  refine lv_iload_n F.1 F.2.1 dX1_addOnce_4 rfl (lv_at hl 1 rfl) ?_
  obtain ⟨c, h⟩ := op_g h
  refine k_iald F G 27 rfl c dX1_addOnce_5 ?_
  refine lv_iconst (v := (-1)) F.1 F.2.1 dX1_addOnce_6 (by decide) ?_
  refine lv_icmp_ne (tgt := 49) F.1 F.2.1 dX1_addOnce_7 (by decide) (fun c => ?_) (fun c => ?_)
  · have h := op_f h c
    obtain rfl := op_1 h
    exact k_vret F hr hlk G dX1_addOnce_49
  · have h := op_t h c
    refine lv_aload_n F.1 F.2.1 dX1_addOnce_10 rfl (lv_at hl 0 rfl) ?_
    refine k_get F G 25 rfl (N := 3) (Tt := TX1) rfl kf1 2 (by decide) kl82 (v := .int (w 27 0)) rfl dX1_addOnce_11 ?_
    refine lv_bipush (v := 12) F.1 F.2.1 dX1_addOnce_14 (by decide) ?_
    refine lv_icmp_ge (tgt := 49) F.1 F.2.1 dX1_addOnce_16 (by decide) (fun c => ?_) (fun c => ?_)
    · have h := op_t h c
      obtain rfl := op_1 h
      exact k_vret F hr hlk G dX1_addOnce_49
    · have h := op_f h c
      refine lv_aload_n F.1 F.2.1 dX1_addOnce_19 rfl (lv_at hl 0 rfl) ?_
      refine k_get F G 25 rfl (N := 3) (Tt := TX1) rfl kf1 0 (by decide) kl14 (v := .ref (aQ 17)) rfl dX1_addOnce_20 ?_
      refine lv_aload_n F.1 F.2.1 dX1_addOnce_23 rfl (lv_at hl 0 rfl) ?_
      refine k_get F G 25 rfl (N := 3) (Tt := TX1) rfl kf1 2 (by decide) kl82 (v := .int (w 27 0)) rfl dX1_addOnce_24 ?_
      refine lv_iload_n F.1 F.2.1 dX1_addOnce_27 rfl (lv_at hl 1 rfl) ?_
      obtain ⟨c, h⟩ := op_g h
      obtain ⟨w_1, e9, h⟩ := op_st h
      refine k_iast F G 26 rfl c dX1_addOnce_28 (Wn := (gW T aP aQ v w_1)) (by subst e9; rfl) (fun H locs G => ?_)
      clear e9
      refine lv_aload_n F.1 F.2.1 dX1_addOnce_29 rfl (lv_at hl 0 rfl) ?_
      refine k_get F G 25 rfl (N := 3) (Tt := TX1) rfl kf1 1 (by decide) kl15 (v := .ref (aQ 18)) rfl dX1_addOnce_30 ?_
      refine lv_iload_n F.1 F.2.1 dX1_addOnce_33 rfl (lv_at hl 1 rfl) ?_
      refine lv_aload_n F.1 F.2.1 dX1_addOnce_34 rfl (lv_at hl 0 rfl) ?_
      refine k_get F G 25 rfl (N := 3) (Tt := TX1) rfl kf1 2 (by decide) kl82 (v := .int (w_1 27 0)) rfl dX1_addOnce_35 ?_
      obtain ⟨c, h⟩ := op_g h
      obtain ⟨w_2, e9, h⟩ := op_st h
      refine k_iast F G 27 rfl c dX1_addOnce_38 (Wn := (gW T aP aQ v w_2)) (by subst e9; rfl) (fun H locs G => ?_)
      clear e9
      refine lv_aload_n F.1 F.2.1 dX1_addOnce_39 rfl (lv_at hl 0 rfl) ?_
      refine lv_dup F.1 F.2.1 dX1_addOnce_40 rfl ?_
      refine k_get F G 25 rfl (N := 3) (Tt := TX1) rfl kf1 2 (by decide) kl82 (v := .int (w_2 27 0)) rfl dX1_addOnce_41 ?_
      refine lv_iconst (v := 1) F.1 F.2.1 dX1_addOnce_44 (by decide) ?_
      refine lv_iadd F.1 F.2.1 dX1_addOnce_45 ?_
      obtain ⟨w_3, e9, h⟩ := op_st h
      refine k_put F G 25 rfl (N := 3) (Tt := TX1) rfl kf1 tyX1_ok nmX1 2 (by decide) kl82 rfl (v := .int ((w_2 27 0) + 1)) rfl rfl (Nat.le_of_ble_eq_true rfl) dX1_addOnce_46 (Wn := (gW T aP aQ v w_3)) (by subst e9; rfl) (fun H locs G => ?_)
      clear e9
      obtain rfl := op_1 h
      exact k_vret F hr hlk G dX1_addOnce_49
abbrev rmX1_copyFrom_lp : Room := ({ frames := 2, cells := 0, slots := 0, locals := 41 } : Room)
noncomputable def qX1_copyFrom_lp (v : Nat → Nat → Int32) (w : Nat → Nat → Int32) : Option ((Nat → Nat → Int32)) :=
  (bs (va_up w 22 (kcpy 12 (w 25) (w 22))) fun w_1 => (bs (va_up w_1 23 (kcpy 12 (w_1 26) (w_1 23))) fun w_2 => (bs (va_up w_2 24 (fun _ => (w_2 27 0))) fun w_3 => some w_3)))

set_option maxHeartbeats 4000000 in
set_option maxRecDepth 100000 in
theorem mX1_copyFrom_lp (l : Launch) (D : va_G) (T : Nat → ClassId) (aP : Nat → Nat) (aQ : Nat → Nat) (v : Nat → Nat → Int32) (w : Nat → Nat → Int32) {wR : Nat → Nat → Int32} (hres : qX1_copyFrom_lp v w = some (wR)) : Ct l yX1_copyFrom (Cond.code yX1_copyFrom cX1_copyFrom 2 none :: kAll) rmX1_copyFrom_lp D T [.ref (aQ 13), .ref (aQ 16)] (gW T aP aQ v w) none (gW T aP aQ v wR) := by
  refine Ct.of (cc := cX1_copyFrom) (maxL := 2) (ret := none) (by decide +kernel) rfl (Nat.le_of_ble_eq_true rfl) ?_
  intro pr en st mi ag bl me co A ls F hr hlk hnm G hl
  have hl : lv_has ls 2 [(0, .ref (aQ 13)), (1, .ref (aQ 16))] := hl
  have h := hres
  unfold qX1_copyFrom_lp at h
  refine lv_aload_n F.1 F.2.1 dX1_copyFrom_0 rfl (lv_at hl 1 rfl) ?_
  refine k_get F G 25 rfl (N := 3) (Tt := TX1) rfl kf1 0 (by decide) kl14 (v := .ref (aQ 17)) rfl dX1_copyFrom_1 ?_
  refine lv_aload_n F.1 F.2.1 dX1_copyFrom_4 rfl (lv_at hl 0 rfl) ?_
  refine k_get F G 22 rfl (N := 3) (Tt := TX1) rfl kf1 0 (by decide) kl14 (v := .ref (aQ 14)) rfl dX1_copyFrom_5 ?_
  obtain ⟨w_1, e9, h⟩ := op_st h
  refine k_callSN (rv := none) (Wc := (gB T (aQ 17) (aQ 14) 12 (w 25) (w 22))) (W2 := (gB T (aQ 17) (aQ 14) 12 (w 25) (kcpy 12 (w 25) (w 22)))) (Wn := (gW T aP aQ v w_1)) (As := [.ref (aQ 17), .ref (aQ 14)]) (rest := []) F G (mX10_copyRow l D T (aQ 17) (aQ 14) 12 (w 25) (w 22) (by decide)) ⟨va_cnB 2 F.2.2.2.2 (kg_c kl67 kg_a) rfl rfl rfl (k_nest G 3 rfl) (F.2.2.2.2 _ kl80) (by decide +kernel) ⟨Nat.le_of_ble_eq_true rfl, Nat.le_of_ble_eq_true rfl⟩, F.2.2.2.2 _ kl79⟩ (kCut_2 G 26 23 rfl rfl (by decide) (by subst e9; rfl)) rfl hl.1 rfl (Nat.le_of_ble_eq_true rfl) dX1_copyFrom_8 ⟨Nat.le_of_ble_eq_true rfl, Nat.le_of_ble_eq_true rfl⟩ (cN := 0) (sN := 0) ⟨rfl, rfl⟩ (fun H locs G => ?_)
  clear e9
  refine lv_aload_n F.1 F.2.1 dX1_copyFrom_11 rfl (lv_at hl 1 rfl) ?_
  refine k_get F G 25 rfl (N := 3) (Tt := TX1) rfl kf1 1 (by decide) kl15 (v := .ref (aQ 18)) rfl dX1_copyFrom_12 ?_
  refine lv_aload_n F.1 F.2.1 dX1_copyFrom_15 rfl (lv_at hl 0 rfl) ?_
  refine k_get F G 22 rfl (N := 3) (Tt := TX1) rfl kf1 1 (by decide) kl15 (v := .ref (aQ 15)) rfl dX1_copyFrom_16 ?_
  obtain ⟨w_2, e9, h⟩ := op_st h
  refine k_callSN (rv := none) (Wc := (gB T (aQ 18) (aQ 15) 12 (w_1 26) (w_1 23))) (W2 := (gB T (aQ 18) (aQ 15) 12 (w_1 26) (kcpy 12 (w_1 26) (w_1 23)))) (Wn := (gW T aP aQ v w_2)) (As := [.ref (aQ 18), .ref (aQ 15)]) (rest := []) F G (mX10_copyRow l D T (aQ 18) (aQ 15) 12 (w_1 26) (w_1 23) (by decide)) ⟨va_cnB 2 F.2.2.2.2 (kg_c kl67 kg_a) rfl rfl rfl (k_nest G 3 rfl) (F.2.2.2.2 _ kl80) (by decide +kernel) ⟨Nat.le_of_ble_eq_true rfl, Nat.le_of_ble_eq_true rfl⟩, F.2.2.2.2 _ kl79⟩ (kCut_2 G 27 24 rfl rfl (by decide) (by subst e9; rfl)) rfl hl.1 rfl (Nat.le_of_ble_eq_true rfl) dX1_copyFrom_19 ⟨Nat.le_of_ble_eq_true rfl, Nat.le_of_ble_eq_true rfl⟩ (cN := 0) (sN := 0) ⟨rfl, rfl⟩ (fun H locs G => ?_)
  clear e9
  refine lv_aload_n F.1 F.2.1 dX1_copyFrom_22 rfl (lv_at hl 0 rfl) ?_
  refine lv_aload_n F.1 F.2.1 dX1_copyFrom_23 rfl (lv_at hl 1 rfl) ?_
  refine k_get F G 25 rfl (N := 3) (Tt := TX1) rfl kf1 2 (by decide) kl82 (v := .int (w_2 27 0)) rfl dX1_copyFrom_24 ?_
  obtain ⟨w_3, e9, h⟩ := op_st h
  refine k_put F G 22 rfl (N := 3) (Tt := TX1) rfl kf1 tyX1_ok nmX1 2 (by decide) kl82 rfl (v := .int (w_2 27 0)) rfl rfl (Nat.le_of_ble_eq_true rfl) dX1_copyFrom_27 (Wn := (gW T aP aQ v w_3)) (by subst e9; rfl) (fun H locs G => ?_)
  clear e9
  obtain rfl := op_1 h
  exact k_vret F hr hlk G dX1_copyFrom_30
abbrev rmX2_beginAnew : Room := ({ frames := 2, cells := 0, slots := 0, locals := 41 } : Room)
noncomputable def qX2_beginAnew_L48 (v : Nat → Nat → Int32) (K : (Nat → Nat → Int32) → Option ((Nat → Nat → Int32))) : Nat → Int32 → (Nat → Nat → Int32) → Option ((Nat → Nat → Int32))
  | 0, _, _ => none
  | n + 1, x1_6, w_7 =>
    if (v 0 0) ≤ x1_6 then (K w_7) else bd (qX10_isIn (v 1 0) x1_6) fun r_9 => (jn (fun (y_10 : Int32) => gd (vp_in x1_6 12) (bs (va_up w_7 11 (upd (w_7 11) x1_6.toNatClampNeg y_10)) fun w_11 => (qX2_beginAnew_L48 v K n (x1_6 + 1) w_11))) fun j83 => if r_9 = 0 then (j83 1) else (j83 0))

noncomputable def qX2_beginAnew (v : Nat → Nat → Int32) (w : Nat → Nat → Int32) : Option ((Nat → Nat → Int32)) :=
  (bs (va_up w 10 (kcpy 12 (v 13) (w 10))) fun w_1 => (bs (va_up w_1 12 (kfill 12 0 (w_1 12))) fun w_2 => (bs (va_up w_2 13 (kfill 12 0 (w_2 13))) fun w_3 => (bs (va_up w_3 14 (kfill 12 (-1) (w_3 14))) fun w_4 => (bs (va_up w_4 15 (kfill 12 (-1) (w_4 15))) fun w_5 => (qX2_beginAnew_L48 v  (fun (w_8 : Nat → Nat → Int32) => (bs (va_up w_8 16 (fun _ => 0)) fun w_12 => (bs (va_up w_12 17 (fun _ => 0)) fun w_13 => some w_13))) fu 0 w_5))))))

set_option maxHeartbeats 4000000 in
set_option maxRecDepth 100000 in
theorem mX2_beginAnew (l : Launch) (D : va_G) (T : Nat → ClassId) (aP : Nat → Nat) (aQ : Nat → Nat) (v : Nat → Nat → Int32) (w : Nat → Nat → Int32) {wR : Nat → Nat → Int32} (hres : qX2_beginAnew v w = some (wR)) : Ct l yX2_beginAnew (Cond.code yX2_beginAnew cX2_beginAnew 2 none :: kAll) rmX2_beginAnew D T [.ref (aQ 2)] (gW T aP aQ v w) none (gW T aP aQ v wR) := by
  refine Ct.of (cc := cX2_beginAnew) (maxL := 2) (ret := none) (by decide +kernel) rfl (Nat.le_of_ble_eq_true rfl) ?_
  intro pr en st mi ag bl me co A ls F hr hlk hnm G hl
  have hl : lv_has ls 2 [(0, .ref (aQ 2))] := hl
  have h := hres
  unfold qX2_beginAnew at h
  refine lv_aload_n F.1 F.2.1 dX2_beginAnew_0 rfl (lv_at hl 0 rfl) ?_
  refine k_get F G 11 rfl (N := 9) (Tt := TX2) rfl kf2 0 (by decide) kl11 (v := .ref (aP 0)) rfl dX2_beginAnew_1 ?_
  refine k_get F G 0 rfl (N := 18) (Tt := TX5) rfl kf5 6 (by decide) kl133 (v := .ref (aP 5)) rfl dX2_beginAnew_4 ?_
  refine lv_aload_n F.1 F.2.1 dX2_beginAnew_7 rfl (lv_at hl 0 rfl) ?_
  refine k_get F G 11 rfl (N := 9) (Tt := TX2) rfl kf2 1 (by decide) kl5 (v := .ref (aQ 3)) rfl dX2_beginAnew_8 ?_
  obtain ⟨w_1, e9, h⟩ := op_st h
  refine k_callSN (rv := none) (Wc := (gB T (aP 5) (aQ 3) 12 (v 13) (w 10))) (W2 := (gB T (aP 5) (aQ 3) 12 (v 13) (kcpy 12 (v 13) (w 10)))) (Wn := (gW T aP aQ v w_1)) (As := [.ref (aP 5), .ref (aQ 3)]) (rest := []) F G (mX10_copyRow l D T (aP 5) (aQ 3) 12 (v 13) (w 10) (by decide)) ⟨va_cnB 2 F.2.2.2.2 (kg_c kl67 kg_a) rfl rfl rfl (k_nest G 4 rfl) (F.2.2.2.2 _ kl80) (by decide +kernel) ⟨Nat.le_of_ble_eq_true rfl, Nat.le_of_ble_eq_true rfl⟩, F.2.2.2.2 _ kl79⟩ (kCut_2 G 5 12 rfl rfl (by decide) (by subst e9; rfl)) rfl hl.1 rfl (Nat.le_of_ble_eq_true rfl) dX2_beginAnew_11 ⟨Nat.le_of_ble_eq_true rfl, Nat.le_of_ble_eq_true rfl⟩ (cN := 0) (sN := 0) ⟨rfl, rfl⟩ (fun H locs G => ?_)
  clear e9
  refine lv_aload_n F.1 F.2.1 dX2_beginAnew_14 rfl (lv_at hl 0 rfl) ?_
  refine k_get F G 11 rfl (N := 9) (Tt := TX2) rfl kf2 3 (by decide) kl7 (v := .ref (aQ 5)) rfl dX2_beginAnew_15 ?_
  refine lv_iconst (v := 0) F.1 F.2.1 dX2_beginAnew_18 (by decide) ?_
  obtain ⟨w_2, e9, h⟩ := op_st h
  refine k_callS (rv := none) (Wc := (gA T (aQ 5) 12 (w_1 12))) (W2 := (gA T (aQ 5) 12 (kfill 12 0 (w_1 12)))) (Wn := (gW T aP aQ v w_2)) (As := [.ref (aQ 5), .int 0]) (rest := []) F G (mJ7_fill_53178 l D T (aQ 5) 12 (w_1 12) 0 (by decide)) (va_cwS 2 F.2.2.2.2 (kg_c kl136 (kg_c kl129 (kg_c kl130 (kg_c kl126 kg_a)))) rfl rfl rfl (by decide +kernel) ⟨Nat.le_of_ble_eq_true rfl, Nat.le_of_ble_eq_true rfl⟩) (kCut_1 G 14 rfl (by subst e9; rfl)) rfl hl.1 rfl (Nat.le_of_ble_eq_true rfl) dX2_beginAnew_19 ⟨Nat.le_of_ble_eq_true rfl, Nat.le_of_ble_eq_true rfl⟩ (cN := 0) (sN := 0) ⟨rfl, rfl⟩ (fun H locs G => ?_)
  clear e9
  refine lv_aload_n F.1 F.2.1 dX2_beginAnew_22 rfl (lv_at hl 0 rfl) ?_
  refine k_get F G 11 rfl (N := 9) (Tt := TX2) rfl kf2 4 (by decide) kl8 (v := .ref (aQ 6)) rfl dX2_beginAnew_23 ?_
  refine lv_iconst (v := 0) F.1 F.2.1 dX2_beginAnew_26 (by decide) ?_
  obtain ⟨w_3, e9, h⟩ := op_st h
  refine k_callS (rv := none) (Wc := (gA T (aQ 6) 12 (w_2 13))) (W2 := (gA T (aQ 6) 12 (kfill 12 0 (w_2 13)))) (Wn := (gW T aP aQ v w_3)) (As := [.ref (aQ 6), .int 0]) (rest := []) F G (mJ7_fill_53178 l D T (aQ 6) 12 (w_2 13) 0 (by decide)) (va_cwS 2 F.2.2.2.2 (kg_c kl136 (kg_c kl129 (kg_c kl130 (kg_c kl126 kg_a)))) rfl rfl rfl (by decide +kernel) ⟨Nat.le_of_ble_eq_true rfl, Nat.le_of_ble_eq_true rfl⟩) (kCut_1 G 15 rfl (by subst e9; rfl)) rfl hl.1 rfl (Nat.le_of_ble_eq_true rfl) dX2_beginAnew_27 ⟨Nat.le_of_ble_eq_true rfl, Nat.le_of_ble_eq_true rfl⟩ (cN := 0) (sN := 0) ⟨rfl, rfl⟩ (fun H locs G => ?_)
  clear e9
  refine lv_aload_n F.1 F.2.1 dX2_beginAnew_30 rfl (lv_at hl 0 rfl) ?_
  refine k_get F G 11 rfl (N := 9) (Tt := TX2) rfl kf2 5 (by decide) kl9 (v := .ref (aQ 7)) rfl dX2_beginAnew_31 ?_
  refine lv_iconst (v := (-1)) F.1 F.2.1 dX2_beginAnew_34 (by decide) ?_
  obtain ⟨w_4, e9, h⟩ := op_st h
  refine k_callS (rv := none) (Wc := (gA T (aQ 7) 12 (w_3 14))) (W2 := (gA T (aQ 7) 12 (kfill 12 (-1) (w_3 14)))) (Wn := (gW T aP aQ v w_4)) (As := [.ref (aQ 7), .int (-1)]) (rest := []) F G (mJ7_fill_53178 l D T (aQ 7) 12 (w_3 14) (-1) (by decide)) (va_cwS 2 F.2.2.2.2 (kg_c kl136 (kg_c kl129 (kg_c kl130 (kg_c kl126 kg_a)))) rfl rfl rfl (by decide +kernel) ⟨Nat.le_of_ble_eq_true rfl, Nat.le_of_ble_eq_true rfl⟩) (kCut_1 G 16 rfl (by subst e9; rfl)) rfl hl.1 rfl (Nat.le_of_ble_eq_true rfl) dX2_beginAnew_35 ⟨Nat.le_of_ble_eq_true rfl, Nat.le_of_ble_eq_true rfl⟩ (cN := 0) (sN := 0) ⟨rfl, rfl⟩ (fun H locs G => ?_)
  clear e9
  refine lv_aload_n F.1 F.2.1 dX2_beginAnew_38 rfl (lv_at hl 0 rfl) ?_
  refine k_get F G 11 rfl (N := 9) (Tt := TX2) rfl kf2 6 (by decide) kl10 (v := .ref (aQ 8)) rfl dX2_beginAnew_39 ?_
  refine lv_iconst (v := (-1)) F.1 F.2.1 dX2_beginAnew_42 (by decide) ?_
  obtain ⟨w_5, e9, h⟩ := op_st h
  refine k_callS (rv := none) (Wc := (gA T (aQ 8) 12 (w_4 15))) (W2 := (gA T (aQ 8) 12 (kfill 12 (-1) (w_4 15)))) (Wn := (gW T aP aQ v w_5)) (As := [.ref (aQ 8), .int (-1)]) (rest := []) F G (mJ7_fill_53178 l D T (aQ 8) 12 (w_4 15) (-1) (by decide)) (va_cwS 2 F.2.2.2.2 (kg_c kl136 (kg_c kl129 (kg_c kl130 (kg_c kl126 kg_a)))) rfl rfl rfl (by decide +kernel) ⟨Nat.le_of_ble_eq_true rfl, Nat.le_of_ble_eq_true rfl⟩) (kCut_1 G 17 rfl (by subst e9; rfl)) rfl hl.1 rfl (Nat.le_of_ble_eq_true rfl) dX2_beginAnew_43 ⟨Nat.le_of_ble_eq_true rfl, Nat.le_of_ble_eq_true rfl⟩ (cN := 0) (sN := 0) ⟨rfl, rfl⟩ (fun H locs G => ?_)
  clear e9
  refine lv_iconst (v := 0) F.1 F.2.1 dX2_beginAnew_46 (by decide) ?_
  refine lv_istore_n (lv' := [(1, .int 0), (0, .ref (aQ 2))]) F.1 F.2.1 dX2_beginAnew_47 rfl hl (by decide) rfl (fun ls hl => ?_)
  have L48 : ∀ (v : Nat → Nat → Int32) (K : (Nat → Nat → Int32) → Option ((Nat → Nat → Int32))) (hK : ∀ (w_8 : Nat → Nat → Int32) (H : Heap) (locs : List Loc) (ls : Array Slot), K w_8 = some (wR) → Rg D T A st (gW T aP aQ v w_8) H locs → lv_has ls 2 [(0, .ref (aQ 2))] → W pr l en rmX2_beginAnew st mi ag bl me co H locs 0 0 (MQ bl (kQ none D (gW T aP aQ v wR) A) ag st rmX2_beginAnew.cells rmX2_beginAnew.slots A) (F0 mi 90 ls [])) (n : Nat) (x1_6 : Int32) (w_7 : Nat → Nat → Int32) (H : Heap) (locs : List Loc) (ls : Array Slot), qX2_beginAnew_L48 v K n x1_6 w_7 = some (wR) → Rg D T A st (gW T aP aQ v w_7) H locs → lv_has ls 2 [(0, .ref (aQ 2)), (1, .int x1_6)] → W pr l en rmX2_beginAnew st mi ag bl me co H locs 0 0 (MQ bl (kQ none D (gW T aP aQ v wR) A) ag st rmX2_beginAnew.cells rmX2_beginAnew.slots A) (F0 mi 48 ls []) := by
    intro v K hK n
    induction n with
    | zero => intro x1_6 w_7 H locs ls h; exact op_n h
    | succ n ih =>
      intro x1_6 w_7 H locs ls h G hl
      rw [qX2_beginAnew_L48] at h
      refine lv_iload_n F.1 F.2.1 dX2_beginAnew_48 rfl (lv_at hl 1 rfl) ?_
      refine lv_aload_n F.1 F.2.1 dX2_beginAnew_49 rfl (lv_at hl 0 rfl) ?_
      refine k_get F G 11 rfl (N := 9) (Tt := TX2) rfl kf2 0 (by decide) kl11 (v := .ref (aP 0)) rfl dX2_beginAnew_50 ?_
      refine k_get F G 0 rfl (N := 18) (Tt := TX5) rfl kf5 0 (by decide) kl134 (v := .int (v 0 0)) rfl dX2_beginAnew_53 ?_
      refine lv_icmp_ge (tgt := 90) F.1 F.2.1 dX2_beginAnew_56 (by decide) (fun c => ?_) (fun c => ?_)
      · have h := op_t h c
        exact hK w_7 _ _ _ h G (lv_sub hl [0] rfl)
      · have h := op_f h c
        refine lv_aload_n F.1 F.2.1 dX2_beginAnew_59 rfl (lv_at hl 0 rfl) ?_
        refine k_get F G 11 rfl (N := 9) (Tt := TX2) rfl kf2 2 (by decide) kl6 (v := .ref (aQ 4)) rfl dX2_beginAnew_60 ?_
        refine lv_iload_n F.1 F.2.1 dX2_beginAnew_63 rfl (lv_at hl 1 rfl) ?_
        refine lv_aload_n F.1 F.2.1 dX2_beginAnew_64 rfl (lv_at hl 0 rfl) ?_
        refine k_get F G 11 rfl (N := 9) (Tt := TX2) rfl kf2 0 (by decide) kl11 (v := .ref (aP 0)) rfl dX2_beginAnew_65 ?_
        refine k_get F G 0 rfl (N := 18) (Tt := TX5) rfl kf5 8 (by decide) kl135 (v := .int (v 1 0)) rfl dX2_beginAnew_68 ?_
        refine lv_iload_n F.1 F.2.1 dX2_beginAnew_71 rfl (lv_at hl 1 rfl) ?_
        obtain ⟨r_9, hc, h⟩ := op_b h
        refine k_callSN (rv := (some (.int r_9))) (Wc := ([] : va_W)) (W2 := ([] : va_W)) (Wn := (gW T aP aQ v w_7)) (As := [.int (v 1 0), .int x1_6]) (rest := [.int x1_6, .ref (aQ 4)]) F G (mX10_isIn l D T (v 1 0) x1_6 hc) ⟨va_cnB 2 F.2.2.2.2 (kg_c kl119 kg_a) rfl rfl rfl (k_nest G 5 rfl) (F.2.2.2.2 _ kl80) (by decide +kernel) ⟨Nat.le_of_ble_eq_true rfl, Nat.le_of_ble_eq_true rfl⟩, F.2.2.2.2 _ kl122⟩ (kCut_0 G) rfl hl.1 rfl (Nat.le_of_ble_eq_true rfl) dX2_beginAnew_72 ⟨Nat.le_of_ble_eq_true rfl, Nat.le_of_ble_eq_true rfl⟩ (cN := 0) (sN := 0) ⟨rfl, rfl⟩ (fun H locs G => ?_)
        obtain ⟨j83, hj83, h⟩ := op_j h
        have J83 : ∀ (y_10 : Int32) (H : Heap) (locs : List Loc) (ls : Array Slot), j83 y_10 = some (wR) → Rg D T A st (gW T aP aQ v w_7) H locs → lv_has ls 2 [(0, .ref (aQ 2)), (1, .int x1_6)] → W pr l en rmX2_beginAnew st mi ag bl me co H locs 0 0 (MQ bl (kQ none D (gW T aP aQ v wR) A) ag st rmX2_beginAnew.cells rmX2_beginAnew.slots A) (F0 mi 83 ls [.int y_10, .int x1_6, .ref (aQ 4)]) := by
          intro y_10 H locs ls h G hl
          rw [hj83] at h
          obtain ⟨c, h⟩ := op_g h
          obtain ⟨w_11, e9, h⟩ := op_st h
          refine k_iast F G 13 rfl c dX2_beginAnew_83 (Wn := (gW T aP aQ v w_11)) (by subst e9; rfl) (fun H locs G => ?_)
          clear e9
          refine lv_iinc (v := (x1_6 + 1)) (lv' := [(1, .int (x1_6 + 1)), (0, .ref (aQ 2))]) F.1 F.2.1 dX2_beginAnew_84 hl (k := 1) rfl rfl (by decide) rfl (fun ls hl => ?_)
          refine lv_goto (tgt := 48) F.1 F.2.1 dX2_beginAnew_87 (by decide) ?_
          exact ih (x1_6 + 1) w_11 _ _ _ h G (lv_sub hl [1, 0] rfl)
        clear hj83
        refine lv_if_eq (tgt := 82) F.1 F.2.1 dX2_beginAnew_75 (by decide) (fun c => ?_) (fun c => ?_)
        · have h := op_t h c
          refine lv_iconst (v := 1) F.1 F.2.1 dX2_beginAnew_82 (by decide) ?_
          exact J83 1 _ _ _ h G hl
        · have h := op_f h c
          refine lv_iconst (v := 0) F.1 F.2.1 dX2_beginAnew_78 (by decide) ?_
          refine lv_goto (tgt := 83) F.1 F.2.1 dX2_beginAnew_79 (by decide) ?_
          exact J83 0 _ _ _ h G hl
  refine L48 v  _ (fun w_8 H locs ls h G hl => ?_) fu 0 w_5 _ _ _ h G (lv_sub hl [1, 0] rfl)
  clear L48
  refine lv_aload_n F.1 F.2.1 dX2_beginAnew_90 rfl (lv_at hl 0 rfl) ?_
  refine lv_iconst (v := 0) F.1 F.2.1 dX2_beginAnew_91 (by decide) ?_
  obtain ⟨w_12, e9, h⟩ := op_st h
  refine k_put F G 11 rfl (N := 9) (Tt := TX2) rfl kf2 tyX2_ok nmX2 7 (by decide) kl77 rfl (v := .int 0) rfl rfl (Nat.le_of_ble_eq_true rfl) dX2_beginAnew_92 (Wn := (gW T aP aQ v w_12)) (by subst e9; rfl) (fun H locs G => ?_)
  clear e9
  refine lv_aload_n F.1 F.2.1 dX2_beginAnew_95 rfl (lv_at hl 0 rfl) ?_
  refine lv_iconst (v := 0) F.1 F.2.1 dX2_beginAnew_96 (by decide) ?_
  obtain ⟨w_13, e9, h⟩ := op_st h
  refine k_put F G 11 rfl (N := 9) (Tt := TX2) rfl kf2 tyX2_ok nmX2 8 (by decide) kl78 rfl (v := .int 0) rfl rfl (Nat.le_of_ble_eq_true rfl) dX2_beginAnew_97 (Wn := (gW T aP aQ v w_13)) (by subst e9; rfl) (fun H locs G => ?_)
  clear e9
  obtain rfl := op_1 h
  exact k_vret F hr hlk G dX2_beginAnew_100
abbrev rmX2_doesWant : Room := ({ frames := 0, cells := 0, slots := 0, locals := 0 } : Room)
noncomputable def qX2_doesWant (v : Nat → Nat → Int32) (w : Nat → Nat → Int32) (x1 : Int32) : Option (Int32) :=
  gd (vp_in x1 12) (if ((w 11) x1.toNatClampNeg) = 0 then some 0 else some 1)

set_option maxHeartbeats 4000000 in
set_option maxRecDepth 100000 in
theorem mX2_doesWant (l : Launch) (D : va_G) (T : Nat → ClassId) (aP : Nat → Nat) (aQ : Nat → Nat) (v : Nat → Nat → Int32) (w : Nat → Nat → Int32) (x1 : Int32) {rR : Int32} (hres : qX2_doesWant v w x1 = some (rR)) : Ct l yX2_doesWant (Cond.code yX2_doesWant cX2_doesWant 2 (some .boolean) :: kAll) rmX2_doesWant D T [.ref (aQ 2), .int x1] (gW T aP aQ v w) (some (.int rR)) (gW T aP aQ v w) := by
  refine Ct.of (cc := cX2_doesWant) (maxL := 2) (ret := (some .boolean)) (by decide +kernel) rfl (Nat.le_of_ble_eq_true rfl) ?_
  intro pr en st mi ag bl me co A ls F hr hlk hnm G hl
  have hl : lv_has ls 2 [(0, .ref (aQ 2)), (1, .int x1)] := hl
  have h := hres
  unfold qX2_doesWant at h
  refine lv_aload_n F.1 F.2.1 dX2_doesWant_0 rfl (lv_at hl 0 rfl) ?_
  refine k_get F G 11 rfl (N := 9) (Tt := TX2) rfl kf2 2 (by decide) kl6 (v := .ref (aQ 4)) rfl dX2_doesWant_1 ?_
  refine lv_iload_n F.1 F.2.1 dX2_doesWant_4 rfl (lv_at hl 1 rfl) ?_
  obtain ⟨c, h⟩ := op_g h
  refine k_iald F G 13 rfl c dX2_doesWant_5 ?_
  refine lv_if_eq (tgt := 13) F.1 F.2.1 dX2_doesWant_6 (by decide) (fun c => ?_) (fun c => ?_)
  · have h := op_t h c
    refine lv_iconst (v := 0) F.1 F.2.1 dX2_doesWant_13 (by decide) ?_
    obtain rfl := op_1 h
    exact k_zret F hr rfl hlk G dX2_doesWant_14
  · have h := op_f h c
    refine lv_iconst (v := 1) F.1 F.2.1 dX2_doesWant_9 (by decide) ?_
    refine lv_goto (tgt := 14) F.1 F.2.1 dX2_doesWant_10 (by decide) ?_
    obtain rfl := op_1 h
    exact k_zret F hr rfl hlk G dX2_doesWant_14
abbrev rmX2_inState : Room := ({ frames := 0, cells := 0, slots := 0, locals := 0 } : Room)
noncomputable def qX2_inState_L4 (v : Nat → Nat → Int32) (w : Nat → Nat → Int32) (x1_1 : Int32) (K : Int32 → Option (Int32)) : Nat → Int32 → Int32 → Option (Int32)
  | 0, _, _ => none
  | n + 1, x2_2, x3_3 =>
    if (v 0 0) ≤ x3_3 then (K x2_2) else gd (vp_in x3_3 12) ((jn (fun (x2_5 : Int32) => (qX2_inState_L4 v w x1_1 K n x2_5 (x3_3 + 1))) fun j31 => if ((w 11) x3_3.toNatClampNeg) = x1_1 then (j31 (x2_2 ||| (1 <<< (x3_3 &&& 31)))) else (j31 x2_2)))

noncomputable def qX2_inState (v : Nat → Nat → Int32) (w : Nat → Nat → Int32) (x1 : Int32) : Option (Int32) :=
  (qX2_inState_L4 v w x1 (fun (x2_4 : Int32) => some x2_4) fu 0 0 )

set_option maxHeartbeats 4000000 in
set_option maxRecDepth 100000 in
theorem mX2_inState (l : Launch) (D : va_G) (T : Nat → ClassId) (aP : Nat → Nat) (aQ : Nat → Nat) (v : Nat → Nat → Int32) (w : Nat → Nat → Int32) (x1 : Int32) {rR : Int32} (hres : qX2_inState v w x1 = some (rR)) : Ct l yX2_inState (Cond.code yX2_inState cX2_inState 4 (some .int) :: kAll) rmX2_inState D T [.ref (aQ 2), .int x1] (gW T aP aQ v w) (some (.int rR)) (gW T aP aQ v w) := by
  refine Ct.of (cc := cX2_inState) (maxL := 4) (ret := (some .int)) (by decide +kernel) rfl (Nat.le_of_ble_eq_true rfl) ?_
  intro pr en st mi ag bl me co A ls F hr hlk hnm G hl
  have hl : lv_has ls 4 [(0, .ref (aQ 2)), (1, .int x1)] := hl
  have h := hres
  unfold qX2_inState at h
  refine lv_iconst (v := 0) F.1 F.2.1 dX2_inState_0 (by decide) ?_
  refine lv_istore_n (lv' := [(2, .int 0), (0, .ref (aQ 2)), (1, .int x1)]) F.1 F.2.1 dX2_inState_1 rfl hl (by decide) rfl (fun ls hl => ?_)
  refine lv_iconst (v := 0) F.1 F.2.1 dX2_inState_2 (by decide) ?_
  refine lv_istore_n (lv' := [(3, .int 0), (2, .int 0), (0, .ref (aQ 2)), (1, .int x1)]) F.1 F.2.1 dX2_inState_3 rfl hl (by decide) rfl (fun ls hl => ?_)
  have L4 : ∀ (v : Nat → Nat → Int32) (w : Nat → Nat → Int32) (x1_1 : Int32) (K : Int32 → Option (Int32)) (hK : ∀ (x2_4 : Int32) (H : Heap) (locs : List Loc) (ls : Array Slot), K x2_4 = some (rR) → Rg D T A st (gW T aP aQ v w) H locs → lv_has ls 4 [(2, .int x2_4)] → W pr l en rmX2_inState st mi ag bl me co H locs 0 0 (MQ bl (kQ (some (.int rR)) D (gW T aP aQ v w) A) ag st rmX2_inState.cells rmX2_inState.slots A) (F0 mi 37 ls [])) (n : Nat) (x2_2 : Int32) (x3_3 : Int32) (H : Heap) (locs : List Loc) (ls : Array Slot), qX2_inState_L4 v w x1_1 K n x2_2 x3_3 = some (rR) → Rg D T A st (gW T aP aQ v w) H locs → lv_has ls 4 [(0, .ref (aQ 2)), (1, .int x1_1), (2, .int x2_2), (3, .int x3_3)] → W pr l en rmX2_inState st mi ag bl me co H locs 0 0 (MQ bl (kQ (some (.int rR)) D (gW T aP aQ v w) A) ag st rmX2_inState.cells rmX2_inState.slots A) (F0 mi 4 ls []) := by
    intro v w x1_1 K hK n
    induction n with
    | zero => intro x2_2 x3_3 H locs ls h; exact op_n h
    | succ n ih =>
      intro x2_2 x3_3 H locs ls h G hl
      rw [qX2_inState_L4] at h
      refine lv_iload_n F.1 F.2.1 dX2_inState_4 rfl (lv_at hl 3 rfl) ?_
      refine lv_aload_n F.1 F.2.1 dX2_inState_5 rfl (lv_at hl 0 rfl) ?_
      refine k_get F G 11 rfl (N := 9) (Tt := TX2) rfl kf2 0 (by decide) kl11 (v := .ref (aP 0)) rfl dX2_inState_6 ?_
      refine k_get F G 0 rfl (N := 18) (Tt := TX5) rfl kf5 0 (by decide) kl134 (v := .int (v 0 0)) rfl dX2_inState_9 ?_
      refine lv_icmp_ge (tgt := 37) F.1 F.2.1 dX2_inState_12 (by decide) (fun c => ?_) (fun c => ?_)
      · have h := op_t h c
        exact hK x2_2 _ _ _ h G (lv_sub hl [2] rfl)
      · have h := op_f h c
        refine lv_aload_n F.1 F.2.1 dX2_inState_15 rfl (lv_at hl 0 rfl) ?_
        refine k_get F G 11 rfl (N := 9) (Tt := TX2) rfl kf2 2 (by decide) kl6 (v := .ref (aQ 4)) rfl dX2_inState_16 ?_
        refine lv_iload_n F.1 F.2.1 dX2_inState_19 rfl (lv_at hl 3 rfl) ?_
        obtain ⟨c, h⟩ := op_g h
        refine k_iald F G 13 rfl c dX2_inState_20 ?_
        refine lv_iload_n F.1 F.2.1 dX2_inState_21 rfl (lv_at hl 1 rfl) ?_
        obtain ⟨j31, hj31, h⟩ := op_j h
        have J31 : ∀ (x2_5 : Int32) (H : Heap) (locs : List Loc) (ls : Array Slot), j31 x2_5 = some (rR) → Rg D T A st (gW T aP aQ v w) H locs → lv_has ls 4 [(0, .ref (aQ 2)), (1, .int x1_1), (2, .int x2_5), (3, .int x3_3)] → W pr l en rmX2_inState st mi ag bl me co H locs 0 0 (MQ bl (kQ (some (.int rR)) D (gW T aP aQ v w) A) ag st rmX2_inState.cells rmX2_inState.slots A) (F0 mi 31 ls []) := by
          intro x2_5 H locs ls h G hl
          rw [hj31] at h
          refine lv_iinc (v := (x3_3 + 1)) (lv' := [(3, .int (x3_3 + 1)), (0, .ref (aQ 2)), (1, .int x1_1), (2, .int x2_5)]) F.1 F.2.1 dX2_inState_31 hl (k := 3) rfl rfl (by decide) rfl (fun ls hl => ?_)
          refine lv_goto (tgt := 4) F.1 F.2.1 dX2_inState_34 (by decide) ?_
          exact ih x2_5 (x3_3 + 1) _ _ _ h G (lv_sub hl [1, 2, 3, 0] rfl)
        clear hj31
        refine lv_icmp_ne (tgt := 31) F.1 F.2.1 dX2_inState_22 (by decide) (fun c => ?_) (fun c => ?_)
        · have h := op_f h c
          exact J31 x2_2 _ _ _ h G hl
        · have h := op_t h c
          refine lv_iload_n F.1 F.2.1 dX2_inState_25 rfl (lv_at hl 2 rfl) ?_
          refine lv_iconst (v := 1) F.1 F.2.1 dX2_inState_26 (by decide) ?_
          refine lv_iload_n F.1 F.2.1 dX2_inState_27 rfl (lv_at hl 3 rfl) ?_
          refine lv_ishl F.1 F.2.1 dX2_inState_28 ?_
          refine lv_ior F.1 F.2.1 dX2_inState_29 ?_
          refine lv_istore_n (lv' := [(2, .int (x2_2 ||| (1 <<< (x3_3 &&& 31)))), (0, .ref (aQ 2)), (1, .int x1_1), (3, .int x3_3)]) F.1 F.2.1 dX2_inState_30 rfl hl (by decide) rfl (fun ls hl => ?_)
          exact J31 (x2_2 ||| (1 <<< (x3_3 &&& 31))) _ _ _ h G (lv_sub hl [1, 2, 0, 3] rfl)
  refine L4 v w x1 _ (fun x2_4 H locs ls h G hl => ?_) fu 0 0  _ _ _ h G (lv_sub hl [2, 3, 1, 0] rfl)
  clear L4
  refine lv_iload_n F.1 F.2.1 dX2_inState_37 rfl (lv_at hl 0 rfl) ?_
  obtain rfl := op_1 h
  exact k_iret F hr hlk G dX2_inState_38
abbrev rmX2_drawOf : Room := ({ frames := 0, cells := 0, slots := 0, locals := 0 } : Room)
noncomputable def qX2_drawOf (v : Nat → Nat → Int32) (w : Nat → Nat → Int32) (x1 : Int32) : Option (Int32) :=
  gd (vp_in x1 12) (if ((w 11) x1.toNatClampNeg) = 2 then gd (vp_in x1 12) (some ((v 11) x1.toNatClampNeg)) else gd (vp_in x1 12) (if ((w 11) x1.toNatClampNeg) = 3 then gd (vp_in x1 12) (some ((v 9) x1.toNatClampNeg)) else some 0))

set_option maxHeartbeats 4000000 in
set_option maxRecDepth 100000 in
theorem mX2_drawOf (l : Launch) (D : va_G) (T : Nat → ClassId) (aP : Nat → Nat) (aQ : Nat → Nat) (v : Nat → Nat → Int32) (w : Nat → Nat → Int32) (x1 : Int32) {rR : Int32} (hres : qX2_drawOf v w x1 = some (rR)) : Ct l yX2_drawOf (Cond.code yX2_drawOf cX2_drawOf 2 (some .int) :: kAll) rmX2_drawOf D T [.ref (aQ 2), .int x1] (gW T aP aQ v w) (some (.int rR)) (gW T aP aQ v w) := by
  refine Ct.of (cc := cX2_drawOf) (maxL := 2) (ret := (some .int)) (by decide +kernel) rfl (Nat.le_of_ble_eq_true rfl) ?_
  intro pr en st mi ag bl me co A ls F hr hlk hnm G hl
  have hl : lv_has ls 2 [(0, .ref (aQ 2)), (1, .int x1)] := hl
  have h := hres
  unfold qX2_drawOf at h
  refine lv_aload_n F.1 F.2.1 dX2_drawOf_0 rfl (lv_at hl 0 rfl) ?_
  refine k_get F G 11 rfl (N := 9) (Tt := TX2) rfl kf2 2 (by decide) kl6 (v := .ref (aQ 4)) rfl dX2_drawOf_1 ?_
  refine lv_iload_n F.1 F.2.1 dX2_drawOf_4 rfl (lv_at hl 1 rfl) ?_
  obtain ⟨c, h⟩ := op_g h
  refine k_iald F G 13 rfl c dX2_drawOf_5 ?_
  refine lv_iconst (v := 2) F.1 F.2.1 dX2_drawOf_6 (by decide) ?_
  refine lv_icmp_ne (tgt := 20) F.1 F.2.1 dX2_drawOf_7 (by decide) (fun c => ?_) (fun c => ?_)
  · have h := op_f h c
    refine lv_aload_n F.1 F.2.1 dX2_drawOf_20 rfl (lv_at hl 0 rfl) ?_
    refine k_get F G 11 rfl (N := 9) (Tt := TX2) rfl kf2 2 (by decide) kl6 (v := .ref (aQ 4)) rfl dX2_drawOf_21 ?_
    refine lv_iload_n F.1 F.2.1 dX2_drawOf_24 rfl (lv_at hl 1 rfl) ?_
    obtain ⟨c, h⟩ := op_g h
    refine k_iald F G 13 rfl c dX2_drawOf_25 ?_
    refine lv_iconst (v := 3) F.1 F.2.1 dX2_drawOf_26 (by decide) ?_
    refine lv_icmp_ne (tgt := 42) F.1 F.2.1 dX2_drawOf_27 (by decide) (fun c => ?_) (fun c => ?_)
    · have h := op_f h c
      refine lv_iconst (v := 0) F.1 F.2.1 dX2_drawOf_42 (by decide) ?_
      obtain rfl := op_1 h
      exact k_iret F hr hlk G dX2_drawOf_43
    · have h := op_t h c
      refine lv_aload_n F.1 F.2.1 dX2_drawOf_30 rfl (lv_at hl 0 rfl) ?_
      refine k_get F G 11 rfl (N := 9) (Tt := TX2) rfl kf2 0 (by decide) kl11 (v := .ref (aP 0)) rfl dX2_drawOf_31 ?_
      refine k_get F G 0 rfl (N := 18) (Tt := TX5) rfl kf5 2 (by decide) kl141 (v := .ref (aP 1)) rfl dX2_drawOf_34 ?_
      refine lv_iload_n F.1 F.2.1 dX2_drawOf_37 rfl (lv_at hl 1 rfl) ?_
      obtain ⟨c, h⟩ := op_g h
      refine k_iald F G 1 rfl c dX2_drawOf_38 ?_
      refine lv_goto (tgt := 43) F.1 F.2.1 dX2_drawOf_39 (by decide) ?_
      obtain rfl := op_1 h
      exact k_iret F hr hlk G dX2_drawOf_43
  · have h := op_t h c
    refine lv_aload_n F.1 F.2.1 dX2_drawOf_10 rfl (lv_at hl 0 rfl) ?_
    refine k_get F G 11 rfl (N := 9) (Tt := TX2) rfl kf2 0 (by decide) kl11 (v := .ref (aP 0)) rfl dX2_drawOf_11 ?_
    refine k_get F G 0 rfl (N := 18) (Tt := TX5) rfl kf5 4 (by decide) kl140 (v := .ref (aP 3)) rfl dX2_drawOf_14 ?_
    refine lv_iload_n F.1 F.2.1 dX2_drawOf_17 rfl (lv_at hl 1 rfl) ?_
    obtain ⟨c, h⟩ := op_g h
    refine k_iald F G 3 rfl c dX2_drawOf_18 ?_
    obtain rfl := op_1 h
    exact k_iret F hr hlk G dX2_drawOf_19
abbrev rmX2_beginToWait : Room := ({ frames := 0, cells := 0, slots := 0, locals := 0 } : Room)
noncomputable def qX2_beginToWait (v : Nat → Nat → Int32) (w : Nat → Nat → Int32) (x1 : Int32) : Option ((Nat → Nat → Int32)) :=
  gd (vp_in x1 12) (bs (va_up w 11 (upd (w 11) x1.toNatClampNeg 1)) fun w_1 => gd (vp_in x1 12) (bs (va_up w_1 12 (upd (w_1 12) x1.toNatClampNeg 0)) fun w_2 => gd (vp_in x1 12) (bs (va_up w_2 15 (upd (w_2 15) x1.toNatClampNeg (-1))) fun w_3 => some w_3)))

set_option maxHeartbeats 4000000 in
set_option maxRecDepth 100000 in
theorem mX2_beginToWait (l : Launch) (D : va_G) (T : Nat → ClassId) (aP : Nat → Nat) (aQ : Nat → Nat) (v : Nat → Nat → Int32) (w : Nat → Nat → Int32) (x1 : Int32) {wR : Nat → Nat → Int32} (hres : qX2_beginToWait v w x1 = some (wR)) : Ct l yX2_beginToWait (Cond.code yX2_beginToWait cX2_beginToWait 2 none :: kAll) rmX2_beginToWait D T [.ref (aQ 2), .int x1] (gW T aP aQ v w) none (gW T aP aQ v wR) := by
  refine Ct.of (cc := cX2_beginToWait) (maxL := 2) (ret := none) (by decide +kernel) rfl (Nat.le_of_ble_eq_true rfl) ?_
  intro pr en st mi ag bl me co A ls F hr hlk hnm G hl
  have hl : lv_has ls 2 [(0, .ref (aQ 2)), (1, .int x1)] := hl
  have h := hres
  unfold qX2_beginToWait at h
  refine lv_aload_n F.1 F.2.1 dX2_beginToWait_0 rfl (lv_at hl 0 rfl) ?_
  refine k_get F G 11 rfl (N := 9) (Tt := TX2) rfl kf2 2 (by decide) kl6 (v := .ref (aQ 4)) rfl dX2_beginToWait_1 ?_
  refine lv_iload_n F.1 F.2.1 dX2_beginToWait_4 rfl (lv_at hl 1 rfl) ?_
  refine lv_iconst (v := 1) F.1 F.2.1 dX2_beginToWait_5 (by decide) ?_
  obtain ⟨c, h⟩ := op_g h
  obtain ⟨w_1, e9, h⟩ := op_st h
  refine k_iast F G 13 rfl c dX2_beginToWait_6 (Wn := (gW T aP aQ v w_1)) (by subst e9; rfl) (fun H locs G => ?_)
  clear e9
  refine lv_aload_n F.1 F.2.1 dX2_beginToWait_7 rfl (lv_at hl 0 rfl) ?_
  refine k_get F G 11 rfl (N := 9) (Tt := TX2) rfl kf2 3 (by decide) kl7 (v := .ref (aQ 5)) rfl dX2_beginToWait_8 ?_
  refine lv_iload_n F.1 F.2.1 dX2_beginToWait_11 rfl (lv_at hl 1 rfl) ?_
  refine lv_iconst (v := 0) F.1 F.2.1 dX2_beginToWait_12 (by decide) ?_
  obtain ⟨c, h⟩ := op_g h
  obtain ⟨w_2, e9, h⟩ := op_st h
  refine k_iast F G 14 rfl c dX2_beginToWait_13 (Wn := (gW T aP aQ v w_2)) (by subst e9; rfl) (fun H locs G => ?_)
  clear e9
  refine lv_aload_n F.1 F.2.1 dX2_beginToWait_14 rfl (lv_at hl 0 rfl) ?_
  refine k_get F G 11 rfl (N := 9) (Tt := TX2) rfl kf2 6 (by decide) kl10 (v := .ref (aQ 8)) rfl dX2_beginToWait_15 ?_
  refine lv_iload_n F.1 F.2.1 dX2_beginToWait_18 rfl (lv_at hl 1 rfl) ?_
  refine lv_iconst (v := (-1)) F.1 F.2.1 dX2_beginToWait_19 (by decide) ?_
  obtain ⟨c, h⟩ := op_g h
  obtain ⟨w_3, e9, h⟩ := op_st h
  refine k_iast F G 17 rfl c dX2_beginToWait_20 (Wn := (gW T aP aQ v w_3)) (by subst e9; rfl) (fun H locs G => ?_)
  clear e9
  obtain rfl := op_1 h
  exact k_vret F hr hlk G dX2_beginToWait_21
abbrev rmX2_becomeIdle : Room := ({ frames := 0, cells := 0, slots := 0, locals := 0 } : Room)
noncomputable def qX2_becomeIdle (v : Nat → Nat → Int32) (w : Nat → Nat → Int32) (x1 : Int32) : Option ((Nat → Nat → Int32)) :=
  gd (vp_in x1 12) ((jn (fun (w_1 : Nat → Nat → Int32) => gd (vp_in x1 12) (bs (va_up w_1 11 (upd (w_1 11) x1.toNatClampNeg 0)) fun w_2 => gd (vp_in x1 12) (bs (va_up w_2 12 (upd (w_2 12) x1.toNatClampNeg 0)) fun w_3 => some w_3))) fun j32 => jn (fun (_ : Unit) => (bs (va_up w 16 (fun _ => ((w 16 0) ||| (1 <<< (x1 &&& 31))))) fun w_4 => (j32 w_4))) fun j20 => if ((w 11) x1.toNatClampNeg) = 2 then (j20 ()) else gd (vp_in x1 12) (if ((w 11) x1.toNatClampNeg) = 3 then (j20 ()) else (j32 w))))

set_option maxHeartbeats 4000000 in
set_option maxRecDepth 100000 in
theorem mX2_becomeIdle (l : Launch) (D : va_G) (T : Nat → ClassId) (aP : Nat → Nat) (aQ : Nat → Nat) (v : Nat → Nat → Int32) (w : Nat → Nat → Int32) (x1 : Int32) {wR : Nat → Nat → Int32} (hres : qX2_becomeIdle v w x1 = some (wR)) : Ct l yX2_becomeIdle (Cond.code yX2_becomeIdle cX2_becomeIdle 2 none :: kAll) rmX2_becomeIdle D T [.ref (aQ 2), .int x1] (gW T aP aQ v w) none (gW T aP aQ v wR) := by
  refine Ct.of (cc := cX2_becomeIdle) (maxL := 2) (ret := none) (by decide +kernel) rfl (Nat.le_of_ble_eq_true rfl) ?_
  intro pr en st mi ag bl me co A ls F hr hlk hnm G hl
  have hl : lv_has ls 2 [(0, .ref (aQ 2)), (1, .int x1)] := hl
  have h := hres
  unfold qX2_becomeIdle at h
  refine lv_aload_n F.1 F.2.1 dX2_becomeIdle_0 rfl (lv_at hl 0 rfl) ?_
  refine k_get F G 11 rfl (N := 9) (Tt := TX2) rfl kf2 2 (by decide) kl6 (v := .ref (aQ 4)) rfl dX2_becomeIdle_1 ?_
  refine lv_iload_n F.1 F.2.1 dX2_becomeIdle_4 rfl (lv_at hl 1 rfl) ?_
  obtain ⟨c, h⟩ := op_g h
  refine k_iald F G 13 rfl c dX2_becomeIdle_5 ?_
  refine lv_iconst (v := 2) F.1 F.2.1 dX2_becomeIdle_6 (by decide) ?_
  obtain ⟨j32, hj32, h⟩ := op_j h
  have J32 : ∀ (w_1 : Nat → Nat → Int32) (H : Heap) (locs : List Loc) (ls : Array Slot), j32 w_1 = some (wR) → Rg D T A st (gW T aP aQ v w_1) H locs → lv_has ls 2 [(0, .ref (aQ 2)), (1, .int x1)] → W pr l en rmX2_becomeIdle st mi ag bl me co H locs 0 0 (MQ bl (kQ none D (gW T aP aQ v wR) A) ag st rmX2_becomeIdle.cells rmX2_becomeIdle.slots A) (F0 mi 32 ls []) := by
    intro w_1 H locs ls h G hl
    rw [hj32] at h
    refine lv_aload_n F.1 F.2.1 dX2_becomeIdle_32 rfl (lv_at hl 0 rfl) ?_
    refine k_get F G 11 rfl (N := 9) (Tt := TX2) rfl kf2 2 (by decide) kl6 (v := .ref (aQ 4)) rfl dX2_becomeIdle_33 ?_
    refine lv_iload_n F.1 F.2.1 dX2_becomeIdle_36 rfl (lv_at hl 1 rfl) ?_
    refine lv_iconst (v := 0) F.1 F.2.1 dX2_becomeIdle_37 (by decide) ?_
    obtain ⟨c, h⟩ := op_g h
    obtain ⟨w_2, e9, h⟩ := op_st h
    refine k_iast F G 13 rfl c dX2_becomeIdle_38 (Wn := (gW T aP aQ v w_2)) (by subst e9; rfl) (fun H locs G => ?_)
    clear e9
    refine lv_aload_n F.1 F.2.1 dX2_becomeIdle_39 rfl (lv_at hl 0 rfl) ?_
    refine k_get F G 11 rfl (N := 9) (Tt := TX2) rfl kf2 3 (by decide) kl7 (v := .ref (aQ 5)) rfl dX2_becomeIdle_40 ?_
    refine lv_iload_n F.1 F.2.1 dX2_becomeIdle_43 rfl (lv_at hl 1 rfl) ?_
    refine lv_iconst (v := 0) F.1 F.2.1 dX2_becomeIdle_44 (by decide) ?_
    obtain ⟨c, h⟩ := op_g h
    obtain ⟨w_3, e9, h⟩ := op_st h
    refine k_iast F G 14 rfl c dX2_becomeIdle_45 (Wn := (gW T aP aQ v w_3)) (by subst e9; rfl) (fun H locs G => ?_)
    clear e9
    obtain rfl := op_1 h
    exact k_vret F hr hlk G dX2_becomeIdle_46
  clear hj32
  obtain ⟨j20, hj20, h⟩ := op_j h
  have J20 : ∀ (H : Heap) (locs : List Loc) (ls : Array Slot), j20 () = some (wR) → Rg D T A st (gW T aP aQ v w) H locs → lv_has ls 2 [(0, .ref (aQ 2)), (1, .int x1)] → W pr l en rmX2_becomeIdle st mi ag bl me co H locs 0 0 (MQ bl (kQ none D (gW T aP aQ v wR) A) ag st rmX2_becomeIdle.cells rmX2_becomeIdle.slots A) (F0 mi 20 ls []) := by
    intro H locs ls h G hl
    rw [hj20] at h
    refine lv_aload_n F.1 F.2.1 dX2_becomeIdle_20 rfl (lv_at hl 0 rfl) ?_
    refine lv_dup F.1 F.2.1 dX2_becomeIdle_21 rfl ?_
    refine k_get F G 11 rfl (N := 9) (Tt := TX2) rfl kf2 7 (by decide) kl77 (v := .int (w 16 0)) rfl dX2_becomeIdle_22 ?_
    refine lv_iconst (v := 1) F.1 F.2.1 dX2_becomeIdle_25 (by decide) ?_
    refine lv_iload_n F.1 F.2.1 dX2_becomeIdle_26 rfl (lv_at hl 1 rfl) ?_
    refine lv_ishl F.1 F.2.1 dX2_becomeIdle_27 ?_
    refine lv_ior F.1 F.2.1 dX2_becomeIdle_28 ?_
    obtain ⟨w_4, e9, h⟩ := op_st h
    refine k_put F G 11 rfl (N := 9) (Tt := TX2) rfl kf2 tyX2_ok nmX2 7 (by decide) kl77 rfl (v := .int ((w 16 0) ||| (1 <<< (x1 &&& 31)))) rfl rfl (Nat.le_of_ble_eq_true rfl) dX2_becomeIdle_29 (Wn := (gW T aP aQ v w_4)) (by subst e9; rfl) (fun H locs G => ?_)
    clear e9
    exact J32 w_4 _ _ _ h G hl
  clear hj20
  refine lv_icmp_eq (tgt := 20) F.1 F.2.1 dX2_becomeIdle_7 (by decide) (fun c => ?_) (fun c => ?_)
  · have h := op_t h c
    exact J20 _ _ _ h G hl
  · have h := op_f h c
    refine lv_aload_n F.1 F.2.1 dX2_becomeIdle_10 rfl (lv_at hl 0 rfl) ?_
    refine k_get F G 11 rfl (N := 9) (Tt := TX2) rfl kf2 2 (by decide) kl6 (v := .ref (aQ 4)) rfl dX2_becomeIdle_11 ?_
    refine lv_iload_n F.1 F.2.1 dX2_becomeIdle_14 rfl (lv_at hl 1 rfl) ?_
    obtain ⟨c, h⟩ := op_g h
    refine k_iald F G 13 rfl c dX2_becomeIdle_15 ?_
    refine lv_iconst (v := 3) F.1 F.2.1 dX2_becomeIdle_16 (by decide) ?_
    refine lv_icmp_ne (tgt := 32) F.1 F.2.1 dX2_becomeIdle_17 (by decide) (fun c => ?_) (fun c => ?_)
    · have h := op_f h c
      exact J32 w _ _ _ h G hl
    · have h := op_t h c
      exact J20 _ _ _ h G hl
abbrev rmX2_losePower : Room := ({ frames := 1, cells := 0, slots := 0, locals := 21 } : Room)
noncomputable def qX2_losePower_L2 (v : Nat → Nat → Int32) (K : (Nat → Nat → Int32) → Option ((Nat → Nat → Int32))) : Nat → Int32 → (Nat → Nat → Int32) → Option ((Nat → Nat → Int32))
  | 0, _, _ => none
  | n + 1, x1_1, w_2 =>
    if (v 0 0) ≤ x1_1 then (K w_2) else bd (qX2_doesWant v w_2 x1_1) fun r_4 => (jn (fun (w_5 : Nat → Nat → Int32) => (qX2_losePower_L2 v K n (x1_1 + 1) w_5)) fun j26 => if r_4 = 0 then (j26 w_2) else bd (qX2_beginToWait v w_2 x1_1) fun w_6 => (j26 w_6))

noncomputable def qX2_losePower (v : Nat → Nat → Int32) (w : Nat → Nat → Int32) : Option ((Nat → Nat → Int32)) :=
  (qX2_losePower_L2 v  (fun (w_3 : Nat → Nat → Int32) => (bs (va_up w_3 16 (fun _ => 0)) fun w_7 => (bs (va_up w_7 17 (fun _ => 0)) fun w_8 => some w_8))) fu 0 w)

set_option maxHeartbeats 4000000 in
set_option maxRecDepth 100000 in
theorem mX2_losePower (l : Launch) (D : va_G) (T : Nat → ClassId) (aP : Nat → Nat) (aQ : Nat → Nat) (v : Nat → Nat → Int32) (w : Nat → Nat → Int32) {wR : Nat → Nat → Int32} (hres : qX2_losePower v w = some (wR)) : Ct l yX2_losePower (Cond.code yX2_losePower cX2_losePower 2 none :: kAll) rmX2_losePower D T [.ref (aQ 2)] (gW T aP aQ v w) none (gW T aP aQ v wR) := by
  refine Ct.of (cc := cX2_losePower) (maxL := 2) (ret := none) (by decide +kernel) rfl (Nat.le_of_ble_eq_true rfl) ?_
  intro pr en st mi ag bl me co A ls F hr hlk hnm G hl
  have hl : lv_has ls 2 [(0, .ref (aQ 2))] := hl
  have h := hres
  unfold qX2_losePower at h
  refine lv_iconst (v := 0) F.1 F.2.1 dX2_losePower_0 (by decide) ?_
  refine lv_istore_n (lv' := [(1, .int 0), (0, .ref (aQ 2))]) F.1 F.2.1 dX2_losePower_1 rfl hl (by decide) rfl (fun ls hl => ?_)
  have L2 : ∀ (v : Nat → Nat → Int32) (K : (Nat → Nat → Int32) → Option ((Nat → Nat → Int32))) (hK : ∀ (w_3 : Nat → Nat → Int32) (H : Heap) (locs : List Loc) (ls : Array Slot), K w_3 = some (wR) → Rg D T A st (gW T aP aQ v w_3) H locs → lv_has ls 2 [(0, .ref (aQ 2))] → W pr l en rmX2_losePower st mi ag bl me co H locs 0 0 (MQ bl (kQ none D (gW T aP aQ v wR) A) ag st rmX2_losePower.cells rmX2_losePower.slots A) (F0 mi 32 ls [])) (n : Nat) (x1_1 : Int32) (w_2 : Nat → Nat → Int32) (H : Heap) (locs : List Loc) (ls : Array Slot), qX2_losePower_L2 v K n x1_1 w_2 = some (wR) → Rg D T A st (gW T aP aQ v w_2) H locs → lv_has ls 2 [(0, .ref (aQ 2)), (1, .int x1_1)] → W pr l en rmX2_losePower st mi ag bl me co H locs 0 0 (MQ bl (kQ none D (gW T aP aQ v wR) A) ag st rmX2_losePower.cells rmX2_losePower.slots A) (F0 mi 2 ls []) := by
    intro v K hK n
    induction n with
    | zero => intro x1_1 w_2 H locs ls h; exact op_n h
    | succ n ih =>
      intro x1_1 w_2 H locs ls h G hl
      rw [qX2_losePower_L2] at h
      refine lv_iload_n F.1 F.2.1 dX2_losePower_2 rfl (lv_at hl 1 rfl) ?_
      refine lv_aload_n F.1 F.2.1 dX2_losePower_3 rfl (lv_at hl 0 rfl) ?_
      refine k_get F G 11 rfl (N := 9) (Tt := TX2) rfl kf2 0 (by decide) kl11 (v := .ref (aP 0)) rfl dX2_losePower_4 ?_
      refine k_get F G 0 rfl (N := 18) (Tt := TX5) rfl kf5 0 (by decide) kl134 (v := .int (v 0 0)) rfl dX2_losePower_7 ?_
      refine lv_icmp_ge (tgt := 32) F.1 F.2.1 dX2_losePower_10 (by decide) (fun c => ?_) (fun c => ?_)
      · have h := op_t h c
        exact hK w_2 _ _ _ h G (lv_sub hl [0] rfl)
      · have h := op_f h c
        refine lv_aload_n F.1 F.2.1 dX2_losePower_13 rfl (lv_at hl 0 rfl) ?_
        refine lv_iload_n F.1 F.2.1 dX2_losePower_14 rfl (lv_at hl 1 rfl) ?_
        obtain ⟨r_4, hc, h⟩ := op_b h
        refine k_callV (rv := (some (.int r_4))) (Wc := (gW T aP aQ v w_2)) (W2 := (gW T aP aQ v w_2)) (Wn := (gW T aP aQ v w_2)) (As := [.int x1_1]) (rest := []) F G (mX2_doesWant l D T aP aQ v w_2 x1_1 hc) (cwV 1 F.2.2.2.2 (kg_c kl145 (kg_c kl146 (kg_c kl147 (kg_c kl42 (kg_c kl137 kg_a))))) rfl rfl rfl (by decide +kernel) ⟨Nat.le_of_ble_eq_true rfl, Nat.le_of_ble_eq_true rfl⟩) 11 rfl (q := (RX2, TX2, 9)) rfl rfl (kCut_F G) rfl hl.1 rfl (Nat.le_of_ble_eq_true rfl) dX2_losePower_15 ⟨Nat.le_of_ble_eq_true rfl, Nat.le_of_ble_eq_true rfl⟩ (cN := 0) (sN := 0) ⟨rfl, rfl⟩ (fun H locs G => ?_)
        obtain ⟨j26, hj26, h⟩ := op_j h
        have J26 : ∀ (w_5 : Nat → Nat → Int32) (H : Heap) (locs : List Loc) (ls : Array Slot), j26 w_5 = some (wR) → Rg D T A st (gW T aP aQ v w_5) H locs → lv_has ls 2 [(0, .ref (aQ 2)), (1, .int x1_1)] → W pr l en rmX2_losePower st mi ag bl me co H locs 0 0 (MQ bl (kQ none D (gW T aP aQ v wR) A) ag st rmX2_losePower.cells rmX2_losePower.slots A) (F0 mi 26 ls []) := by
          intro w_5 H locs ls h G hl
          rw [hj26] at h
          refine lv_iinc (v := (x1_1 + 1)) (lv' := [(1, .int (x1_1 + 1)), (0, .ref (aQ 2))]) F.1 F.2.1 dX2_losePower_26 hl (k := 1) rfl rfl (by decide) rfl (fun ls hl => ?_)
          refine lv_goto (tgt := 2) F.1 F.2.1 dX2_losePower_29 (by decide) ?_
          exact ih (x1_1 + 1) w_5 _ _ _ h G (lv_sub hl [1, 0] rfl)
        clear hj26
        refine lv_if_eq (tgt := 26) F.1 F.2.1 dX2_losePower_18 (by decide) (fun c => ?_) (fun c => ?_)
        · have h := op_t h c
          exact J26 w_2 _ _ _ h G hl
        · have h := op_f h c
          refine lv_aload_n F.1 F.2.1 dX2_losePower_21 rfl (lv_at hl 0 rfl) ?_
          refine lv_iload_n F.1 F.2.1 dX2_losePower_22 rfl (lv_at hl 1 rfl) ?_
          obtain ⟨w_6, hc, h⟩ := op_b h
          refine k_callV (rv := none) (Wc := (gW T aP aQ v w_2)) (W2 := (gW T aP aQ v w_6)) (Wn := (gW T aP aQ v w_6)) (As := [.int x1_1]) (rest := []) F G (mX2_beginToWait l D T aP aQ v w_2 x1_1 hc) (cwV 1 F.2.2.2.2 (kg_c kl148 (kg_c kl149 (kg_c kl150 (kg_c kl42 (kg_c kl142 kg_a))))) rfl rfl rfl (by decide +kernel) ⟨Nat.le_of_ble_eq_true rfl, Nat.le_of_ble_eq_true rfl⟩) 11 rfl (q := (RX2, TX2, 9)) rfl rfl (kCut_F G) rfl hl.1 rfl (Nat.le_of_ble_eq_true rfl) dX2_losePower_23 ⟨Nat.le_of_ble_eq_true rfl, Nat.le_of_ble_eq_true rfl⟩ (cN := 0) (sN := 0) ⟨rfl, rfl⟩ (fun H locs G => ?_)
          exact J26 w_6 _ _ _ h G hl
  refine L2 v  _ (fun w_3 H locs ls h G hl => ?_) fu 0 w _ _ _ h G (lv_sub hl [1, 0] rfl)
  clear L2
  refine lv_aload_n F.1 F.2.1 dX2_losePower_32 rfl (lv_at hl 0 rfl) ?_
  refine lv_iconst (v := 0) F.1 F.2.1 dX2_losePower_33 (by decide) ?_
  obtain ⟨w_7, e9, h⟩ := op_st h
  refine k_put F G 11 rfl (N := 9) (Tt := TX2) rfl kf2 tyX2_ok nmX2 7 (by decide) kl77 rfl (v := .int 0) rfl rfl (Nat.le_of_ble_eq_true rfl) dX2_losePower_34 (Wn := (gW T aP aQ v w_7)) (by subst e9; rfl) (fun H locs G => ?_)
  clear e9
  refine lv_aload_n F.1 F.2.1 dX2_losePower_37 rfl (lv_at hl 0 rfl) ?_
  refine lv_iconst (v := 0) F.1 F.2.1 dX2_losePower_38 (by decide) ?_
  obtain ⟨w_8, e9, h⟩ := op_st h
  refine k_put F G 11 rfl (N := 9) (Tt := TX2) rfl kf2 tyX2_ok nmX2 8 (by decide) kl78 rfl (v := .int 0) rfl rfl (Nat.le_of_ble_eq_true rfl) dX2_losePower_39 (Wn := (gW T aP aQ v w_8)) (by subst e9; rfl) (fun H locs G => ?_)
  clear e9
  obtain rfl := op_1 h
  exact k_vret F hr hlk G dX2_losePower_42
abbrev rmX2_hearGrant : Room := ({ frames := 0, cells := 0, slots := 0, locals := 0 } : Room)
noncomputable def qX2_hearGrant (v : Nat → Nat → Int32) (w : Nat → Nat → Int32) (x1 : Int32) : Option ((Nat → Nat → Int32)) :=
  gd (vp_in x1 12) (if ((w 11) x1.toNatClampNeg) = 1 then gd (vp_in x1 12) (bs (va_up w 11 (upd (w 11) x1.toNatClampNeg 2)) fun w_1 => gd (vp_in x1 12) (gd (vp_in x1 12) (bs (va_up w_1 12 (upd (w_1 12) x1.toNatClampNeg ((v 12) x1.toNatClampNeg))) fun w_2 => gd (vp_in x1 12) (gd (vp_in x1 12) (bs (va_up w_2 13 (upd (w_2 13) x1.toNatClampNeg (((w_2 13) x1.toNatClampNeg) + 1))) fun w_3 => some w_3))))) else some w)

set_option maxHeartbeats 4000000 in
set_option maxRecDepth 100000 in
theorem mX2_hearGrant (l : Launch) (D : va_G) (T : Nat → ClassId) (aP : Nat → Nat) (aQ : Nat → Nat) (v : Nat → Nat → Int32) (w : Nat → Nat → Int32) (x1 : Int32) {wR : Nat → Nat → Int32} (hres : qX2_hearGrant v w x1 = some (wR)) : Ct l yX2_hearGrant (Cond.code yX2_hearGrant cX2_hearGrant 2 none :: kAll) rmX2_hearGrant D T [.ref (aQ 2), .int x1] (gW T aP aQ v w) none (gW T aP aQ v wR) := by
  refine Ct.of (cc := cX2_hearGrant) (maxL := 2) (ret := none) (by decide +kernel) rfl (Nat.le_of_ble_eq_true rfl) ?_
  intro pr en st mi ag bl me co A ls F hr hlk hnm G hl
  have hl : lv_has ls 2 [(0, .ref (aQ 2)), (1, .int x1)] := hl
  have h := hres
  unfold qX2_hearGrant at h
  refine lv_aload_n F.1 F.2.1 dX2_hearGrant_0 rfl (lv_at hl 0 rfl) ?_
  refine k_get F G 11 rfl (N := 9) (Tt := TX2) rfl kf2 2 (by decide) kl6 (v := .ref (aQ 4)) rfl dX2_hearGrant_1 ?_
  refine lv_iload_n F.1 F.2.1 dX2_hearGrant_4 rfl (lv_at hl 1 rfl) ?_
  obtain ⟨c, h⟩ := op_g h
  refine k_iald F G 13 rfl c dX2_hearGrant_5 ?_
  refine lv_iconst (v := 1) F.1 F.2.1 dX2_hearGrant_6 (by decide) ?_
  refine lv_icmp_ne (tgt := 42) F.1 F.2.1 dX2_hearGrant_7 (by decide) (fun c => ?_) (fun c => ?_)
  · have h := op_f h c
    obtain rfl := op_1 h
    exact k_vret F hr hlk G dX2_hearGrant_42
  · have h := op_t h c
    refine lv_aload_n F.1 F.2.1 dX2_hearGrant_10 rfl (lv_at hl 0 rfl) ?_
    refine k_get F G 11 rfl (N := 9) (Tt := TX2) rfl kf2 2 (by decide) kl6 (v := .ref (aQ 4)) rfl dX2_hearGrant_11 ?_
    refine lv_iload_n F.1 F.2.1 dX2_hearGrant_14 rfl (lv_at hl 1 rfl) ?_
    refine lv_iconst (v := 2) F.1 F.2.1 dX2_hearGrant_15 (by decide) ?_
    obtain ⟨c, h⟩ := op_g h
    obtain ⟨w_1, e9, h⟩ := op_st h
    refine k_iast F G 13 rfl c dX2_hearGrant_16 (Wn := (gW T aP aQ v w_1)) (by subst e9; rfl) (fun H locs G => ?_)
    clear e9
    refine lv_aload_n F.1 F.2.1 dX2_hearGrant_17 rfl (lv_at hl 0 rfl) ?_
    refine k_get F G 11 rfl (N := 9) (Tt := TX2) rfl kf2 3 (by decide) kl7 (v := .ref (aQ 5)) rfl dX2_hearGrant_18 ?_
    refine lv_iload_n F.1 F.2.1 dX2_hearGrant_21 rfl (lv_at hl 1 rfl) ?_
    refine lv_aload_n F.1 F.2.1 dX2_hearGrant_22 rfl (lv_at hl 0 rfl) ?_
    refine k_get F G 11 rfl (N := 9) (Tt := TX2) rfl kf2 0 (by decide) kl11 (v := .ref (aP 0)) rfl dX2_hearGrant_23 ?_
    refine k_get F G 0 rfl (N := 18) (Tt := TX5) rfl kf5 5 (by decide) kl152 (v := .ref (aP 4)) rfl dX2_hearGrant_26 ?_
    refine lv_iload_n F.1 F.2.1 dX2_hearGrant_29 rfl (lv_at hl 1 rfl) ?_
    obtain ⟨c, h⟩ := op_g h
    refine k_iald F G 4 rfl c dX2_hearGrant_30 ?_
    obtain ⟨c, h⟩ := op_g h
    obtain ⟨w_2, e9, h⟩ := op_st h
    refine k_iast F G 14 rfl c dX2_hearGrant_31 (Wn := (gW T aP aQ v w_2)) (by subst e9; rfl) (fun H locs G => ?_)
    clear e9
    refine lv_aload_n F.1 F.2.1 dX2_hearGrant_32 rfl (lv_at hl 0 rfl) ?_
    refine k_get F G 11 rfl (N := 9) (Tt := TX2) rfl kf2 4 (by decide) kl8 (v := .ref (aQ 6)) rfl dX2_hearGrant_33 ?_
    refine lv_iload_n F.1 F.2.1 dX2_hearGrant_36 rfl (lv_at hl 1 rfl) ?_
    refine lv_dup2_11 F.1 F.2.1 dX2_hearGrant_37 rfl rfl ?_
    obtain ⟨c, h⟩ := op_g h
    refine k_iald F G 15 rfl c dX2_hearGrant_38 ?_
    refine lv_iconst (v := 1) F.1 F.2.1 dX2_hearGrant_39 (by decide) ?_
    refine lv_iadd F.1 F.2.1 dX2_hearGrant_40 ?_
    obtain ⟨c, h⟩ := op_g h
    obtain ⟨w_3, e9, h⟩ := op_st h
    refine k_iast F G 15 rfl c dX2_hearGrant_41 (Wn := (gW T aP aQ v w_3)) (by subst e9; rfl) (fun H locs G => ?_)
    clear e9
    obtain rfl := op_1 h
    exact k_vret F hr hlk G dX2_hearGrant_42
abbrev rmX2_hearPoll : Room := ({ frames := 0, cells := 0, slots := 0, locals := 0 } : Room)
noncomputable def qX2_hearPoll (v : Nat → Nat → Int32) (w : Nat → Nat → Int32) (x1 : Int32) : Option ((Nat → Nat → Int32)) :=
  (bs (va_up w 17 (fun _ => ((w 17 0) ||| (1 <<< (x1 &&& 31))))) fun w_1 => some w_1)

set_option maxHeartbeats 4000000 in
set_option maxRecDepth 100000 in
theorem mX2_hearPoll (l : Launch) (D : va_G) (T : Nat → ClassId) (aP : Nat → Nat) (aQ : Nat → Nat) (v : Nat → Nat → Int32) (w : Nat → Nat → Int32) (x1 : Int32) {wR : Nat → Nat → Int32} (hres : qX2_hearPoll v w x1 = some (wR)) : Ct l yX2_hearPoll (Cond.code yX2_hearPoll cX2_hearPoll 2 none :: kAll) rmX2_hearPoll D T [.ref (aQ 2), .int x1] (gW T aP aQ v w) none (gW T aP aQ v wR) := by
  refine Ct.of (cc := cX2_hearPoll) (maxL := 2) (ret := none) (by decide +kernel) rfl (Nat.le_of_ble_eq_true rfl) ?_
  intro pr en st mi ag bl me co A ls F hr hlk hnm G hl
  have hl : lv_has ls 2 [(0, .ref (aQ 2)), (1, .int x1)] := hl
  have h := hres
  unfold qX2_hearPoll at h
  refine lv_aload_n F.1 F.2.1 dX2_hearPoll_0 rfl (lv_at hl 0 rfl) ?_
  refine lv_dup F.1 F.2.1 dX2_hearPoll_1 rfl ?_
  refine k_get F G 11 rfl (N := 9) (Tt := TX2) rfl kf2 8 (by decide) kl78 (v := .int (w 17 0)) rfl dX2_hearPoll_2 ?_
  refine lv_iconst (v := 1) F.1 F.2.1 dX2_hearPoll_5 (by decide) ?_
  refine lv_iload_n F.1 F.2.1 dX2_hearPoll_6 rfl (lv_at hl 1 rfl) ?_
  refine lv_ishl F.1 F.2.1 dX2_hearPoll_7 ?_
  refine lv_ior F.1 F.2.1 dX2_hearPoll_8 ?_
  obtain ⟨w_1, e9, h⟩ := op_st h
  refine k_put F G 11 rfl (N := 9) (Tt := TX2) rfl kf2 tyX2_ok nmX2 8 (by decide) kl78 rfl (v := .int ((w 17 0) ||| (1 <<< (x1 &&& 31)))) rfl rfl (Nat.le_of_ble_eq_true rfl) dX2_hearPoll_9 (Wn := (gW T aP aQ v w_1)) (by subst e9; rfl) (fun H locs G => ?_)
  clear e9
  obtain rfl := op_1 h
  exact k_vret F hr hlk G dX2_hearPoll_12
abbrev rmX2_isDueToAsk : Room := ({ frames := 0, cells := 0, slots := 0, locals := 0 } : Room)
noncomputable def qX2_isDueToAsk (v : Nat → Nat → Int32) (w : Nat → Nat → Int32) (x1 : Int32) (x2 : Int32) (x3 : Int32) : Option (Int32) :=
  gd (vp_in x1 12) (if ((w 11) x1.toNatClampNeg) = 1 then gd (vp_in x1 12) (if ((w 15) x1.toNatClampNeg) = (-1) then some 1 else gd (vp_in x1 12) (if (x2 - ((w 15) x1.toNatClampNeg)) < x3 then some 0 else some 1)) else some 0)

set_option maxHeartbeats 4000000 in
set_option maxRecDepth 100000 in
theorem mX2_isDueToAsk (l : Launch) (D : va_G) (T : Nat → ClassId) (aP : Nat → Nat) (aQ : Nat → Nat) (v : Nat → Nat → Int32) (w : Nat → Nat → Int32) (x1 : Int32) (x2 : Int32) (x3 : Int32) {rR : Int32} (hres : qX2_isDueToAsk v w x1 x2 x3 = some (rR)) : Ct l yX2_isDueToAsk (Cond.code yX2_isDueToAsk cX2_isDueToAsk 4 (some .boolean) :: kAll) rmX2_isDueToAsk D T [.ref (aQ 2), .int x1, .int x2, .int x3] (gW T aP aQ v w) (some (.int rR)) (gW T aP aQ v w) := by
  refine Ct.of (cc := cX2_isDueToAsk) (maxL := 4) (ret := (some .boolean)) (by decide +kernel) rfl (Nat.le_of_ble_eq_true rfl) ?_
  intro pr en st mi ag bl me co A ls F hr hlk hnm G hl
  have hl : lv_has ls 4 [(0, .ref (aQ 2)), (1, .int x1), (2, .int x2), (3, .int x3)] := hl
  have h := hres
  unfold qX2_isDueToAsk at h
  refine lv_aload_n F.1 F.2.1 dX2_isDueToAsk_0 rfl (lv_at hl 0 rfl) ?_
  refine k_get F G 11 rfl (N := 9) (Tt := TX2) rfl kf2 2 (by decide) kl6 (v := .ref (aQ 4)) rfl dX2_isDueToAsk_1 ?_
  refine lv_iload_n F.1 F.2.1 dX2_isDueToAsk_4 rfl (lv_at hl 1 rfl) ?_
  obtain ⟨c, h⟩ := op_g h
  refine k_iald F G 13 rfl c dX2_isDueToAsk_5 ?_
  refine lv_iconst (v := 1) F.1 F.2.1 dX2_isDueToAsk_6 (by decide) ?_
  refine lv_icmp_ne (tgt := 36) F.1 F.2.1 dX2_isDueToAsk_7 (by decide) (fun c => ?_) (fun c => ?_)
  · have h := op_f h c
    refine lv_iconst (v := 0) F.1 F.2.1 dX2_isDueToAsk_36 (by decide) ?_
    obtain rfl := op_1 h
    exact k_zret F hr rfl hlk G dX2_isDueToAsk_37
  · have h := op_t h c
    refine lv_aload_n F.1 F.2.1 dX2_isDueToAsk_10 rfl (lv_at hl 0 rfl) ?_
    refine k_get F G 11 rfl (N := 9) (Tt := TX2) rfl kf2 6 (by decide) kl10 (v := .ref (aQ 8)) rfl dX2_isDueToAsk_11 ?_
    refine lv_iload_n F.1 F.2.1 dX2_isDueToAsk_14 rfl (lv_at hl 1 rfl) ?_
    obtain ⟨c, h⟩ := op_g h
    refine k_iald F G 17 rfl c dX2_isDueToAsk_15 ?_
    refine lv_iconst (v := (-1)) F.1 F.2.1 dX2_isDueToAsk_16 (by decide) ?_
    refine lv_icmp_eq (tgt := 32) F.1 F.2.1 dX2_isDueToAsk_17 (by decide) (fun c => ?_) (fun c => ?_)
    · have h := op_t h c
      refine lv_iconst (v := 1) F.1 F.2.1 dX2_isDueToAsk_32 (by decide) ?_
      refine lv_goto (tgt := 37) F.1 F.2.1 dX2_isDueToAsk_33 (by decide) ?_
      obtain rfl := op_1 h
      exact k_zret F hr rfl hlk G dX2_isDueToAsk_37
    · have h := op_f h c
      refine lv_iload_n F.1 F.2.1 dX2_isDueToAsk_20 rfl (lv_at hl 2 rfl) ?_
      refine lv_aload_n F.1 F.2.1 dX2_isDueToAsk_21 rfl (lv_at hl 0 rfl) ?_
      refine k_get F G 11 rfl (N := 9) (Tt := TX2) rfl kf2 6 (by decide) kl10 (v := .ref (aQ 8)) rfl dX2_isDueToAsk_22 ?_
      refine lv_iload_n F.1 F.2.1 dX2_isDueToAsk_25 rfl (lv_at hl 1 rfl) ?_
      obtain ⟨c, h⟩ := op_g h
      refine k_iald F G 17 rfl c dX2_isDueToAsk_26 ?_
      refine lv_isub F.1 F.2.1 dX2_isDueToAsk_27 ?_
      refine lv_iload_n F.1 F.2.1 dX2_isDueToAsk_28 rfl (lv_at hl 3 rfl) ?_
      refine lv_icmp_lt (tgt := 36) F.1 F.2.1 dX2_isDueToAsk_29 (by decide) (fun c => ?_) (fun c => ?_)
      · have h := op_t h c
        refine lv_iconst (v := 0) F.1 F.2.1 dX2_isDueToAsk_36 (by decide) ?_
        obtain rfl := op_1 h
        exact k_zret F hr rfl hlk G dX2_isDueToAsk_37
      · have h := op_f h c
        refine lv_iconst (v := 1) F.1 F.2.1 dX2_isDueToAsk_32 (by decide) ?_
        refine lv_goto (tgt := 37) F.1 F.2.1 dX2_isDueToAsk_33 (by decide) ?_
        obtain rfl := op_1 h
        exact k_zret F hr rfl hlk G dX2_isDueToAsk_37
abbrev rmX2_spendTick : Room := ({ frames := 0, cells := 0, slots := 0, locals := 0 } : Room)
noncomputable def qX2_spendTick_L2 (v : Nat → Nat → Int32) (K : (Nat → Nat → Int32) → Option ((Nat → Nat → Int32))) : Nat → Int32 → (Nat → Nat → Int32) → Option ((Nat → Nat → Int32))
  | 0, _, _ => none
  | n + 1, x1_1, w_2 =>
    if (v 0 0) ≤ x1_1 then (K w_2) else gd (vp_in x1_1 12) ((jn (fun (w_4 : Nat → Nat → Int32) => (qX2_spendTick_L2 v K n (x1_1 + 1) w_4)) fun j33 => if ((w_2 11) x1_1.toNatClampNeg) = 2 then gd (vp_in x1_1 12) (gd (vp_in x1_1 12) (bs (va_up w_2 12 (upd (w_2 12) x1_1.toNatClampNeg (((w_2 12) x1_1.toNatClampNeg) - 1))) fun w_5 => (j33 w_5))) else (j33 w_2)))

noncomputable def qX2_spendTick (v : Nat → Nat → Int32) (w : Nat → Nat → Int32) : Option ((Nat → Nat → Int32)) :=
  (qX2_spendTick_L2 v  (fun (w_3 : Nat → Nat → Int32) => some w_3) fu 0 w)

set_option maxHeartbeats 4000000 in
set_option maxRecDepth 100000 in
theorem mX2_spendTick (l : Launch) (D : va_G) (T : Nat → ClassId) (aP : Nat → Nat) (aQ : Nat → Nat) (v : Nat → Nat → Int32) (w : Nat → Nat → Int32) {wR : Nat → Nat → Int32} (hres : qX2_spendTick v w = some (wR)) : Ct l yX2_spendTick (Cond.code yX2_spendTick cX2_spendTick 2 none :: kAll) rmX2_spendTick D T [.ref (aQ 2)] (gW T aP aQ v w) none (gW T aP aQ v wR) := by
  refine Ct.of (cc := cX2_spendTick) (maxL := 2) (ret := none) (by decide +kernel) rfl (Nat.le_of_ble_eq_true rfl) ?_
  intro pr en st mi ag bl me co A ls F hr hlk hnm G hl
  have hl : lv_has ls 2 [(0, .ref (aQ 2))] := hl
  have h := hres
  unfold qX2_spendTick at h
  refine lv_iconst (v := 0) F.1 F.2.1 dX2_spendTick_0 (by decide) ?_
  refine lv_istore_n (lv' := [(1, .int 0), (0, .ref (aQ 2))]) F.1 F.2.1 dX2_spendTick_1 rfl hl (by decide) rfl (fun ls hl => ?_)
  have L2 : ∀ (v : Nat → Nat → Int32) (K : (Nat → Nat → Int32) → Option ((Nat → Nat → Int32))) (hK : ∀ (w_3 : Nat → Nat → Int32) (H : Heap) (locs : List Loc) (ls : Array Slot), K w_3 = some (wR) → Rg D T A st (gW T aP aQ v w_3) H locs → lv_has ls 2 [] → W pr l en rmX2_spendTick st mi ag bl me co H locs 0 0 (MQ bl (kQ none D (gW T aP aQ v wR) A) ag st rmX2_spendTick.cells rmX2_spendTick.slots A) (F0 mi 39 ls [])) (n : Nat) (x1_1 : Int32) (w_2 : Nat → Nat → Int32) (H : Heap) (locs : List Loc) (ls : Array Slot), qX2_spendTick_L2 v K n x1_1 w_2 = some (wR) → Rg D T A st (gW T aP aQ v w_2) H locs → lv_has ls 2 [(0, .ref (aQ 2)), (1, .int x1_1)] → W pr l en rmX2_spendTick st mi ag bl me co H locs 0 0 (MQ bl (kQ none D (gW T aP aQ v wR) A) ag st rmX2_spendTick.cells rmX2_spendTick.slots A) (F0 mi 2 ls []) := by
    intro v K hK n
    induction n with
    | zero => intro x1_1 w_2 H locs ls h; exact op_n h
    | succ n ih =>
      intro x1_1 w_2 H locs ls h G hl
      rw [qX2_spendTick_L2] at h
      refine lv_iload_n F.1 F.2.1 dX2_spendTick_2 rfl (lv_at hl 1 rfl) ?_
      refine lv_aload_n F.1 F.2.1 dX2_spendTick_3 rfl (lv_at hl 0 rfl) ?_
      refine k_get F G 11 rfl (N := 9) (Tt := TX2) rfl kf2 0 (by decide) kl11 (v := .ref (aP 0)) rfl dX2_spendTick_4 ?_
      refine k_get F G 0 rfl (N := 18) (Tt := TX5) rfl kf5 0 (by decide) kl134 (v := .int (v 0 0)) rfl dX2_spendTick_7 ?_
      refine lv_icmp_ge (tgt := 39) F.1 F.2.1 dX2_spendTick_10 (by decide) (fun c => ?_) (fun c => ?_)
      · have h := op_t h c
        exact hK w_2 _ _ _ h G (lv_sub hl [] rfl)
      · have h := op_f h c
        refine lv_aload_n F.1 F.2.1 dX2_spendTick_13 rfl (lv_at hl 0 rfl) ?_
        refine k_get F G 11 rfl (N := 9) (Tt := TX2) rfl kf2 2 (by decide) kl6 (v := .ref (aQ 4)) rfl dX2_spendTick_14 ?_
        refine lv_iload_n F.1 F.2.1 dX2_spendTick_17 rfl (lv_at hl 1 rfl) ?_
        obtain ⟨c, h⟩ := op_g h
        refine k_iald F G 13 rfl c dX2_spendTick_18 ?_
        refine lv_iconst (v := 2) F.1 F.2.1 dX2_spendTick_19 (by decide) ?_
        obtain ⟨j33, hj33, h⟩ := op_j h
        have J33 : ∀ (w_4 : Nat → Nat → Int32) (H : Heap) (locs : List Loc) (ls : Array Slot), j33 w_4 = some (wR) → Rg D T A st (gW T aP aQ v w_4) H locs → lv_has ls 2 [(0, .ref (aQ 2)), (1, .int x1_1)] → W pr l en rmX2_spendTick st mi ag bl me co H locs 0 0 (MQ bl (kQ none D (gW T aP aQ v wR) A) ag st rmX2_spendTick.cells rmX2_spendTick.slots A) (F0 mi 33 ls []) := by
          intro w_4 H locs ls h G hl
          rw [hj33] at h
          refine lv_iinc (v := (x1_1 + 1)) (lv' := [(1, .int (x1_1 + 1)), (0, .ref (aQ 2))]) F.1 F.2.1 dX2_spendTick_33 hl (k := 1) rfl rfl (by decide) rfl (fun ls hl => ?_)
          refine lv_goto (tgt := 2) F.1 F.2.1 dX2_spendTick_36 (by decide) ?_
          exact ih (x1_1 + 1) w_4 _ _ _ h G (lv_sub hl [1, 0] rfl)
        clear hj33
        refine lv_icmp_ne (tgt := 33) F.1 F.2.1 dX2_spendTick_20 (by decide) (fun c => ?_) (fun c => ?_)
        · have h := op_f h c
          exact J33 w_2 _ _ _ h G hl
        · have h := op_t h c
          refine lv_aload_n F.1 F.2.1 dX2_spendTick_23 rfl (lv_at hl 0 rfl) ?_
          refine k_get F G 11 rfl (N := 9) (Tt := TX2) rfl kf2 3 (by decide) kl7 (v := .ref (aQ 5)) rfl dX2_spendTick_24 ?_
          refine lv_iload_n F.1 F.2.1 dX2_spendTick_27 rfl (lv_at hl 1 rfl) ?_
          refine lv_dup2_11 F.1 F.2.1 dX2_spendTick_28 rfl rfl ?_
          obtain ⟨c, h⟩ := op_g h
          refine k_iald F G 14 rfl c dX2_spendTick_29 ?_
          refine lv_iconst (v := 1) F.1 F.2.1 dX2_spendTick_30 (by decide) ?_
          refine lv_isub F.1 F.2.1 dX2_spendTick_31 ?_
          obtain ⟨c, h⟩ := op_g h
          obtain ⟨w_5, e9, h⟩ := op_st h
          refine k_iast F G 14 rfl c dX2_spendTick_32 (Wn := (gW T aP aQ v w_5)) (by subst e9; rfl) (fun H locs G => ?_)
          clear e9
          exact J33 w_5 _ _ _ h G hl
  refine L2 v  _ (fun w_3 H locs ls h G hl => ?_) fu 0 w _ _ _ h G (lv_sub hl [1, 0] rfl)
  clear L2
  obtain rfl := op_1 h
  exact k_vret F hr hlk G dX2_spendTick_39
