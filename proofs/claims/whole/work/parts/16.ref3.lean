abbrev rmX11_begins : Room := ({ frames := 1, cells := 0, slots := 0, locals := 21 } : Room)
noncomputable def qX11_begins_L34 (K : (Nat → Nat → Int32) → Option ((Nat → Nat → Int32))) : Nat → Int32 → (Nat → Nat → Int32) → Option ((Nat → Nat → Int32))
  | 0, _, _ => none
  | n + 1, x1_5, z_6 =>
    if 48 ≤ x1_5 then (K z_6) else gd (vp_in x1_5 48) (gd (vp_in x1_5 48) (bs (va_up z_6 5 (upd (z_6 5) x1_5.toNatClampNeg ((z_6 18) x1_5.toNatClampNeg))) fun z_8 => (qX11_begins_L34 K n (x1_5 + 1) z_8)))

noncomputable def qX11_begins_L60 (K : (Nat → Nat → Int32) → Option ((Nat → Nat → Int32))) : Nat → Int32 → (Nat → Nat → Int32) → Option ((Nat → Nat → Int32))
  | 0, _, _ => none
  | n + 1, x1_9, z_10 =>
    if 12 ≤ x1_9 then (K z_10) else gd (vp_in x1_9 12) (gd (vp_in x1_9 12) (bs (va_up z_10 6 (upd (z_10 6) x1_9.toNatClampNeg ((z_10 19) x1_9.toNatClampNeg))) fun z_12 => (qX11_begins_L60 K n (x1_9 + 1) z_12)))

noncomputable def qX11_begins_L86 (K : (Nat → Nat → Int32) → Option ((Nat → Nat → Int32))) : Nat → Int32 → (Nat → Nat → Int32) → Option ((Nat → Nat → Int32))
  | 0, _, _ => none
  | n + 1, x1_13, z_14 =>
    if 24 ≤ x1_13 then (K z_14) else gd (vp_in x1_13 24) (gd (vp_in x1_13 24) (bs (va_up z_14 7 (upd (z_14 7) x1_13.toNatClampNeg ((z_14 20) x1_13.toNatClampNeg))) fun z_16 => (qX11_begins_L86 K n (x1_13 + 1) z_16)))

noncomputable def qX11_begins_L112 (K : (Nat → Nat → Int32) → Option ((Nat → Nat → Int32))) : Nat → Int32 → (Nat → Nat → Int32) → Option ((Nat → Nat → Int32))
  | 0, _, _ => none
  | n + 1, x1_17, z_18 =>
    if 8 ≤ x1_17 then (K z_18) else gd (vp_in x1_17 8) (gd (vp_in x1_17 8) (bs (va_up z_18 8 (upd (z_18 8) x1_17.toNatClampNeg ((z_18 21) x1_17.toNatClampNeg))) fun z_20 => (qX11_begins_L112 K n (x1_17 + 1) z_20)))

noncomputable def qX11_begins_L138 (K : (Nat → Nat → Int32) → Option ((Nat → Nat → Int32))) : Nat → Int32 → (Nat → Nat → Int32) → Option ((Nat → Nat → Int32))
  | 0, _, _ => none
  | n + 1, x1_21, z_22 =>
    if 96 ≤ x1_21 then (K z_22) else gd (vp_in x1_21 96) (gd (vp_in x1_21 96) (bs (va_up z_22 9 (upd (z_22 9) x1_21.toNatClampNeg ((z_22 22) x1_21.toNatClampNeg))) fun z_24 => (qX11_begins_L138 K n (x1_21 + 1) z_24)))

noncomputable def qX11_begins_L164 (K : (Nat → Nat → Int32) → Option ((Nat → Nat → Int32))) : Nat → Int32 → (Nat → Nat → Int32) → Option ((Nat → Nat → Int32))
  | 0, _, _ => none
  | n + 1, x1_25, z_26 =>
    if 411 ≤ x1_25 then (K z_26) else gd (vp_in x1_25 411) (gd (vp_in x1_25 411) (bs (va_up z_26 10 (upd (z_26 10) x1_25.toNatClampNeg ((z_26 17) x1_25.toNatClampNeg))) fun z_28 => (qX11_begins_L164 K n (x1_25 + 1) z_28)))

noncomputable def qX11_begins_L191 (K : (Nat → Nat → Int32) → Option ((Nat → Nat → Int32))) : Nat → Int32 → (Nat → Nat → Int32) → Option ((Nat → Nat → Int32))
  | 0, _, _ => none
  | n + 1, x1_29, z_30 =>
    if (z_30 1 0) ≤ x1_29 then (K z_30) else bd (qX11_at x1_29 2) fun r_32 => bd (qX11_at x1_29 1) fun r_33 => gd (vp_in r_33 411) (gd (vp_in r_32 411) (bs (va_up z_30 10 (upd (z_30 10) r_32.toNatClampNeg ((z_30 10) r_33.toNatClampNeg))) fun z_34 => bd (qX11_at x1_29 5) fun r_35 => gd (vp_in r_35 411) (bs (va_up z_34 10 (upd (z_34 10) r_35.toNatClampNeg (-1))) fun z_36 => bd (qX11_at x1_29 6) fun r_37 => gd (vp_in r_37 411) (bs (va_up z_36 10 (upd (z_36 10) r_37.toNatClampNeg (-1))) fun z_38 => (qX11_begins_L191 K n (x1_29 + 1) z_38)))))

noncomputable def qX11_begins (z : Nat → Nat → Int32) : Option ((Nat → Nat → Int32)) :=
  (bs (va_up z 1 (fun _ => (z 30 0))) fun z_1 => (bs (va_up z_1 2 (fun _ => (z_1 31 0))) fun z_2 => (bs (va_up z_2 3 (fun _ => (z_2 32 0))) fun z_3 => (bs (va_up z_3 4 (fun _ => (z_3 33 0))) fun z_4 => (qX11_begins_L34   (fun (z_7 : Nat → Nat → Int32) => (qX11_begins_L60   (fun (z_11 : Nat → Nat → Int32) => (qX11_begins_L86   (fun (z_15 : Nat → Nat → Int32) => (qX11_begins_L112   (fun (z_19 : Nat → Nat → Int32) => (qX11_begins_L138   (fun (z_23 : Nat → Nat → Int32) => (qX11_begins_L164   (fun (z_27 : Nat → Nat → Int32) => (qX11_begins_L191   (fun (z_31 : Nat → Nat → Int32) => (bs (va_up z_31 15 (fun _ => 0)) fun z_39 => (bs (va_up z_39 14 (upd (z_39 14) 0 (vp_nar .boolean 0))) fun z_40 => (bs (va_up z_40 14 (upd (z_40 14) 1 (vp_nar .boolean 0))) fun z_41 => some z_41)))) fu 0 z_27)) fu 0 z_23)) fu 0 z_19)) fu 0 z_15)) fu 0 z_11)) fu 0 z_7)) fu 0 z_4)))))

set_option maxHeartbeats 4000000 in
set_option maxRecDepth 100000 in
theorem mX11_begins (l : Launch) (D : va_G) (T : Nat → ClassId) (aM : Nat → Nat) (z : Nat → Nat → Int32) {zR : Nat → Nat → Int32} (hres : qX11_begins z = some (zR)) : Ct l yX11_begins (Cond.code yX11_begins cX11_begins 2 none :: kAll) rmX11_begins D T [.ref (aM 0)] (gM T aM z) none (gM T aM zR) := by
  refine Ct.of (cc := cX11_begins) (maxL := 2) (ret := none) (by decide +kernel) rfl (Nat.le_of_ble_eq_true rfl) ?_
  intro pr en st mi ag bl me co A ls F hr hlk hnm G hl
  have hl : lv_has ls 2 [(0, .ref (aM 0))] := hl
  have h := hres
  unfold qX11_begins at h
  refine lv_aload_n F.1 F.2.1 dX11_begins_0 rfl (lv_at hl 0 rfl) ?_
  refine lv_aload_n F.1 F.2.1 dX11_begins_1 rfl (lv_at hl 0 rfl) ?_
  refine k_get F G 0 rfl (N := 35) (Tt := TX11) rfl kf11 30 (by decide) kl762 (v := .int (z 30 0)) rfl dX11_begins_2 ?_
  obtain ⟨z_1, e9, h⟩ := op_st h
  refine k_put F G 0 rfl (N := 35) (Tt := TX11) rfl kf11 tyX11_ok nmX11 1 (by decide) kl769 rfl (v := .int (z 30 0)) rfl rfl (Nat.le_of_ble_eq_true rfl) dX11_begins_5 (Wn := (gM T aM z_1)) (by subst e9; rfl) (fun H locs G => ?_)
  clear e9
  refine lv_aload_n F.1 F.2.1 dX11_begins_8 rfl (lv_at hl 0 rfl) ?_
  refine lv_aload_n F.1 F.2.1 dX11_begins_9 rfl (lv_at hl 0 rfl) ?_
  refine k_get F G 0 rfl (N := 35) (Tt := TX11) rfl kf11 31 (by decide) kl763 (v := .int (z_1 31 0)) rfl dX11_begins_10 ?_
  obtain ⟨z_2, e9, h⟩ := op_st h
  refine k_put F G 0 rfl (N := 35) (Tt := TX11) rfl kf11 tyX11_ok nmX11 2 (by decide) kl770 rfl (v := .int (z_1 31 0)) rfl rfl (Nat.le_of_ble_eq_true rfl) dX11_begins_13 (Wn := (gM T aM z_2)) (by subst e9; rfl) (fun H locs G => ?_)
  clear e9
  refine lv_aload_n F.1 F.2.1 dX11_begins_16 rfl (lv_at hl 0 rfl) ?_
  refine lv_aload_n F.1 F.2.1 dX11_begins_17 rfl (lv_at hl 0 rfl) ?_
  refine k_get F G 0 rfl (N := 35) (Tt := TX11) rfl kf11 32 (by decide) kl764 (v := .int (z_2 32 0)) rfl dX11_begins_18 ?_
  obtain ⟨z_3, e9, h⟩ := op_st h
  refine k_put F G 0 rfl (N := 35) (Tt := TX11) rfl kf11 tyX11_ok nmX11 3 (by decide) kl771 rfl (v := .int (z_2 32 0)) rfl rfl (Nat.le_of_ble_eq_true rfl) dX11_begins_21 (Wn := (gM T aM z_3)) (by subst e9; rfl) (fun H locs G => ?_)
  clear e9
  refine lv_aload_n F.1 F.2.1 dX11_begins_24 rfl (lv_at hl 0 rfl) ?_
  refine lv_aload_n F.1 F.2.1 dX11_begins_25 rfl (lv_at hl 0 rfl) ?_
  refine k_get F G 0 rfl (N := 35) (Tt := TX11) rfl kf11 33 (by decide) kl765 (v := .int (z_3 33 0)) rfl dX11_begins_26 ?_
  obtain ⟨z_4, e9, h⟩ := op_st h
  refine k_put F G 0 rfl (N := 35) (Tt := TX11) rfl kf11 tyX11_ok nmX11 4 (by decide) kl772 rfl (v := .int (z_3 33 0)) rfl rfl (Nat.le_of_ble_eq_true rfl) dX11_begins_29 (Wn := (gM T aM z_4)) (by subst e9; rfl) (fun H locs G => ?_)
  clear e9
  refine lv_iconst (v := 0) F.1 F.2.1 dX11_begins_32 (by decide) ?_
  refine lv_istore_n (lv' := [(1, .int 0), (0, .ref (aM 0))]) F.1 F.2.1 dX11_begins_33 rfl hl (by decide) rfl (fun ls hl => ?_)
  have L34 : ∀ (K : (Nat → Nat → Int32) → Option ((Nat → Nat → Int32))) (hK : ∀ (z_7 : Nat → Nat → Int32) (H : Heap) (locs : List Loc) (ls : Array Slot), K z_7 = some (zR) → Rg D T A st (gM T aM z_7) H locs → lv_has ls 2 [(0, .ref (aM 0))] → W pr l en rmX11_begins st mi ag bl me co H locs 0 0 (MQ bl (kQ none D (gM T aM zR) A) ag st rmX11_begins.cells rmX11_begins.slots A) (F0 mi 58 ls [])) (n : Nat) (x1_5 : Int32) (z_6 : Nat → Nat → Int32) (H : Heap) (locs : List Loc) (ls : Array Slot), qX11_begins_L34 K n x1_5 z_6 = some (zR) → Rg D T A st (gM T aM z_6) H locs → lv_has ls 2 [(0, .ref (aM 0)), (1, .int x1_5)] → W pr l en rmX11_begins st mi ag bl me co H locs 0 0 (MQ bl (kQ none D (gM T aM zR) A) ag st rmX11_begins.cells rmX11_begins.slots A) (F0 mi 34 ls []) := by
    intro K hK n
    induction n with
    | zero => intro x1_5 z_6 H locs ls h; exact op_n h
    | succ n ih =>
      intro x1_5 z_6 H locs ls h G hl
      rw [qX11_begins_L34] at h
      refine lv_iload_n F.1 F.2.1 dX11_begins_34 rfl (lv_at hl 1 rfl) ?_
      refine lv_bipush (v := 48) F.1 F.2.1 dX11_begins_35 (by decide) ?_
      refine lv_icmp_ge (tgt := 58) F.1 F.2.1 dX11_begins_37 (by decide) (fun c => ?_) (fun c => ?_)
      · have h := op_t h c
        exact hK z_6 _ _ _ h G (lv_sub hl [0] rfl)
      · have h := op_f h c
        refine lv_aload_n F.1 F.2.1 dX11_begins_40 rfl (lv_at hl 0 rfl) ?_
        refine k_get F G 0 rfl (N := 35) (Tt := TX11) rfl kf11 5 (by decide) kl773 (v := .ref (aM 1)) rfl dX11_begins_41 ?_
        refine lv_iload_n F.1 F.2.1 dX11_begins_44 rfl (lv_at hl 1 rfl) ?_
        refine lv_aload_n F.1 F.2.1 dX11_begins_45 rfl (lv_at hl 0 rfl) ?_
        refine k_get F G 0 rfl (N := 35) (Tt := TX11) rfl kf11 18 (by decide) kl774 (v := .ref (aM 13)) rfl dX11_begins_46 ?_
        refine lv_iload_n F.1 F.2.1 dX11_begins_49 rfl (lv_at hl 1 rfl) ?_
        obtain ⟨c, h⟩ := op_g h
        refine k_iald F G 13 rfl c dX11_begins_50 ?_
        obtain ⟨c, h⟩ := op_g h
        obtain ⟨z_8, e9, h⟩ := op_st h
        refine k_iast F G 1 rfl c dX11_begins_51 (Wn := (gM T aM z_8)) (by subst e9; rfl) (fun H locs G => ?_)
        clear e9
        refine lv_iinc (v := (x1_5 + 1)) (lv' := [(1, .int (x1_5 + 1)), (0, .ref (aM 0))]) F.1 F.2.1 dX11_begins_52 hl (k := 1) rfl rfl (by decide) rfl (fun ls hl => ?_)
        refine lv_goto (tgt := 34) F.1 F.2.1 dX11_begins_55 (by decide) ?_
        exact ih (x1_5 + 1) z_8 _ _ _ h G (lv_sub hl [1, 0] rfl)
  refine L34   _ (fun z_7 H locs ls h G hl => ?_) fu 0 z_4 _ _ _ h G (lv_sub hl [1, 0] rfl)
  clear L34
  refine lv_iconst (v := 0) F.1 F.2.1 dX11_begins_58 (by decide) ?_
  refine lv_istore_n (lv' := [(1, .int 0), (0, .ref (aM 0))]) F.1 F.2.1 dX11_begins_59 rfl hl (by decide) rfl (fun ls hl => ?_)
  have L60 : ∀ (K : (Nat → Nat → Int32) → Option ((Nat → Nat → Int32))) (hK : ∀ (z_11 : Nat → Nat → Int32) (H : Heap) (locs : List Loc) (ls : Array Slot), K z_11 = some (zR) → Rg D T A st (gM T aM z_11) H locs → lv_has ls 2 [(0, .ref (aM 0))] → W pr l en rmX11_begins st mi ag bl me co H locs 0 0 (MQ bl (kQ none D (gM T aM zR) A) ag st rmX11_begins.cells rmX11_begins.slots A) (F0 mi 84 ls [])) (n : Nat) (x1_9 : Int32) (z_10 : Nat → Nat → Int32) (H : Heap) (locs : List Loc) (ls : Array Slot), qX11_begins_L60 K n x1_9 z_10 = some (zR) → Rg D T A st (gM T aM z_10) H locs → lv_has ls 2 [(0, .ref (aM 0)), (1, .int x1_9)] → W pr l en rmX11_begins st mi ag bl me co H locs 0 0 (MQ bl (kQ none D (gM T aM zR) A) ag st rmX11_begins.cells rmX11_begins.slots A) (F0 mi 60 ls []) := by
    intro K hK n
    induction n with
    | zero => intro x1_9 z_10 H locs ls h; exact op_n h
    | succ n ih =>
      intro x1_9 z_10 H locs ls h G hl
      rw [qX11_begins_L60] at h
      refine lv_iload_n F.1 F.2.1 dX11_begins_60 rfl (lv_at hl 1 rfl) ?_
      refine lv_bipush (v := 12) F.1 F.2.1 dX11_begins_61 (by decide) ?_
      refine lv_icmp_ge (tgt := 84) F.1 F.2.1 dX11_begins_63 (by decide) (fun c => ?_) (fun c => ?_)
      · have h := op_t h c
        exact hK z_10 _ _ _ h G (lv_sub hl [0] rfl)
      · have h := op_f h c
        refine lv_aload_n F.1 F.2.1 dX11_begins_66 rfl (lv_at hl 0 rfl) ?_
        refine k_get F G 0 rfl (N := 35) (Tt := TX11) rfl kf11 6 (by decide) kl775 (v := .ref (aM 2)) rfl dX11_begins_67 ?_
        refine lv_iload_n F.1 F.2.1 dX11_begins_70 rfl (lv_at hl 1 rfl) ?_
        refine lv_aload_n F.1 F.2.1 dX11_begins_71 rfl (lv_at hl 0 rfl) ?_
        refine k_get F G 0 rfl (N := 35) (Tt := TX11) rfl kf11 19 (by decide) kl776 (v := .ref (aM 14)) rfl dX11_begins_72 ?_
        refine lv_iload_n F.1 F.2.1 dX11_begins_75 rfl (lv_at hl 1 rfl) ?_
        obtain ⟨c, h⟩ := op_g h
        refine k_iald F G 14 rfl c dX11_begins_76 ?_
        obtain ⟨c, h⟩ := op_g h
        obtain ⟨z_12, e9, h⟩ := op_st h
        refine k_iast F G 2 rfl c dX11_begins_77 (Wn := (gM T aM z_12)) (by subst e9; rfl) (fun H locs G => ?_)
        clear e9
        refine lv_iinc (v := (x1_9 + 1)) (lv' := [(1, .int (x1_9 + 1)), (0, .ref (aM 0))]) F.1 F.2.1 dX11_begins_78 hl (k := 1) rfl rfl (by decide) rfl (fun ls hl => ?_)
        refine lv_goto (tgt := 60) F.1 F.2.1 dX11_begins_81 (by decide) ?_
        exact ih (x1_9 + 1) z_12 _ _ _ h G (lv_sub hl [1, 0] rfl)
  refine L60   _ (fun z_11 H locs ls h G hl => ?_) fu 0 z_7 _ _ _ h G (lv_sub hl [1, 0] rfl)
  clear L60
  refine lv_iconst (v := 0) F.1 F.2.1 dX11_begins_84 (by decide) ?_
  refine lv_istore_n (lv' := [(1, .int 0), (0, .ref (aM 0))]) F.1 F.2.1 dX11_begins_85 rfl hl (by decide) rfl (fun ls hl => ?_)
  have L86 : ∀ (K : (Nat → Nat → Int32) → Option ((Nat → Nat → Int32))) (hK : ∀ (z_15 : Nat → Nat → Int32) (H : Heap) (locs : List Loc) (ls : Array Slot), K z_15 = some (zR) → Rg D T A st (gM T aM z_15) H locs → lv_has ls 2 [(0, .ref (aM 0))] → W pr l en rmX11_begins st mi ag bl me co H locs 0 0 (MQ bl (kQ none D (gM T aM zR) A) ag st rmX11_begins.cells rmX11_begins.slots A) (F0 mi 110 ls [])) (n : Nat) (x1_13 : Int32) (z_14 : Nat → Nat → Int32) (H : Heap) (locs : List Loc) (ls : Array Slot), qX11_begins_L86 K n x1_13 z_14 = some (zR) → Rg D T A st (gM T aM z_14) H locs → lv_has ls 2 [(0, .ref (aM 0)), (1, .int x1_13)] → W pr l en rmX11_begins st mi ag bl me co H locs 0 0 (MQ bl (kQ none D (gM T aM zR) A) ag st rmX11_begins.cells rmX11_begins.slots A) (F0 mi 86 ls []) := by
    intro K hK n
    induction n with
    | zero => intro x1_13 z_14 H locs ls h; exact op_n h
    | succ n ih =>
      intro x1_13 z_14 H locs ls h G hl
      rw [qX11_begins_L86] at h
      refine lv_iload_n F.1 F.2.1 dX11_begins_86 rfl (lv_at hl 1 rfl) ?_
      refine lv_bipush (v := 24) F.1 F.2.1 dX11_begins_87 (by decide) ?_
      refine lv_icmp_ge (tgt := 110) F.1 F.2.1 dX11_begins_89 (by decide) (fun c => ?_) (fun c => ?_)
      · have h := op_t h c
        exact hK z_14 _ _ _ h G (lv_sub hl [0] rfl)
      · have h := op_f h c
        refine lv_aload_n F.1 F.2.1 dX11_begins_92 rfl (lv_at hl 0 rfl) ?_
        refine k_get F G 0 rfl (N := 35) (Tt := TX11) rfl kf11 7 (by decide) kl777 (v := .ref (aM 3)) rfl dX11_begins_93 ?_
        refine lv_iload_n F.1 F.2.1 dX11_begins_96 rfl (lv_at hl 1 rfl) ?_
        refine lv_aload_n F.1 F.2.1 dX11_begins_97 rfl (lv_at hl 0 rfl) ?_
        refine k_get F G 0 rfl (N := 35) (Tt := TX11) rfl kf11 20 (by decide) kl778 (v := .ref (aM 15)) rfl dX11_begins_98 ?_
        refine lv_iload_n F.1 F.2.1 dX11_begins_101 rfl (lv_at hl 1 rfl) ?_
        obtain ⟨c, h⟩ := op_g h
        refine k_iald F G 15 rfl c dX11_begins_102 ?_
        obtain ⟨c, h⟩ := op_g h
        obtain ⟨z_16, e9, h⟩ := op_st h
        refine k_iast F G 3 rfl c dX11_begins_103 (Wn := (gM T aM z_16)) (by subst e9; rfl) (fun H locs G => ?_)
        clear e9
        refine lv_iinc (v := (x1_13 + 1)) (lv' := [(1, .int (x1_13 + 1)), (0, .ref (aM 0))]) F.1 F.2.1 dX11_begins_104 hl (k := 1) rfl rfl (by decide) rfl (fun ls hl => ?_)
        refine lv_goto (tgt := 86) F.1 F.2.1 dX11_begins_107 (by decide) ?_
        exact ih (x1_13 + 1) z_16 _ _ _ h G (lv_sub hl [1, 0] rfl)
  refine L86   _ (fun z_15 H locs ls h G hl => ?_) fu 0 z_11 _ _ _ h G (lv_sub hl [1, 0] rfl)
  clear L86
  refine lv_iconst (v := 0) F.1 F.2.1 dX11_begins_110 (by decide) ?_
  refine lv_istore_n (lv' := [(1, .int 0), (0, .ref (aM 0))]) F.1 F.2.1 dX11_begins_111 rfl hl (by decide) rfl (fun ls hl => ?_)
  have L112 : ∀ (K : (Nat → Nat → Int32) → Option ((Nat → Nat → Int32))) (hK : ∀ (z_19 : Nat → Nat → Int32) (H : Heap) (locs : List Loc) (ls : Array Slot), K z_19 = some (zR) → Rg D T A st (gM T aM z_19) H locs → lv_has ls 2 [(0, .ref (aM 0))] → W pr l en rmX11_begins st mi ag bl me co H locs 0 0 (MQ bl (kQ none D (gM T aM zR) A) ag st rmX11_begins.cells rmX11_begins.slots A) (F0 mi 136 ls [])) (n : Nat) (x1_17 : Int32) (z_18 : Nat → Nat → Int32) (H : Heap) (locs : List Loc) (ls : Array Slot), qX11_begins_L112 K n x1_17 z_18 = some (zR) → Rg D T A st (gM T aM z_18) H locs → lv_has ls 2 [(0, .ref (aM 0)), (1, .int x1_17)] → W pr l en rmX11_begins st mi ag bl me co H locs 0 0 (MQ bl (kQ none D (gM T aM zR) A) ag st rmX11_begins.cells rmX11_begins.slots A) (F0 mi 112 ls []) := by
    intro K hK n
    induction n with
    | zero => intro x1_17 z_18 H locs ls h; exact op_n h
    | succ n ih =>
      intro x1_17 z_18 H locs ls h G hl
      rw [qX11_begins_L112] at h
      refine lv_iload_n F.1 F.2.1 dX11_begins_112 rfl (lv_at hl 1 rfl) ?_
      refine lv_bipush (v := 8) F.1 F.2.1 dX11_begins_113 (by decide) ?_
      refine lv_icmp_ge (tgt := 136) F.1 F.2.1 dX11_begins_115 (by decide) (fun c => ?_) (fun c => ?_)
      · have h := op_t h c
        exact hK z_18 _ _ _ h G (lv_sub hl [0] rfl)
      · have h := op_f h c
        refine lv_aload_n F.1 F.2.1 dX11_begins_118 rfl (lv_at hl 0 rfl) ?_
        refine k_get F G 0 rfl (N := 35) (Tt := TX11) rfl kf11 8 (by decide) kl779 (v := .ref (aM 4)) rfl dX11_begins_119 ?_
        refine lv_iload_n F.1 F.2.1 dX11_begins_122 rfl (lv_at hl 1 rfl) ?_
        refine lv_aload_n F.1 F.2.1 dX11_begins_123 rfl (lv_at hl 0 rfl) ?_
        refine k_get F G 0 rfl (N := 35) (Tt := TX11) rfl kf11 21 (by decide) kl780 (v := .ref (aM 16)) rfl dX11_begins_124 ?_
        refine lv_iload_n F.1 F.2.1 dX11_begins_127 rfl (lv_at hl 1 rfl) ?_
        obtain ⟨c, h⟩ := op_g h
        refine k_iald F G 16 rfl c dX11_begins_128 ?_
        obtain ⟨c, h⟩ := op_g h
        obtain ⟨z_20, e9, h⟩ := op_st h
        refine k_iast F G 4 rfl c dX11_begins_129 (Wn := (gM T aM z_20)) (by subst e9; rfl) (fun H locs G => ?_)
        clear e9
        refine lv_iinc (v := (x1_17 + 1)) (lv' := [(1, .int (x1_17 + 1)), (0, .ref (aM 0))]) F.1 F.2.1 dX11_begins_130 hl (k := 1) rfl rfl (by decide) rfl (fun ls hl => ?_)
        refine lv_goto (tgt := 112) F.1 F.2.1 dX11_begins_133 (by decide) ?_
        exact ih (x1_17 + 1) z_20 _ _ _ h G (lv_sub hl [1, 0] rfl)
  refine L112   _ (fun z_19 H locs ls h G hl => ?_) fu 0 z_15 _ _ _ h G (lv_sub hl [1, 0] rfl)
  clear L112
  refine lv_iconst (v := 0) F.1 F.2.1 dX11_begins_136 (by decide) ?_
  refine lv_istore_n (lv' := [(1, .int 0), (0, .ref (aM 0))]) F.1 F.2.1 dX11_begins_137 rfl hl (by decide) rfl (fun ls hl => ?_)
  have L138 : ∀ (K : (Nat → Nat → Int32) → Option ((Nat → Nat → Int32))) (hK : ∀ (z_23 : Nat → Nat → Int32) (H : Heap) (locs : List Loc) (ls : Array Slot), K z_23 = some (zR) → Rg D T A st (gM T aM z_23) H locs → lv_has ls 2 [(0, .ref (aM 0))] → W pr l en rmX11_begins st mi ag bl me co H locs 0 0 (MQ bl (kQ none D (gM T aM zR) A) ag st rmX11_begins.cells rmX11_begins.slots A) (F0 mi 162 ls [])) (n : Nat) (x1_21 : Int32) (z_22 : Nat → Nat → Int32) (H : Heap) (locs : List Loc) (ls : Array Slot), qX11_begins_L138 K n x1_21 z_22 = some (zR) → Rg D T A st (gM T aM z_22) H locs → lv_has ls 2 [(0, .ref (aM 0)), (1, .int x1_21)] → W pr l en rmX11_begins st mi ag bl me co H locs 0 0 (MQ bl (kQ none D (gM T aM zR) A) ag st rmX11_begins.cells rmX11_begins.slots A) (F0 mi 138 ls []) := by
    intro K hK n
    induction n with
    | zero => intro x1_21 z_22 H locs ls h; exact op_n h
    | succ n ih =>
      intro x1_21 z_22 H locs ls h G hl
      rw [qX11_begins_L138] at h
      refine lv_iload_n F.1 F.2.1 dX11_begins_138 rfl (lv_at hl 1 rfl) ?_
      refine lv_bipush (v := 96) F.1 F.2.1 dX11_begins_139 (by decide) ?_
      refine lv_icmp_ge (tgt := 162) F.1 F.2.1 dX11_begins_141 (by decide) (fun c => ?_) (fun c => ?_)
      · have h := op_t h c
        exact hK z_22 _ _ _ h G (lv_sub hl [0] rfl)
      · have h := op_f h c
        refine lv_aload_n F.1 F.2.1 dX11_begins_144 rfl (lv_at hl 0 rfl) ?_
        refine k_get F G 0 rfl (N := 35) (Tt := TX11) rfl kf11 9 (by decide) kl781 (v := .ref (aM 5)) rfl dX11_begins_145 ?_
        refine lv_iload_n F.1 F.2.1 dX11_begins_148 rfl (lv_at hl 1 rfl) ?_
        refine lv_aload_n F.1 F.2.1 dX11_begins_149 rfl (lv_at hl 0 rfl) ?_
        refine k_get F G 0 rfl (N := 35) (Tt := TX11) rfl kf11 22 (by decide) kl782 (v := .ref (aM 17)) rfl dX11_begins_150 ?_
        refine lv_iload_n F.1 F.2.1 dX11_begins_153 rfl (lv_at hl 1 rfl) ?_
        obtain ⟨c, h⟩ := op_g h
        refine k_iald F G 17 rfl c dX11_begins_154 ?_
        obtain ⟨c, h⟩ := op_g h
        obtain ⟨z_24, e9, h⟩ := op_st h
        refine k_iast F G 5 rfl c dX11_begins_155 (Wn := (gM T aM z_24)) (by subst e9; rfl) (fun H locs G => ?_)
        clear e9
        refine lv_iinc (v := (x1_21 + 1)) (lv' := [(1, .int (x1_21 + 1)), (0, .ref (aM 0))]) F.1 F.2.1 dX11_begins_156 hl (k := 1) rfl rfl (by decide) rfl (fun ls hl => ?_)
        refine lv_goto (tgt := 138) F.1 F.2.1 dX11_begins_159 (by decide) ?_
        exact ih (x1_21 + 1) z_24 _ _ _ h G (lv_sub hl [1, 0] rfl)
  refine L138   _ (fun z_23 H locs ls h G hl => ?_) fu 0 z_19 _ _ _ h G (lv_sub hl [1, 0] rfl)
  clear L138
  refine lv_iconst (v := 0) F.1 F.2.1 dX11_begins_162 (by decide) ?_
  refine lv_istore_n (lv' := [(1, .int 0), (0, .ref (aM 0))]) F.1 F.2.1 dX11_begins_163 rfl hl (by decide) rfl (fun ls hl => ?_)
  have L164 : ∀ (K : (Nat → Nat → Int32) → Option ((Nat → Nat → Int32))) (hK : ∀ (z_27 : Nat → Nat → Int32) (H : Heap) (locs : List Loc) (ls : Array Slot), K z_27 = some (zR) → Rg D T A st (gM T aM z_27) H locs → lv_has ls 2 [(0, .ref (aM 0))] → W pr l en rmX11_begins st mi ag bl me co H locs 0 0 (MQ bl (kQ none D (gM T aM zR) A) ag st rmX11_begins.cells rmX11_begins.slots A) (F0 mi 189 ls [])) (n : Nat) (x1_25 : Int32) (z_26 : Nat → Nat → Int32) (H : Heap) (locs : List Loc) (ls : Array Slot), qX11_begins_L164 K n x1_25 z_26 = some (zR) → Rg D T A st (gM T aM z_26) H locs → lv_has ls 2 [(0, .ref (aM 0)), (1, .int x1_25)] → W pr l en rmX11_begins st mi ag bl me co H locs 0 0 (MQ bl (kQ none D (gM T aM zR) A) ag st rmX11_begins.cells rmX11_begins.slots A) (F0 mi 164 ls []) := by
    intro K hK n
    induction n with
    | zero => intro x1_25 z_26 H locs ls h; exact op_n h
    | succ n ih =>
      intro x1_25 z_26 H locs ls h G hl
      rw [qX11_begins_L164] at h
      refine lv_iload_n F.1 F.2.1 dX11_begins_164 rfl (lv_at hl 1 rfl) ?_
      refine lv_sipush (v := 411) F.1 F.2.1 dX11_begins_165 (by decide) ?_
      refine lv_icmp_ge (tgt := 189) F.1 F.2.1 dX11_begins_168 (by decide) (fun c => ?_) (fun c => ?_)
      · have h := op_t h c
        exact hK z_26 _ _ _ h G (lv_sub hl [0] rfl)
      · have h := op_f h c
        refine lv_aload_n F.1 F.2.1 dX11_begins_171 rfl (lv_at hl 0 rfl) ?_
        refine k_get F G 0 rfl (N := 35) (Tt := TX11) rfl kf11 10 (by decide) kl783 (v := .ref (aM 6)) rfl dX11_begins_172 ?_
        refine lv_iload_n F.1 F.2.1 dX11_begins_175 rfl (lv_at hl 1 rfl) ?_
        refine lv_aload_n F.1 F.2.1 dX11_begins_176 rfl (lv_at hl 0 rfl) ?_
        refine k_get F G 0 rfl (N := 35) (Tt := TX11) rfl kf11 17 (by decide) kl761 (v := .ref (aM 12)) rfl dX11_begins_177 ?_
        refine lv_iload_n F.1 F.2.1 dX11_begins_180 rfl (lv_at hl 1 rfl) ?_
        obtain ⟨c, h⟩ := op_g h
        refine k_iald F G 12 rfl c dX11_begins_181 ?_
        obtain ⟨c, h⟩ := op_g h
        obtain ⟨z_28, e9, h⟩ := op_st h
        refine k_iast F G 6 rfl c dX11_begins_182 (Wn := (gM T aM z_28)) (by subst e9; rfl) (fun H locs G => ?_)
        clear e9
        refine lv_iinc (v := (x1_25 + 1)) (lv' := [(1, .int (x1_25 + 1)), (0, .ref (aM 0))]) F.1 F.2.1 dX11_begins_183 hl (k := 1) rfl rfl (by decide) rfl (fun ls hl => ?_)
        refine lv_goto (tgt := 164) F.1 F.2.1 dX11_begins_186 (by decide) ?_
        exact ih (x1_25 + 1) z_28 _ _ _ h G (lv_sub hl [1, 0] rfl)
  refine L164   _ (fun z_27 H locs ls h G hl => ?_) fu 0 z_23 _ _ _ h G (lv_sub hl [1, 0] rfl)
  clear L164
  refine lv_iconst (v := 0) F.1 F.2.1 dX11_begins_189 (by decide) ?_
  refine lv_istore_n (lv' := [(1, .int 0), (0, .ref (aM 0))]) F.1 F.2.1 dX11_begins_190 rfl hl (by decide) rfl (fun ls hl => ?_)
  have L191 : ∀ (K : (Nat → Nat → Int32) → Option ((Nat → Nat → Int32))) (hK : ∀ (z_31 : Nat → Nat → Int32) (H : Heap) (locs : List Loc) (ls : Array Slot), K z_31 = some (zR) → Rg D T A st (gM T aM z_31) H locs → lv_has ls 2 [(0, .ref (aM 0))] → W pr l en rmX11_begins st mi ag bl me co H locs 0 0 (MQ bl (kQ none D (gM T aM zR) A) ag st rmX11_begins.cells rmX11_begins.slots A) (F0 mi 248 ls [])) (n : Nat) (x1_29 : Int32) (z_30 : Nat → Nat → Int32) (H : Heap) (locs : List Loc) (ls : Array Slot), qX11_begins_L191 K n x1_29 z_30 = some (zR) → Rg D T A st (gM T aM z_30) H locs → lv_has ls 2 [(0, .ref (aM 0)), (1, .int x1_29)] → W pr l en rmX11_begins st mi ag bl me co H locs 0 0 (MQ bl (kQ none D (gM T aM zR) A) ag st rmX11_begins.cells rmX11_begins.slots A) (F0 mi 191 ls []) := by
    intro K hK n
    induction n with
    | zero => intro x1_29 z_30 H locs ls h; exact op_n h
    | succ n ih =>
      intro x1_29 z_30 H locs ls h G hl
      rw [qX11_begins_L191] at h
      refine lv_iload_n F.1 F.2.1 dX11_begins_191 rfl (lv_at hl 1 rfl) ?_
      refine lv_aload_n F.1 F.2.1 dX11_begins_192 rfl (lv_at hl 0 rfl) ?_
      refine k_get F G 0 rfl (N := 35) (Tt := TX11) rfl kf11 1 (by decide) kl769 (v := .int (z_30 1 0)) rfl dX11_begins_193 ?_
      refine lv_icmp_ge (tgt := 248) F.1 F.2.1 dX11_begins_196 (by decide) (fun c => ?_) (fun c => ?_)
      · have h := op_t h c
        exact hK z_30 _ _ _ h G (lv_sub hl [0] rfl)
      · have h := op_f h c
        refine lv_aload_n F.1 F.2.1 dX11_begins_199 rfl (lv_at hl 0 rfl) ?_
        refine k_get F G 0 rfl (N := 35) (Tt := TX11) rfl kf11 10 (by decide) kl783 (v := .ref (aM 6)) rfl dX11_begins_200 ?_
        refine lv_iload_n F.1 F.2.1 dX11_begins_203 rfl (lv_at hl 1 rfl) ?_
        refine lv_iconst (v := 2) F.1 F.2.1 dX11_begins_204 (by decide) ?_
        obtain ⟨r_32, hc, h⟩ := op_b h
        refine k_callS (rv := (some (.int r_32))) (Wc := ([] : va_W)) (W2 := ([] : va_W)) (Wn := (gM T aM z_30)) (As := [.int x1_29, .int 2]) (rest := [.ref (aM 6)]) F G (mX11_at l D T x1_29 2 hc) (va_cwS 2 F.2.2.2.2 (kg_c kl786 (kg_c kl787 (kg_c kl788 (kg_c kl767 kg_a)))) rfl rfl rfl (by decide +kernel) ⟨Nat.le_of_ble_eq_true rfl, Nat.le_of_ble_eq_true rfl⟩) (kCut_0 G) rfl hl.1 rfl (Nat.le_of_ble_eq_true rfl) dX11_begins_205 ⟨Nat.le_of_ble_eq_true rfl, Nat.le_of_ble_eq_true rfl⟩ (cN := 0) (sN := 0) ⟨rfl, rfl⟩ (fun H locs G => ?_)
        refine lv_aload_n F.1 F.2.1 dX11_begins_208 rfl (lv_at hl 0 rfl) ?_
        refine k_get F G 0 rfl (N := 35) (Tt := TX11) rfl kf11 10 (by decide) kl783 (v := .ref (aM 6)) rfl dX11_begins_209 ?_
        refine lv_iload_n F.1 F.2.1 dX11_begins_212 rfl (lv_at hl 1 rfl) ?_
        refine lv_iconst (v := 1) F.1 F.2.1 dX11_begins_213 (by decide) ?_
        obtain ⟨r_33, hc, h⟩ := op_b h
        refine k_callS (rv := (some (.int r_33))) (Wc := ([] : va_W)) (W2 := ([] : va_W)) (Wn := (gM T aM z_30)) (As := [.int x1_29, .int 1]) (rest := [.ref (aM 6), .int r_32, .ref (aM 6)]) F G (mX11_at l D T x1_29 1 hc) (va_cwS 2 F.2.2.2.2 (kg_c kl786 (kg_c kl787 (kg_c kl788 (kg_c kl767 kg_a)))) rfl rfl rfl (by decide +kernel) ⟨Nat.le_of_ble_eq_true rfl, Nat.le_of_ble_eq_true rfl⟩) (kCut_0 G) rfl hl.1 rfl (Nat.le_of_ble_eq_true rfl) dX11_begins_214 ⟨Nat.le_of_ble_eq_true rfl, Nat.le_of_ble_eq_true rfl⟩ (cN := 0) (sN := 0) ⟨rfl, rfl⟩ (fun H locs G => ?_)
        obtain ⟨c, h⟩ := op_g h
        refine k_iald F G 6 rfl c dX11_begins_217 ?_
        obtain ⟨c, h⟩ := op_g h
        obtain ⟨z_34, e9, h⟩ := op_st h
        refine k_iast F G 6 rfl c dX11_begins_218 (Wn := (gM T aM z_34)) (by subst e9; rfl) (fun H locs G => ?_)
        clear e9
        refine lv_aload_n F.1 F.2.1 dX11_begins_219 rfl (lv_at hl 0 rfl) ?_
        refine k_get F G 0 rfl (N := 35) (Tt := TX11) rfl kf11 10 (by decide) kl783 (v := .ref (aM 6)) rfl dX11_begins_220 ?_
        refine lv_iload_n F.1 F.2.1 dX11_begins_223 rfl (lv_at hl 1 rfl) ?_
        refine lv_iconst (v := 5) F.1 F.2.1 dX11_begins_224 (by decide) ?_
        obtain ⟨r_35, hc, h⟩ := op_b h
        refine k_callS (rv := (some (.int r_35))) (Wc := ([] : va_W)) (W2 := ([] : va_W)) (Wn := (gM T aM z_34)) (As := [.int x1_29, .int 5]) (rest := [.ref (aM 6)]) F G (mX11_at l D T x1_29 5 hc) (va_cwS 2 F.2.2.2.2 (kg_c kl786 (kg_c kl787 (kg_c kl788 (kg_c kl767 kg_a)))) rfl rfl rfl (by decide +kernel) ⟨Nat.le_of_ble_eq_true rfl, Nat.le_of_ble_eq_true rfl⟩) (kCut_0 G) rfl hl.1 rfl (Nat.le_of_ble_eq_true rfl) dX11_begins_225 ⟨Nat.le_of_ble_eq_true rfl, Nat.le_of_ble_eq_true rfl⟩ (cN := 0) (sN := 0) ⟨rfl, rfl⟩ (fun H locs G => ?_)
        refine lv_iconst (v := (-1)) F.1 F.2.1 dX11_begins_228 (by decide) ?_
        obtain ⟨c, h⟩ := op_g h
        obtain ⟨z_36, e9, h⟩ := op_st h
        refine k_iast F G 6 rfl c dX11_begins_229 (Wn := (gM T aM z_36)) (by subst e9; rfl) (fun H locs G => ?_)
        clear e9
        refine lv_aload_n F.1 F.2.1 dX11_begins_230 rfl (lv_at hl 0 rfl) ?_
        refine k_get F G 0 rfl (N := 35) (Tt := TX11) rfl kf11 10 (by decide) kl783 (v := .ref (aM 6)) rfl dX11_begins_231 ?_
        refine lv_iload_n F.1 F.2.1 dX11_begins_234 rfl (lv_at hl 1 rfl) ?_
        refine lv_bipush (v := 6) F.1 F.2.1 dX11_begins_235 (by decide) ?_
        obtain ⟨r_37, hc, h⟩ := op_b h
        refine k_callS (rv := (some (.int r_37))) (Wc := ([] : va_W)) (W2 := ([] : va_W)) (Wn := (gM T aM z_36)) (As := [.int x1_29, .int 6]) (rest := [.ref (aM 6)]) F G (mX11_at l D T x1_29 6 hc) (va_cwS 2 F.2.2.2.2 (kg_c kl786 (kg_c kl787 (kg_c kl788 (kg_c kl767 kg_a)))) rfl rfl rfl (by decide +kernel) ⟨Nat.le_of_ble_eq_true rfl, Nat.le_of_ble_eq_true rfl⟩) (kCut_0 G) rfl hl.1 rfl (Nat.le_of_ble_eq_true rfl) dX11_begins_237 ⟨Nat.le_of_ble_eq_true rfl, Nat.le_of_ble_eq_true rfl⟩ (cN := 0) (sN := 0) ⟨rfl, rfl⟩ (fun H locs G => ?_)
        refine lv_iconst (v := (-1)) F.1 F.2.1 dX11_begins_240 (by decide) ?_
        obtain ⟨c, h⟩ := op_g h
        obtain ⟨z_38, e9, h⟩ := op_st h
        refine k_iast F G 6 rfl c dX11_begins_241 (Wn := (gM T aM z_38)) (by subst e9; rfl) (fun H locs G => ?_)
        clear e9
        refine lv_iinc (v := (x1_29 + 1)) (lv' := [(1, .int (x1_29 + 1)), (0, .ref (aM 0))]) F.1 F.2.1 dX11_begins_242 hl (k := 1) rfl rfl (by decide) rfl (fun ls hl => ?_)
        refine lv_goto (tgt := 191) F.1 F.2.1 dX11_begins_245 (by decide) ?_
        exact ih (x1_29 + 1) z_38 _ _ _ h G (lv_sub hl [1, 0] rfl)
  refine L191   _ (fun z_31 H locs ls h G hl => ?_) fu 0 z_27 _ _ _ h G (lv_sub hl [1, 0] rfl)
  clear L191
  refine lv_aload_n F.1 F.2.1 dX11_begins_248 rfl (lv_at hl 0 rfl) ?_
  refine lv_iconst (v := 0) F.1 F.2.1 dX11_begins_249 (by decide) ?_
  obtain ⟨z_39, e9, h⟩ := op_st h
  refine k_put F G 0 rfl (N := 35) (Tt := TX11) rfl kf11 tyX11_ok nmX11 15 (by decide) kl784 rfl (v := .int 0) rfl rfl (Nat.le_of_ble_eq_true rfl) dX11_begins_250 (Wn := (gM T aM z_39)) (by subst e9; rfl) (fun H locs G => ?_)
  clear e9
  refine lv_aload_n F.1 F.2.1 dX11_begins_253 rfl (lv_at hl 0 rfl) ?_
  refine k_get F G 0 rfl (N := 35) (Tt := TX11) rfl kf11 14 (by decide) kl785 (v := .ref (aM 10)) rfl dX11_begins_254 ?_
  refine lv_iconst (v := 0) F.1 F.2.1 dX11_begins_257 (by decide) ?_
  refine lv_iconst (v := 0) F.1 F.2.1 dX11_begins_258 (by decide) ?_
  obtain ⟨z_40, e9, h⟩ := op_st h
  refine k_zastN F G 10 rfl (kin (by decide +kernel)) 0 (by decide +kernel) dX11_begins_259 (Wn := (gM T aM z_40)) (by subst e9; rfl) (fun H locs G => ?_)
  clear e9
  refine lv_aload_n F.1 F.2.1 dX11_begins_260 rfl (lv_at hl 0 rfl) ?_
  refine k_get F G 0 rfl (N := 35) (Tt := TX11) rfl kf11 14 (by decide) kl785 (v := .ref (aM 10)) rfl dX11_begins_261 ?_
  refine lv_iconst (v := 1) F.1 F.2.1 dX11_begins_264 (by decide) ?_
  refine lv_iconst (v := 0) F.1 F.2.1 dX11_begins_265 (by decide) ?_
  obtain ⟨z_41, e9, h⟩ := op_st h
  refine k_zastN F G 10 rfl (kin (by decide +kernel)) 1 (by decide +kernel) dX11_begins_266 (Wn := (gM T aM z_41)) (by subst e9; rfl) (fun H locs G => ?_)
  clear e9
  obtain rfl := op_1 h
  exact k_vret F hr hlk G dX11_begins_267
abbrev rmX11_load : Room := ({ frames := 7, cells := 0, slots := 0, locals := 154 } : Room)
noncomputable def qX11_load_L70 (K : (Nat → Nat → Int32) → Option (Int32 × (Nat → Nat → Int32))) : Nat → (Nat → Nat → Int32) → Option (Int32 × (Nat → Nat → Int32))
  | 0, _ => none
  | n + 1, z_15 =>
    bd (qX11_isWord z_15 1) fun r_17 => if r_17 = 0 then (K z_15) else bd (qX11_outletLine z_15) fun z_18 => (qX11_load_L70 K n z_18)

noncomputable def qX11_load_L86 (K : (Nat → Nat → Int32) → Option (Int32 × (Nat → Nat → Int32))) : Nat → (Nat → Nat → Int32) → Option (Int32 × (Nat → Nat → Int32))
  | 0, _ => none
  | n + 1, z_19 =>
    bd (qX11_isWord z_19 2) fun r_21 => if r_21 = 0 then (K z_19) else bd (qX11_needLine z_19) fun z_22 => (qX11_load_L86 K n z_22)

noncomputable def qX11_load_L102 (K : (Nat → Nat → Int32) → Option (Int32 × (Nat → Nat → Int32))) : Nat → (Nat → Nat → Int32) → Option (Int32 × (Nat → Nat → Int32))
  | 0, _ => none
  | n + 1, z_23 =>
    bd (qX11_isWrong z_23) fun r_25 => if r_25 = 0 then if (z_23 27 0) = 0 then (K z_23) else bd (qX11_ruleLine z_23) fun z_26 => (qX11_load_L102 K n z_26) else (K z_23)

noncomputable def qX11_load (z : Nat → Nat → Int32) : Option (Int32 × (Nat → Nat → Int32)) :=
  (bs (va_up z 0 (fun _ => 0)) fun z_1 => (bs (va_up z_1 24 (fun _ => (z_1 23 0))) fun z_2 => (bs (va_up z_2 23 (fun _ => 0)) fun z_3 => (bs (va_up z_3 25 (fun _ => 0)) fun z_4 => (bs (va_up z_4 28 (fun _ => 0)) fun z_5 => (bs (va_up z_5 29 (fun _ => (-1))) fun z_6 => bd (qX11_clearsTold z_6) fun z_7 => bd (qX11_token z_7) fun z_8 => bd (qX11_isWord z_8 0) fun r_9 => bd (qX11_passes z_8 r_9) fun z_10 => bd2 (qX11_figure z_10 1 9999) fun r_11 z_12 => (bs (va_up z_12 17 (upd (z_12 17) 6 r_11)) fun z_13 => bd (qX11_semicolon z_13) fun z_14 => (qX11_load_L70   (fun (z_16 : Nat → Nat → Int32) => (qX11_load_L86   (fun (z_20 : Nat → Nat → Int32) => (qX11_load_L102   (fun (z_24 : Nat → Nat → Int32) => bd (qX11_isWrong z_24) fun r_27 => (jn (fun (y_28 : Int32) => bd2 (qX11_may z_24 y_28 1) fun r_29 z_30 => if r_29 = 0 then some (0, z_30) else bd (qX11_begins z_30) fun z_31 => some ((z_31 1 0), z_31)) fun j136 => if r_27 = 0 then (j136 1) else (j136 0))) fu  z_20)) fu  z_16)) fu  z_14))))))))

set_option maxHeartbeats 4000000 in
set_option maxRecDepth 100000 in
theorem mX11_load (l : Launch) (D : va_G) (T : Nat → ClassId) (aM : Nat → Nat) (z : Nat → Nat → Int32) {rR : Int32} {zR : Nat → Nat → Int32} (hres : qX11_load z = some (rR, zR)) : Ct l yX11_load (Cond.code yX11_load cX11_load 1 (some .int) :: kAll) rmX11_load D T [.ref (aM 0)] (gM T aM z) (some (.int rR)) (gM T aM zR) := by
  refine Ct.of (cc := cX11_load) (maxL := 1) (ret := (some .int)) (by decide +kernel) rfl (Nat.le_of_ble_eq_true rfl) ?_
  intro pr en st mi ag bl me co A ls F hr hlk hnm G hl
  have hl : lv_has ls 1 [(0, .ref (aM 0))] := hl
  have h := hres
  unfold qX11_load at h
  refine lv_aload_n F.1 F.2.1 dX11_load_0 rfl (lv_at hl 0 rfl) ?_
  refine lv_iconst (v := 0) F.1 F.2.1 dX11_load_1 (by decide) ?_
  obtain ⟨z_1, e9, h⟩ := op_st h
  refine k_put F G 0 rfl (N := 35) (Tt := TX11) rfl kf11 tyX11_ok nmX11 0 (by decide) kl804 rfl (v := .int 0) rfl rfl (Nat.le_of_ble_eq_true rfl) dX11_load_2 (Wn := (gM T aM z_1)) (by subst e9; rfl) (fun H locs G => ?_)
  clear e9
  refine lv_aload_n F.1 F.2.1 dX11_load_5 rfl (lv_at hl 0 rfl) ?_
  refine lv_aload_n F.1 F.2.1 dX11_load_6 rfl (lv_at hl 0 rfl) ?_
  refine k_get F G 0 rfl (N := 35) (Tt := TX11) rfl kf11 23 (by decide) kl808 (v := .int (z_1 23 0)) rfl dX11_load_7 ?_
  obtain ⟨z_2, e9, h⟩ := op_st h
  refine k_put F G 0 rfl (N := 35) (Tt := TX11) rfl kf11 tyX11_ok nmX11 24 (by decide) kl816 rfl (v := .int (z_1 23 0)) rfl rfl (Nat.le_of_ble_eq_true rfl) dX11_load_10 (Wn := (gM T aM z_2)) (by subst e9; rfl) (fun H locs G => ?_)
  clear e9
  refine lv_aload_n F.1 F.2.1 dX11_load_13 rfl (lv_at hl 0 rfl) ?_
  refine lv_iconst (v := 0) F.1 F.2.1 dX11_load_14 (by decide) ?_
  obtain ⟨z_3, e9, h⟩ := op_st h
  refine k_put F G 0 rfl (N := 35) (Tt := TX11) rfl kf11 tyX11_ok nmX11 23 (by decide) kl808 rfl (v := .int 0) rfl rfl (Nat.le_of_ble_eq_true rfl) dX11_load_15 (Wn := (gM T aM z_3)) (by subst e9; rfl) (fun H locs G => ?_)
  clear e9
  refine lv_aload_n F.1 F.2.1 dX11_load_18 rfl (lv_at hl 0 rfl) ?_
  refine lv_iconst (v := 0) F.1 F.2.1 dX11_load_19 (by decide) ?_
  obtain ⟨z_4, e9, h⟩ := op_st h
  refine k_put F G 0 rfl (N := 35) (Tt := TX11) rfl kf11 tyX11_ok nmX11 25 (by decide) kl820 rfl (v := .int 0) rfl rfl (Nat.le_of_ble_eq_true rfl) dX11_load_20 (Wn := (gM T aM z_4)) (by subst e9; rfl) (fun H locs G => ?_)
  clear e9
  refine lv_aload_n F.1 F.2.1 dX11_load_23 rfl (lv_at hl 0 rfl) ?_
  refine lv_iconst (v := 0) F.1 F.2.1 dX11_load_24 (by decide) ?_
  obtain ⟨z_5, e9, h⟩ := op_st h
  refine k_put F G 0 rfl (N := 35) (Tt := TX11) rfl kf11 tyX11_ok nmX11 28 (by decide) kl831 rfl (v := .int 0) rfl rfl (Nat.le_of_ble_eq_true rfl) dX11_load_25 (Wn := (gM T aM z_5)) (by subst e9; rfl) (fun H locs G => ?_)
  clear e9
  refine lv_aload_n F.1 F.2.1 dX11_load_28 rfl (lv_at hl 0 rfl) ?_
  refine lv_iconst (v := (-1)) F.1 F.2.1 dX11_load_29 (by decide) ?_
  obtain ⟨z_6, e9, h⟩ := op_st h
  refine k_put F G 0 rfl (N := 35) (Tt := TX11) rfl kf11 tyX11_ok nmX11 29 (by decide) kl796 rfl (v := .int (-1)) rfl rfl (Nat.le_of_ble_eq_true rfl) dX11_load_30 (Wn := (gM T aM z_6)) (by subst e9; rfl) (fun H locs G => ?_)
  clear e9
  refine lv_aload_n F.1 F.2.1 dX11_load_33 rfl (lv_at hl 0 rfl) ?_
  obtain ⟨z_7, hc, h⟩ := op_b h
  refine k_callV (rv := none) (Wc := (gM T aM z_6)) (W2 := (gM T aM z_7)) (Wn := (gM T aM z_7)) (As := []) (rest := []) F G (mX11_clearsTold l D T aM z_6 hc) (cwV 0 F.2.2.2.2 (kg_c kl797 (kg_c kl798 (kg_c kl799 (kg_c kl788 (kg_c kl760 kg_a))))) rfl rfl rfl (by decide +kernel) ⟨Nat.le_of_ble_eq_true rfl, Nat.le_of_ble_eq_true rfl⟩) 0 rfl (q := (RX11, TX11, 35)) rfl rfl (kCut_F G) rfl hl.1 rfl (Nat.le_of_ble_eq_true rfl) dX11_load_34 ⟨Nat.le_of_ble_eq_true rfl, Nat.le_of_ble_eq_true rfl⟩ (cN := 0) (sN := 0) ⟨rfl, rfl⟩ (fun H locs G => ?_)
  refine lv_aload_n F.1 F.2.1 dX11_load_37 rfl (lv_at hl 0 rfl) ?_
  obtain ⟨z_8, hc, h⟩ := op_b h
  refine k_callV (rv := none) (Wc := (gM T aM z_7)) (W2 := (gM T aM z_8)) (Wn := (gM T aM z_8)) (As := []) (rest := []) F G (mX11_token l D T aM z_7 hc) (cwV 0 F.2.2.2.2 (kg_c kl843 (kg_c kl844 (kg_c kl845 (kg_c kl788 (kg_c kl819 kg_a))))) rfl rfl rfl (by decide +kernel) ⟨Nat.le_of_ble_eq_true rfl, Nat.le_of_ble_eq_true rfl⟩) 0 rfl (q := (RX11, TX11, 35)) rfl rfl (kCut_F G) rfl hl.1 rfl (Nat.le_of_ble_eq_true rfl) dX11_load_38 ⟨Nat.le_of_ble_eq_true rfl, Nat.le_of_ble_eq_true rfl⟩ (cN := 0) (sN := 0) ⟨rfl, rfl⟩ (fun H locs G => ?_)
  refine lv_aload_n F.1 F.2.1 dX11_load_41 rfl (lv_at hl 0 rfl) ?_
  refine lv_aload_n F.1 F.2.1 dX11_load_42 rfl (lv_at hl 0 rfl) ?_
  refine va_ldcS (own := RX11) (index := 193) (tx := "fuse") (q := T (100 + 0)) F.1 F.2.1 F.2.2.2.1 (k_refE G 9 rfl) dX11_load_43 ?_
  obtain ⟨r_9, hc, h⟩ := op_b h
  refine k_callV (rv := (some (.int r_9))) (Wc := (gM T aM z_8)) (W2 := (gM T aM z_8)) (Wn := (gM T aM z_8)) (As := [.ref (T (100 + 0))]) (rest := [.ref (aM 0)]) F G (mX11_isWord l D T aM z_8 0 (by decide) hc) (cwV 1 F.2.2.2.2 (kg_c kl873 (kg_c kl874 (kg_c kl875 (kg_c kl788 (kg_c kl836 kg_a))))) rfl rfl rfl (by decide +kernel) ⟨Nat.le_of_ble_eq_true rfl, Nat.le_of_ble_eq_true rfl⟩) 0 rfl (q := (RX11, TX11, 35)) rfl rfl (kCut_F G) rfl hl.1 rfl (Nat.le_of_ble_eq_true rfl) dX11_load_45 ⟨Nat.le_of_ble_eq_true rfl, Nat.le_of_ble_eq_true rfl⟩ (cN := 0) (sN := 0) ⟨rfl, rfl⟩ (fun H locs G => ?_)
  obtain ⟨z_10, hc, h⟩ := op_b h
  refine k_callV (rv := none) (Wc := (gM T aM z_8)) (W2 := (gM T aM z_10)) (Wn := (gM T aM z_10)) (As := [.int r_9]) (rest := []) F G (mX11_passes l D T aM z_8 r_9 hc) (cwV 1 F.2.2.2.2 (kg_c kl847 (kg_c kl848 (kg_c kl849 (kg_c kl788 (kg_c kl839 kg_a))))) rfl rfl rfl (by decide +kernel) ⟨Nat.le_of_ble_eq_true rfl, Nat.le_of_ble_eq_true rfl⟩) 0 rfl (q := (RX11, TX11, 35)) rfl rfl (kCut_F G) rfl hl.1 rfl (Nat.le_of_ble_eq_true rfl) dX11_load_48 ⟨Nat.le_of_ble_eq_true rfl, Nat.le_of_ble_eq_true rfl⟩ (cN := 0) (sN := 0) ⟨rfl, rfl⟩ (fun H locs G => ?_)
  refine lv_aload_n F.1 F.2.1 dX11_load_51 rfl (lv_at hl 0 rfl) ?_
  refine k_get F G 0 rfl (N := 35) (Tt := TX11) rfl kf11 17 (by decide) kl761 (v := .ref (aM 12)) rfl dX11_load_52 ?_
  refine lv_bipush (v := 6) F.1 F.2.1 dX11_load_55 (by decide) ?_
  refine lv_aload_n F.1 F.2.1 dX11_load_57 rfl (lv_at hl 0 rfl) ?_
  refine lv_iconst (v := 1) F.1 F.2.1 dX11_load_58 (by decide) ?_
  refine lv_sipush (v := 9999) F.1 F.2.1 dX11_load_59 (by decide) ?_
  obtain ⟨r_11, z_12, hc, h⟩ := op_b2 h
  refine k_callV (rv := (some (.int r_11))) (Wc := (gM T aM z_10)) (W2 := (gM T aM z_12)) (Wn := (gM T aM z_12)) (As := [.int 1, .int 9999]) (rest := [.int 6, .ref (aM 12)]) F G (mX11_figure l D T aM z_10 1 9999 hc) (cwV 2 F.2.2.2.2 (kg_c kl864 (kg_c kl865 (kg_c kl866 (kg_c kl788 (kg_c kl850 kg_a))))) rfl rfl rfl (by decide +kernel) ⟨Nat.le_of_ble_eq_true rfl, Nat.le_of_ble_eq_true rfl⟩) 0 rfl (q := (RX11, TX11, 35)) rfl rfl (kCut_F G) rfl hl.1 rfl (Nat.le_of_ble_eq_true rfl) dX11_load_62 ⟨Nat.le_of_ble_eq_true rfl, Nat.le_of_ble_eq_true rfl⟩ (cN := 0) (sN := 0) ⟨rfl, rfl⟩ (fun H locs G => ?_)
  obtain ⟨z_13, e9, h⟩ := op_st h
  refine k_iastN F G 12 rfl (kin (by decide +kernel)) 6 (by decide +kernel) dX11_load_65 (Wn := (gM T aM z_13)) (by subst e9; rfl) (fun H locs G => ?_)
  clear e9
  refine lv_aload_n F.1 F.2.1 dX11_load_66 rfl (lv_at hl 0 rfl) ?_
  obtain ⟨z_14, hc, h⟩ := op_b h
  refine k_callV (rv := none) (Wc := (gM T aM z_13)) (W2 := (gM T aM z_14)) (Wn := (gM T aM z_14)) (As := []) (rest := []) F G (mX11_semicolon l D T aM z_13 hc) (cwV 0 F.2.2.2.2 (kg_c kl867 (kg_c kl868 (kg_c kl869 (kg_c kl788 (kg_c kl846 kg_a))))) rfl rfl rfl (by decide +kernel) ⟨Nat.le_of_ble_eq_true rfl, Nat.le_of_ble_eq_true rfl⟩) 0 rfl (q := (RX11, TX11, 35)) rfl rfl (kCut_F G) rfl hl.1 rfl (Nat.le_of_ble_eq_true rfl) dX11_load_67 ⟨Nat.le_of_ble_eq_true rfl, Nat.le_of_ble_eq_true rfl⟩ (cN := 0) (sN := 0) ⟨rfl, rfl⟩ (fun H locs G => ?_)
  have L70 : ∀ (K : (Nat → Nat → Int32) → Option (Int32 × (Nat → Nat → Int32))) (hK : ∀ (z_16 : Nat → Nat → Int32) (H : Heap) (locs : List Loc) (ls : Array Slot), K z_16 = some (rR, zR) → Rg D T A st (gM T aM z_16) H locs → lv_has ls 1 [(0, .ref (aM 0))] → W pr l en rmX11_load st mi ag bl me co H locs 0 0 (MQ bl (kQ (some (.int rR)) D (gM T aM zR) A) ag st rmX11_load.cells rmX11_load.slots A) (F0 mi 86 ls [])) (n : Nat) (z_15 : Nat → Nat → Int32) (H : Heap) (locs : List Loc) (ls : Array Slot), qX11_load_L70 K n z_15 = some (rR, zR) → Rg D T A st (gM T aM z_15) H locs → lv_has ls 1 [(0, .ref (aM 0))] → W pr l en rmX11_load st mi ag bl me co H locs 0 0 (MQ bl (kQ (some (.int rR)) D (gM T aM zR) A) ag st rmX11_load.cells rmX11_load.slots A) (F0 mi 70 ls []) := by
    intro K hK n
    induction n with
    | zero => intro z_15 H locs ls h; exact op_n h
    | succ n ih =>
      intro z_15 H locs ls h G hl
      rw [qX11_load_L70] at h
      refine lv_aload_n F.1 F.2.1 dX11_load_70 rfl (lv_at hl 0 rfl) ?_
      refine va_ldcS (own := RX11) (index := 195) (tx := "outlet") (q := T (100 + 1)) F.1 F.2.1 F.2.2.2.1 (k_refE G 10 rfl) dX11_load_71 ?_
      obtain ⟨r_17, hc, h⟩ := op_b h
      refine k_callV (rv := (some (.int r_17))) (Wc := (gM T aM z_15)) (W2 := (gM T aM z_15)) (Wn := (gM T aM z_15)) (As := [.ref (T (100 + 1))]) (rest := []) F G (mX11_isWord l D T aM z_15 1 (by decide) hc) (cwV 1 F.2.2.2.2 (kg_c kl873 (kg_c kl874 (kg_c kl875 (kg_c kl788 (kg_c kl836 kg_a))))) rfl rfl rfl (by decide +kernel) ⟨Nat.le_of_ble_eq_true rfl, Nat.le_of_ble_eq_true rfl⟩) 0 rfl (q := (RX11, TX11, 35)) rfl rfl (kCut_F G) rfl hl.1 rfl (Nat.le_of_ble_eq_true rfl) dX11_load_73 ⟨Nat.le_of_ble_eq_true rfl, Nat.le_of_ble_eq_true rfl⟩ (cN := 0) (sN := 0) ⟨rfl, rfl⟩ (fun H locs G => ?_)
      refine lv_if_eq (tgt := 86) F.1 F.2.1 dX11_load_76 (by decide) (fun c => ?_) (fun c => ?_)
      · have h := op_t h c
        exact hK z_15 _ _ _ h G hl
      · have h := op_f h c
        refine lv_aload_n F.1 F.2.1 dX11_load_79 rfl (lv_at hl 0 rfl) ?_
        obtain ⟨z_18, hc, h⟩ := op_b h
        refine k_callV (rv := none) (Wc := (gM T aM z_15)) (W2 := (gM T aM z_18)) (Wn := (gM T aM z_18)) (As := []) (rest := []) F G (mX11_outletLine l D T aM z_15 hc) (cwV 0 F.2.2.2.2 (kg_c kl883 (kg_c kl884 (kg_c kl885 (kg_c kl788 (kg_c kl860 kg_a))))) rfl rfl rfl (by decide +kernel) ⟨Nat.le_of_ble_eq_true rfl, Nat.le_of_ble_eq_true rfl⟩) 0 rfl (q := (RX11, TX11, 35)) rfl rfl (kCut_F G) rfl hl.1 rfl (Nat.le_of_ble_eq_true rfl) dX11_load_80 ⟨Nat.le_of_ble_eq_true rfl, Nat.le_of_ble_eq_true rfl⟩ (cN := 0) (sN := 0) ⟨rfl, rfl⟩ (fun H locs G => ?_)
        refine lv_goto (tgt := 70) F.1 F.2.1 dX11_load_83 (by decide) ?_
        exact ih z_18 _ _ _ h G hl
  refine L70   _ (fun z_16 H locs ls h G hl => ?_) fu  z_14 _ _ _ h G hl
  clear L70
  have L86 : ∀ (K : (Nat → Nat → Int32) → Option (Int32 × (Nat → Nat → Int32))) (hK : ∀ (z_20 : Nat → Nat → Int32) (H : Heap) (locs : List Loc) (ls : Array Slot), K z_20 = some (rR, zR) → Rg D T A st (gM T aM z_20) H locs → lv_has ls 1 [(0, .ref (aM 0))] → W pr l en rmX11_load st mi ag bl me co H locs 0 0 (MQ bl (kQ (some (.int rR)) D (gM T aM zR) A) ag st rmX11_load.cells rmX11_load.slots A) (F0 mi 102 ls [])) (n : Nat) (z_19 : Nat → Nat → Int32) (H : Heap) (locs : List Loc) (ls : Array Slot), qX11_load_L86 K n z_19 = some (rR, zR) → Rg D T A st (gM T aM z_19) H locs → lv_has ls 1 [(0, .ref (aM 0))] → W pr l en rmX11_load st mi ag bl me co H locs 0 0 (MQ bl (kQ (some (.int rR)) D (gM T aM zR) A) ag st rmX11_load.cells rmX11_load.slots A) (F0 mi 86 ls []) := by
    intro K hK n
    induction n with
    | zero => intro z_19 H locs ls h; exact op_n h
    | succ n ih =>
      intro z_19 H locs ls h G hl
      rw [qX11_load_L86] at h
      refine lv_aload_n F.1 F.2.1 dX11_load_86 rfl (lv_at hl 0 rfl) ?_
      refine va_ldcS (own := RX11) (index := 200) (tx := "need") (q := T (100 + 2)) F.1 F.2.1 F.2.2.2.1 (k_refE G 11 rfl) dX11_load_87 ?_
      obtain ⟨r_21, hc, h⟩ := op_b h
      refine k_callV (rv := (some (.int r_21))) (Wc := (gM T aM z_19)) (W2 := (gM T aM z_19)) (Wn := (gM T aM z_19)) (As := [.ref (T (100 + 2))]) (rest := []) F G (mX11_isWord l D T aM z_19 2 (by decide) hc) (cwV 1 F.2.2.2.2 (kg_c kl873 (kg_c kl874 (kg_c kl875 (kg_c kl788 (kg_c kl836 kg_a))))) rfl rfl rfl (by decide +kernel) ⟨Nat.le_of_ble_eq_true rfl, Nat.le_of_ble_eq_true rfl⟩) 0 rfl (q := (RX11, TX11, 35)) rfl rfl (kCut_F G) rfl hl.1 rfl (Nat.le_of_ble_eq_true rfl) dX11_load_89 ⟨Nat.le_of_ble_eq_true rfl, Nat.le_of_ble_eq_true rfl⟩ (cN := 0) (sN := 0) ⟨rfl, rfl⟩ (fun H locs G => ?_)
      refine lv_if_eq (tgt := 102) F.1 F.2.1 dX11_load_92 (by decide) (fun c => ?_) (fun c => ?_)
      · have h := op_t h c
        exact hK z_19 _ _ _ h G hl
      · have h := op_f h c
        refine lv_aload_n F.1 F.2.1 dX11_load_95 rfl (lv_at hl 0 rfl) ?_
        obtain ⟨z_22, hc, h⟩ := op_b h
        refine k_callV (rv := none) (Wc := (gM T aM z_19)) (W2 := (gM T aM z_22)) (Wn := (gM T aM z_22)) (As := []) (rest := []) F G (mX11_needLine l D T aM z_19 hc) (cwV 0 F.2.2.2.2 (kg_c kl886 (kg_c kl887 (kg_c kl888 (kg_c kl788 (kg_c kl870 kg_a))))) rfl rfl rfl (by decide +kernel) ⟨Nat.le_of_ble_eq_true rfl, Nat.le_of_ble_eq_true rfl⟩) 0 rfl (q := (RX11, TX11, 35)) rfl rfl (kCut_F G) rfl hl.1 rfl (Nat.le_of_ble_eq_true rfl) dX11_load_96 ⟨Nat.le_of_ble_eq_true rfl, Nat.le_of_ble_eq_true rfl⟩ (cN := 0) (sN := 0) ⟨rfl, rfl⟩ (fun H locs G => ?_)
        refine lv_goto (tgt := 86) F.1 F.2.1 dX11_load_99 (by decide) ?_
        exact ih z_22 _ _ _ h G hl
  refine L86   _ (fun z_20 H locs ls h G hl => ?_) fu  z_16 _ _ _ h G hl
  clear L86
  have L102 : ∀ (K : (Nat → Nat → Int32) → Option (Int32 × (Nat → Nat → Int32))) (hK : ∀ (z_24 : Nat → Nat → Int32) (H : Heap) (locs : List Loc) (ls : Array Slot), K z_24 = some (rR, zR) → Rg D T A st (gM T aM z_24) H locs → lv_has ls 1 [(0, .ref (aM 0))] → W pr l en rmX11_load st mi ag bl me co H locs 0 0 (MQ bl (kQ (some (.int rR)) D (gM T aM zR) A) ag st rmX11_load.cells rmX11_load.slots A) (F0 mi 123 ls [])) (n : Nat) (z_23 : Nat → Nat → Int32) (H : Heap) (locs : List Loc) (ls : Array Slot), qX11_load_L102 K n z_23 = some (rR, zR) → Rg D T A st (gM T aM z_23) H locs → lv_has ls 1 [(0, .ref (aM 0))] → W pr l en rmX11_load st mi ag bl me co H locs 0 0 (MQ bl (kQ (some (.int rR)) D (gM T aM zR) A) ag st rmX11_load.cells rmX11_load.slots A) (F0 mi 102 ls []) := by
    intro K hK n
    induction n with
    | zero => intro z_23 H locs ls h; exact op_n h
    | succ n ih =>
      intro z_23 H locs ls h G hl
      rw [qX11_load_L102] at h
      refine lv_aload_n F.1 F.2.1 dX11_load_102 rfl (lv_at hl 0 rfl) ?_
      obtain ⟨r_25, hc, h⟩ := op_b h
      refine k_callV (rv := (some (.int r_25))) (Wc := (gM T aM z_23)) (W2 := (gM T aM z_23)) (Wn := (gM T aM z_23)) (As := []) (rest := []) F G (mX11_isWrong l D T aM z_23 hc) (cwV 0 F.2.2.2.2 (kg_c kl833 (kg_c kl834 (kg_c kl835 (kg_c kl788 (kg_c kl830 kg_a))))) rfl rfl rfl (by decide +kernel) ⟨Nat.le_of_ble_eq_true rfl, Nat.le_of_ble_eq_true rfl⟩) 0 rfl (q := (RX11, TX11, 35)) rfl rfl (kCut_F G) rfl hl.1 rfl (Nat.le_of_ble_eq_true rfl) dX11_load_103 ⟨Nat.le_of_ble_eq_true rfl, Nat.le_of_ble_eq_true rfl⟩ (cN := 0) (sN := 0) ⟨rfl, rfl⟩ (fun H locs G => ?_)
      refine lv_if_ne (tgt := 123) F.1 F.2.1 dX11_load_106 (by decide) (fun c => ?_) (fun c => ?_)
      · have h := op_f h c
        exact hK z_23 _ _ _ h G hl
      · have h := op_t h c
        refine lv_aload_n F.1 F.2.1 dX11_load_109 rfl (lv_at hl 0 rfl) ?_
        refine k_get F G 0 rfl (N := 35) (Tt := TX11) rfl kf11 27 (by decide) kl822 (v := .int (z_23 27 0)) rfl dX11_load_110 ?_
        refine lv_if_eq (tgt := 123) F.1 F.2.1 dX11_load_113 (by decide) (fun c => ?_) (fun c => ?_)
        · have h := op_t h c
          exact hK z_23 _ _ _ h G hl
        · have h := op_f h c
          refine lv_aload_n F.1 F.2.1 dX11_load_116 rfl (lv_at hl 0 rfl) ?_
          obtain ⟨z_26, hc, h⟩ := op_b h
          refine k_callV (rv := none) (Wc := (gM T aM z_23)) (W2 := (gM T aM z_26)) (Wn := (gM T aM z_26)) (As := []) (rest := []) F G (mX11_ruleLine l D T aM z_23 hc) (cwV 0 F.2.2.2.2 (kg_c kl889 (kg_c kl890 (kg_c kl891 (kg_c kl788 (kg_c kl872 kg_a))))) rfl rfl rfl (by decide +kernel) ⟨Nat.le_of_ble_eq_true rfl, Nat.le_of_ble_eq_true rfl⟩) 0 rfl (q := (RX11, TX11, 35)) rfl rfl (kCut_F G) rfl hl.1 rfl (Nat.le_of_ble_eq_true rfl) dX11_load_117 ⟨Nat.le_of_ble_eq_true rfl, Nat.le_of_ble_eq_true rfl⟩ (cN := 0) (sN := 0) ⟨rfl, rfl⟩ (fun H locs G => ?_)
          refine lv_goto (tgt := 102) F.1 F.2.1 dX11_load_120 (by decide) ?_
          exact ih z_26 _ _ _ h G hl
  refine L102   _ (fun z_24 H locs ls h G hl => ?_) fu  z_20 _ _ _ h G hl
  clear L102
  refine lv_aload_n F.1 F.2.1 dX11_load_123 rfl (lv_at hl 0 rfl) ?_
  refine lv_aload_n F.1 F.2.1 dX11_load_124 rfl (lv_at hl 0 rfl) ?_
  obtain ⟨r_27, hc, h⟩ := op_b h
  refine k_callV (rv := (some (.int r_27))) (Wc := (gM T aM z_24)) (W2 := (gM T aM z_24)) (Wn := (gM T aM z_24)) (As := []) (rest := [.ref (aM 0)]) F G (mX11_isWrong l D T aM z_24 hc) (cwV 0 F.2.2.2.2 (kg_c kl833 (kg_c kl834 (kg_c kl835 (kg_c kl788 (kg_c kl830 kg_a))))) rfl rfl rfl (by decide +kernel) ⟨Nat.le_of_ble_eq_true rfl, Nat.le_of_ble_eq_true rfl⟩) 0 rfl (q := (RX11, TX11, 35)) rfl rfl (kCut_F G) rfl hl.1 rfl (Nat.le_of_ble_eq_true rfl) dX11_load_125 ⟨Nat.le_of_ble_eq_true rfl, Nat.le_of_ble_eq_true rfl⟩ (cN := 0) (sN := 0) ⟨rfl, rfl⟩ (fun H locs G => ?_)
  obtain ⟨j136, hj136, h⟩ := op_j h
  have J136 : ∀ (y_28 : Int32) (H : Heap) (locs : List Loc) (ls : Array Slot), j136 y_28 = some (rR, zR) → Rg D T A st (gM T aM z_24) H locs → lv_has ls 1 [(0, .ref (aM 0))] → W pr l en rmX11_load st mi ag bl me co H locs 0 0 (MQ bl (kQ (some (.int rR)) D (gM T aM zR) A) ag st rmX11_load.cells rmX11_load.slots A) (F0 mi 136 ls [.int y_28, .ref (aM 0)]) := by
    intro y_28 H locs ls h G hl
    rw [hj136] at h
    refine lv_iconst (v := 1) F.1 F.2.1 dX11_load_136 (by decide) ?_
    obtain ⟨r_29, z_30, hc, h⟩ := op_b2 h
    refine k_callV (rv := (some (.int r_29))) (Wc := (gM T aM z_24)) (W2 := (gM T aM z_30)) (Wn := (gM T aM z_30)) (As := [.int y_28, .int 1]) (rest := []) F G (mX11_may l D T aM z_24 y_28 1 hc) (cwV 2 F.2.2.2.2 (kg_c kl809 (kg_c kl810 (kg_c kl811 (kg_c kl788 (kg_c kl806 kg_a))))) rfl rfl rfl (by decide +kernel) ⟨Nat.le_of_ble_eq_true rfl, Nat.le_of_ble_eq_true rfl⟩) 0 rfl (q := (RX11, TX11, 35)) rfl rfl (kCut_F G) rfl hl.1 rfl (Nat.le_of_ble_eq_true rfl) dX11_load_137 ⟨Nat.le_of_ble_eq_true rfl, Nat.le_of_ble_eq_true rfl⟩ (cN := 0) (sN := 0) ⟨rfl, rfl⟩ (fun H locs G => ?_)
    refine lv_if_ne (tgt := 145) F.1 F.2.1 dX11_load_140 (by decide) (fun c => ?_) (fun c => ?_)
    · have h := op_f h c
      refine lv_aload_n F.1 F.2.1 dX11_load_145 rfl (lv_at hl 0 rfl) ?_
      obtain ⟨z_31, hc, h⟩ := op_b h
      refine k_callV (rv := none) (Wc := (gM T aM z_30)) (W2 := (gM T aM z_31)) (Wn := (gM T aM z_31)) (As := []) (rest := []) F G (mX11_begins l D T aM z_30 hc) (cwV 0 F.2.2.2.2 (kg_c kl800 (kg_c kl801 (kg_c kl802 (kg_c kl788 (kg_c kl768 kg_a))))) rfl rfl rfl (by decide +kernel) ⟨Nat.le_of_ble_eq_true rfl, Nat.le_of_ble_eq_true rfl⟩) 0 rfl (q := (RX11, TX11, 35)) rfl rfl (kCut_F G) rfl hl.1 rfl (Nat.le_of_ble_eq_true rfl) dX11_load_146 ⟨Nat.le_of_ble_eq_true rfl, Nat.le_of_ble_eq_true rfl⟩ (cN := 0) (sN := 0) ⟨rfl, rfl⟩ (fun H locs G => ?_)
      refine lv_aload_n F.1 F.2.1 dX11_load_149 rfl (lv_at hl 0 rfl) ?_
      refine k_get F G 0 rfl (N := 35) (Tt := TX11) rfl kf11 1 (by decide) kl769 (v := .int (z_31 1 0)) rfl dX11_load_150 ?_
      obtain ⟨rfl, rfl⟩ := op_2 h
      exact k_iret F hr hlk G dX11_load_153
    · have h := op_t h c
      refine lv_iconst (v := 0) F.1 F.2.1 dX11_load_143 (by decide) ?_
      obtain ⟨rfl, rfl⟩ := op_2 h
      exact k_iret F hr hlk G dX11_load_144
  clear hj136
  refine lv_if_ne (tgt := 135) F.1 F.2.1 dX11_load_128 (by decide) (fun c => ?_) (fun c => ?_)
  · have h := op_f h c
    refine lv_iconst (v := 0) F.1 F.2.1 dX11_load_135 (by decide) ?_
    exact J136 0 _ _ _ h G hl
  · have h := op_t h c
    refine lv_iconst (v := 1) F.1 F.2.1 dX11_load_131 (by decide) ?_
    refine lv_goto (tgt := 136) F.1 F.2.1 dX11_load_132 (by decide) ?_
    exact J136 1 _ _ _ h G hl
abbrev rmX11_errorCode : Room := ({ frames := 0, cells := 0, slots := 0, locals := 0 } : Room)
noncomputable def qX11_errorCode (z : Nat → Nat → Int32) : Option (Int32 × (Nat → Nat → Int32)) :=
  (bs (va_up z 0 (fun _ => 0)) fun z_1 => some ((z_1 28 0), z_1))

set_option maxHeartbeats 4000000 in
set_option maxRecDepth 100000 in
theorem mX11_errorCode (l : Launch) (D : va_G) (T : Nat → ClassId) (aM : Nat → Nat) (z : Nat → Nat → Int32) {rR : Int32} {zR : Nat → Nat → Int32} (hres : qX11_errorCode z = some (rR, zR)) : Ct l yX11_errorCode (Cond.code yX11_errorCode cX11_errorCode 1 (some .int) :: kAll) rmX11_errorCode D T [.ref (aM 0)] (gM T aM z) (some (.int rR)) (gM T aM zR) := by
  refine Ct.of (cc := cX11_errorCode) (maxL := 1) (ret := (some .int)) (by decide +kernel) rfl (Nat.le_of_ble_eq_true rfl) ?_
  intro pr en st mi ag bl me co A ls F hr hlk hnm G hl
  have hl : lv_has ls 1 [(0, .ref (aM 0))] := hl
  have h := hres
  unfold qX11_errorCode at h
  refine lv_aload_n F.1 F.2.1 dX11_errorCode_0 rfl (lv_at hl 0 rfl) ?_
  refine lv_iconst (v := 0) F.1 F.2.1 dX11_errorCode_1 (by decide) ?_
  obtain ⟨z_1, e9, h⟩ := op_st h
  refine k_put F G 0 rfl (N := 35) (Tt := TX11) rfl kf11 tyX11_ok nmX11 0 (by decide) kl804 rfl (v := .int 0) rfl rfl (Nat.le_of_ble_eq_true rfl) dX11_errorCode_2 (Wn := (gM T aM z_1)) (by subst e9; rfl) (fun H locs G => ?_)
  clear e9
  refine lv_aload_n F.1 F.2.1 dX11_errorCode_5 rfl (lv_at hl 0 rfl) ?_
  refine k_get F G 0 rfl (N := 35) (Tt := TX11) rfl kf11 28 (by decide) kl831 (v := .int (z_1 28 0)) rfl dX11_errorCode_6 ?_
  obtain ⟨rfl, rfl⟩ := op_2 h
  exact k_iret F hr hlk G dX11_errorCode_9
abbrev rmX11_errorPosition : Room := ({ frames := 0, cells := 0, slots := 0, locals := 0 } : Room)
noncomputable def qX11_errorPosition (z : Nat → Nat → Int32) : Option (Int32 × (Nat → Nat → Int32)) :=
  (bs (va_up z 0 (fun _ => 0)) fun z_1 => some ((z_1 29 0), z_1))

set_option maxHeartbeats 4000000 in
set_option maxRecDepth 100000 in
theorem mX11_errorPosition (l : Launch) (D : va_G) (T : Nat → ClassId) (aM : Nat → Nat) (z : Nat → Nat → Int32) {rR : Int32} {zR : Nat → Nat → Int32} (hres : qX11_errorPosition z = some (rR, zR)) : Ct l yX11_errorPosition (Cond.code yX11_errorPosition cX11_errorPosition 1 (some .int) :: kAll) rmX11_errorPosition D T [.ref (aM 0)] (gM T aM z) (some (.int rR)) (gM T aM zR) := by
  refine Ct.of (cc := cX11_errorPosition) (maxL := 1) (ret := (some .int)) (by decide +kernel) rfl (Nat.le_of_ble_eq_true rfl) ?_
  intro pr en st mi ag bl me co A ls F hr hlk hnm G hl
  have hl : lv_has ls 1 [(0, .ref (aM 0))] := hl
  have h := hres
  unfold qX11_errorPosition at h
  refine lv_aload_n F.1 F.2.1 dX11_errorPosition_0 rfl (lv_at hl 0 rfl) ?_
  refine lv_iconst (v := 0) F.1 F.2.1 dX11_errorPosition_1 (by decide) ?_
  obtain ⟨z_1, e9, h⟩ := op_st h
  refine k_put F G 0 rfl (N := 35) (Tt := TX11) rfl kf11 tyX11_ok nmX11 0 (by decide) kl804 rfl (v := .int 0) rfl rfl (Nat.le_of_ble_eq_true rfl) dX11_errorPosition_2 (Wn := (gM T aM z_1)) (by subst e9; rfl) (fun H locs G => ?_)
  clear e9
  refine lv_aload_n F.1 F.2.1 dX11_errorPosition_5 rfl (lv_at hl 0 rfl) ?_
  refine k_get F G 0 rfl (N := 35) (Tt := TX11) rfl kf11 29 (by decide) kl796 (v := .int (z_1 29 0)) rfl dX11_errorPosition_6 ?_
  obtain ⟨rfl, rfl⟩ := op_2 h
  exact k_iret F hr hlk G dX11_errorPosition_9
abbrev rmX11_find : Room := ({ frames := 1, cells := 0, slots := 0, locals := 27 } : Room)
noncomputable def qX11_find_L29 (z_5 : Nat → Nat → Int32) (K : Int32 → Option (Int32 × (Nat → Nat → Int32))) : Nat → Int32 → Int32 → Option (Int32 × (Nat → Nat → Int32))
  | 0, _, _ => none
  | n + 1, x1_3, x2_4 =>
    if (z_5 23 0) ≤ x2_4 then (K x1_3) else if x1_3 = 0 then (K x1_3) else gd (vp_in x2_4 900) ((jn (fun (y_7 : Int32) => (qX11_find_L29 z_5 K n y_7 (x2_4 + 1))) fun j55 => if ((z_5 16) x2_4.toNatClampNeg) = 0 then (j55 0) else (j55 1)))

noncomputable def qX11_find (z : Nat → Nat → Int32) : Option (Int32 × (Nat → Nat → Int32)) :=
  (bs (va_up z 0 (fun _ => 0)) fun z_1 => (jn (fun (y_2 : Int32) => (qX11_find_L29 z_1  (fun (x1_6 : Int32) => (jn (fun (y_8 : Int32) => (bs (va_up z_1 23 (fun _ => 0)) fun z_9 => (jn (fun (y_10 : Int32) => bd2 (qX11_may z_9 y_10 1) fun r_11 z_12 => if r_11 = 0 then some (0, z_12) else some (y_8, z_12)) fun j107 => if y_8 = (-1) then (j107 0) else (j107 1)))) fun j90 => if x1_6 = 0 then (j90 (-1)) else bd (qX11_whichOf 96 900 (z_1 9) (z_1 16) (z_1 1 0) 0 (z_1 23 0)) fun r_13 => (j90 r_13))) fu y_2 0 )) fun j26 => jn (fun (_ : Unit) => (j26 0)) fun j25 => if (z_1 23 0) ≤ 0 then (j25 ()) else if 8 < (z_1 23 0) then (j25 ()) else (j26 1)))

set_option maxHeartbeats 4000000 in
set_option maxRecDepth 100000 in
theorem mX11_find (l : Launch) (D : va_G) (T : Nat → ClassId) (aM : Nat → Nat) (z : Nat → Nat → Int32) {rR : Int32} {zR : Nat → Nat → Int32} (hres : qX11_find z = some (rR, zR)) : Ct l yX11_find (Cond.code yX11_find cX11_find 3 (some .int) :: kAll) rmX11_find D T [.ref (aM 0)] (gM T aM z) (some (.int rR)) (gM T aM zR) := by
  refine Ct.of (cc := cX11_find) (maxL := 3) (ret := (some .int)) (by decide +kernel) rfl (Nat.le_of_ble_eq_true rfl) ?_
  intro pr en st mi ag bl me co A ls F hr hlk hnm G hl
  have hl : lv_has ls 3 [(0, .ref (aM 0))] := hl
  have h := hres
  unfold qX11_find at h
  refine lv_aload_n F.1 F.2.1 dX11_find_0 rfl (lv_at hl 0 rfl) ?_
  refine lv_iconst (v := 0) F.1 F.2.1 dX11_find_1 (by decide) ?_
  obtain ⟨z_1, e9, h⟩ := op_st h
  refine k_put F G 0 rfl (N := 35) (Tt := TX11) rfl kf11 tyX11_ok nmX11 0 (by decide) kl804 rfl (v := .int 0) rfl rfl (Nat.le_of_ble_eq_true rfl) dX11_find_2 (Wn := (gM T aM z_1)) (by subst e9; rfl) (fun H locs G => ?_)
  clear e9
  refine lv_aload_n F.1 F.2.1 dX11_find_5 rfl (lv_at hl 0 rfl) ?_
  refine k_get F G 0 rfl (N := 35) (Tt := TX11) rfl kf11 23 (by decide) kl808 (v := .int (z_1 23 0)) rfl dX11_find_6 ?_
  obtain ⟨j26, hj26, h⟩ := op_j h
  have J26 : ∀ (y_2 : Int32) (H : Heap) (locs : List Loc) (ls : Array Slot), j26 y_2 = some (rR, zR) → Rg D T A st (gM T aM z_1) H locs → lv_has ls 3 [(0, .ref (aM 0))] → W pr l en rmX11_find st mi ag bl me co H locs 0 0 (MQ bl (kQ (some (.int rR)) D (gM T aM zR) A) ag st rmX11_find.cells rmX11_find.slots A) (F0 mi 26 ls [.int y_2]) := by
    intro y_2 H locs ls h G hl
    rw [hj26] at h
    refine lv_istore_n (lv' := [(1, .int y_2), (0, .ref (aM 0))]) F.1 F.2.1 dX11_find_26 rfl hl (by decide) rfl (fun ls hl => ?_)
    refine lv_iconst (v := 0) F.1 F.2.1 dX11_find_27 (by decide) ?_
    refine lv_istore_n (lv' := [(2, .int 0), (1, .int y_2), (0, .ref (aM 0))]) F.1 F.2.1 dX11_find_28 rfl hl (by decide) rfl (fun ls hl => ?_)
    have L29 : ∀ (z_5 : Nat → Nat → Int32) (K : Int32 → Option (Int32 × (Nat → Nat → Int32))) (hK : ∀ (x1_6 : Int32) (H : Heap) (locs : List Loc) (ls : Array Slot), K x1_6 = some (rR, zR) → Rg D T A st (gM T aM z_5) H locs → lv_has ls 3 [(0, .ref (aM 0)), (1, .int x1_6)] → W pr l en rmX11_find st mi ag bl me co H locs 0 0 (MQ bl (kQ (some (.int rR)) D (gM T aM zR) A) ag st rmX11_find.cells rmX11_find.slots A) (F0 mi 62 ls [])) (n : Nat) (x1_3 : Int32) (x2_4 : Int32) (H : Heap) (locs : List Loc) (ls : Array Slot), qX11_find_L29 z_5 K n x1_3 x2_4 = some (rR, zR) → Rg D T A st (gM T aM z_5) H locs → lv_has ls 3 [(0, .ref (aM 0)), (1, .int x1_3), (2, .int x2_4)] → W pr l en rmX11_find st mi ag bl me co H locs 0 0 (MQ bl (kQ (some (.int rR)) D (gM T aM zR) A) ag st rmX11_find.cells rmX11_find.slots A) (F0 mi 29 ls []) := by
      intro z_5 K hK n
      induction n with
      | zero => intro x1_3 x2_4 H locs ls h; exact op_n h
      | succ n ih =>
        intro x1_3 x2_4 H locs ls h G hl
        rw [qX11_find_L29] at h
        refine lv_iload_n F.1 F.2.1 dX11_find_29 rfl (lv_at hl 2 rfl) ?_
        refine lv_aload_n F.1 F.2.1 dX11_find_30 rfl (lv_at hl 0 rfl) ?_
        refine k_get F G 0 rfl (N := 35) (Tt := TX11) rfl kf11 23 (by decide) kl808 (v := .int (z_5 23 0)) rfl dX11_find_31 ?_
        refine lv_icmp_ge (tgt := 62) F.1 F.2.1 dX11_find_34 (by decide) (fun c => ?_) (fun c => ?_)
        · have h := op_t h c
          exact hK x1_3 _ _ _ h G (lv_sub hl [0, 1] rfl)
        · have h := op_f h c
          refine lv_iload_n F.1 F.2.1 dX11_find_37 rfl (lv_at hl 1 rfl) ?_
          refine lv_if_eq (tgt := 62) F.1 F.2.1 dX11_find_38 (by decide) (fun c => ?_) (fun c => ?_)
          · have h := op_t h c
            exact hK x1_3 _ _ _ h G (lv_sub hl [0, 1] rfl)
          · have h := op_f h c
            refine lv_aload_n F.1 F.2.1 dX11_find_41 rfl (lv_at hl 0 rfl) ?_
            refine k_get F G 0 rfl (N := 35) (Tt := TX11) rfl kf11 16 (by decide) kl795 (v := .ref (aM 11)) rfl dX11_find_42 ?_
            refine lv_iload_n F.1 F.2.1 dX11_find_45 rfl (lv_at hl 2 rfl) ?_
            obtain ⟨c, h⟩ := op_g h
            refine k_iald F G 11 rfl c dX11_find_46 ?_
            obtain ⟨j55, hj55, h⟩ := op_j h
            have J55 : ∀ (y_7 : Int32) (H : Heap) (locs : List Loc) (ls : Array Slot), j55 y_7 = some (rR, zR) → Rg D T A st (gM T aM z_5) H locs → lv_has ls 3 [(0, .ref (aM 0)), (2, .int x2_4)] → W pr l en rmX11_find st mi ag bl me co H locs 0 0 (MQ bl (kQ (some (.int rR)) D (gM T aM zR) A) ag st rmX11_find.cells rmX11_find.slots A) (F0 mi 55 ls [.int y_7]) := by
              intro y_7 H locs ls h G hl
              rw [hj55] at h
              refine lv_istore_n (lv' := [(1, .int y_7), (0, .ref (aM 0)), (2, .int x2_4)]) F.1 F.2.1 dX11_find_55 rfl hl (by decide) rfl (fun ls hl => ?_)
              refine lv_iinc (v := (x2_4 + 1)) (lv' := [(2, .int (x2_4 + 1)), (1, .int y_7), (0, .ref (aM 0))]) F.1 F.2.1 dX11_find_56 hl (k := 2) rfl rfl (by decide) rfl (fun ls hl => ?_)
              refine lv_goto (tgt := 29) F.1 F.2.1 dX11_find_59 (by decide) ?_
              exact ih y_7 (x2_4 + 1) _ _ _ h G (lv_sub hl [2, 1, 0] rfl)
            clear hj55
            refine lv_if_eq (tgt := 54) F.1 F.2.1 dX11_find_47 (by decide) (fun c => ?_) (fun c => ?_)
            · have h := op_t h c
              refine lv_iconst (v := 0) F.1 F.2.1 dX11_find_54 (by decide) ?_
              exact J55 0 _ _ _ h G (lv_sub hl [0, 2] rfl)
            · have h := op_f h c
              refine lv_iconst (v := 1) F.1 F.2.1 dX11_find_50 (by decide) ?_
              refine lv_goto (tgt := 55) F.1 F.2.1 dX11_find_51 (by decide) ?_
              exact J55 1 _ _ _ h G (lv_sub hl [0, 2] rfl)
    refine L29 z_1  _ (fun x1_6 H locs ls h G hl => ?_) fu y_2 0  _ _ _ h G (lv_sub hl [2, 1, 0] rfl)
    clear L29
    refine lv_iload_n F.1 F.2.1 dX11_find_62 rfl (lv_at hl 1 rfl) ?_
    obtain ⟨j90, hj90, h⟩ := op_j h
    have J90 : ∀ (y_8 : Int32) (H : Heap) (locs : List Loc) (ls : Array Slot), j90 y_8 = some (rR, zR) → Rg D T A st (gM T aM z_1) H locs → lv_has ls 3 [(0, .ref (aM 0))] → W pr l en rmX11_find st mi ag bl me co H locs 0 0 (MQ bl (kQ (some (.int rR)) D (gM T aM zR) A) ag st rmX11_find.cells rmX11_find.slots A) (F0 mi 90 ls [.int y_8]) := by
      intro y_8 H locs ls h G hl
      rw [hj90] at h
      refine lv_istore_n (lv' := [(2, .int y_8), (0, .ref (aM 0))]) F.1 F.2.1 dX11_find_90 rfl hl (by decide) rfl (fun ls hl => ?_)
      refine lv_aload_n F.1 F.2.1 dX11_find_91 rfl (lv_at hl 1 rfl) ?_
      refine lv_iconst (v := 0) F.1 F.2.1 dX11_find_92 (by decide) ?_
      obtain ⟨z_9, e9, h⟩ := op_st h
      refine k_put F G 0 rfl (N := 35) (Tt := TX11) rfl kf11 tyX11_ok nmX11 23 (by decide) kl808 rfl (v := .int 0) rfl rfl (Nat.le_of_ble_eq_true rfl) dX11_find_93 (Wn := (gM T aM z_9)) (by subst e9; rfl) (fun H locs G => ?_)
      clear e9
      refine lv_aload_n F.1 F.2.1 dX11_find_96 rfl (lv_at hl 1 rfl) ?_
      refine lv_iload_n F.1 F.2.1 dX11_find_97 rfl (lv_at hl 0 rfl) ?_
      refine lv_iconst (v := (-1)) F.1 F.2.1 dX11_find_98 (by decide) ?_
      obtain ⟨j107, hj107, h⟩ := op_j h
      have J107 : ∀ (y_10 : Int32) (H : Heap) (locs : List Loc) (ls : Array Slot), j107 y_10 = some (rR, zR) → Rg D T A st (gM T aM z_9) H locs → lv_has ls 3 [(2, .int y_8)] → W pr l en rmX11_find st mi ag bl me co H locs 0 0 (MQ bl (kQ (some (.int rR)) D (gM T aM zR) A) ag st rmX11_find.cells rmX11_find.slots A) (F0 mi 107 ls [.int y_10, .ref (aM 0)]) := by
        intro y_10 H locs ls h G hl
        rw [hj107] at h
        refine lv_iconst (v := 1) F.1 F.2.1 dX11_find_107 (by decide) ?_
        obtain ⟨r_11, z_12, hc, h⟩ := op_b2 h
        refine k_callV (rv := (some (.int r_11))) (Wc := (gM T aM z_9)) (W2 := (gM T aM z_12)) (Wn := (gM T aM z_12)) (As := [.int y_10, .int 1]) (rest := []) F G (mX11_may l D T aM z_9 y_10 1 hc) (cwV 2 F.2.2.2.2 (kg_c kl809 (kg_c kl810 (kg_c kl811 (kg_c kl788 (kg_c kl806 kg_a))))) rfl rfl rfl (by decide +kernel) ⟨Nat.le_of_ble_eq_true rfl, Nat.le_of_ble_eq_true rfl⟩) 0 rfl (q := (RX11, TX11, 35)) rfl rfl (kCut_F G) rfl hl.1 rfl (Nat.le_of_ble_eq_true rfl) dX11_find_108 ⟨Nat.le_of_ble_eq_true rfl, Nat.le_of_ble_eq_true rfl⟩ (cN := 0) (sN := 0) ⟨rfl, rfl⟩ (fun H locs G => ?_)
        refine lv_if_eq (tgt := 118) F.1 F.2.1 dX11_find_111 (by decide) (fun c => ?_) (fun c => ?_)
        · have h := op_t h c
          refine lv_iconst (v := 0) F.1 F.2.1 dX11_find_118 (by decide) ?_
          obtain ⟨rfl, rfl⟩ := op_2 h
          exact k_iret F hr hlk G dX11_find_119
        · have h := op_f h c
          refine lv_iload_n F.1 F.2.1 dX11_find_114 rfl (lv_at hl 0 rfl) ?_
          refine lv_goto (tgt := 119) F.1 F.2.1 dX11_find_115 (by decide) ?_
          obtain ⟨rfl, rfl⟩ := op_2 h
          exact k_iret F hr hlk G dX11_find_119
      clear hj107
      refine lv_icmp_eq (tgt := 106) F.1 F.2.1 dX11_find_99 (by decide) (fun c => ?_) (fun c => ?_)
      · have h := op_t h c
        refine lv_iconst (v := 0) F.1 F.2.1 dX11_find_106 (by decide) ?_
        exact J107 0 _ _ _ h G (lv_sub hl [0] rfl)
      · have h := op_f h c
        refine lv_iconst (v := 1) F.1 F.2.1 dX11_find_102 (by decide) ?_
        refine lv_goto (tgt := 107) F.1 F.2.1 dX11_find_103 (by decide) ?_
        exact J107 1 _ _ _ h G (lv_sub hl [0] rfl)
    clear hj90
    refine lv_if_eq (tgt := 89) F.1 F.2.1 dX11_find_63 (by decide) (fun c => ?_) (fun c => ?_)
    · have h := op_t h c
      refine lv_iconst (v := (-1)) F.1 F.2.1 dX11_find_89 (by decide) ?_
      exact J90 (-1) _ _ _ h G (lv_sub hl [0] rfl)
    · have h := op_f h c
      refine lv_aload_n F.1 F.2.1 dX11_find_66 rfl (lv_at hl 0 rfl) ?_
      refine k_get F G 0 rfl (N := 35) (Tt := TX11) rfl kf11 9 (by decide) kl781 (v := .ref (aM 5)) rfl dX11_find_67 ?_
      refine lv_aload_n F.1 F.2.1 dX11_find_70 rfl (lv_at hl 0 rfl) ?_
      refine k_get F G 0 rfl (N := 35) (Tt := TX11) rfl kf11 1 (by decide) kl769 (v := .int (z_1 1 0)) rfl dX11_find_71 ?_
      refine lv_aload_n F.1 F.2.1 dX11_find_74 rfl (lv_at hl 0 rfl) ?_
      refine k_get F G 0 rfl (N := 35) (Tt := TX11) rfl kf11 16 (by decide) kl795 (v := .ref (aM 11)) rfl dX11_find_75 ?_
      refine lv_iconst (v := 0) F.1 F.2.1 dX11_find_78 (by decide) ?_
      refine lv_aload_n F.1 F.2.1 dX11_find_79 rfl (lv_at hl 0 rfl) ?_
      refine k_get F G 0 rfl (N := 35) (Tt := TX11) rfl kf11 23 (by decide) kl808 (v := .int (z_1 23 0)) rfl dX11_find_80 ?_
      obtain ⟨r_13, hc, h⟩ := op_b h
      refine k_callS (rv := (some (.int r_13))) (Wc := (gFW T (aM 5) (aM 11) 96 900 (z_1 9) (z_1 16))) (W2 := (gFW T (aM 5) (aM 11) 96 900 (z_1 9) (z_1 16))) (Wn := (gM T aM z_1)) (As := [.ref (aM 5), .int (z_1 1 0), .ref (aM 11), .int 0, .int (z_1 23 0)]) (rest := []) F G (mX11_whichOf l D T (aM 5) (aM 11) 96 900 (z_1 9) (z_1 16) (z_1 1 0) 0 (z_1 23 0) hc) (va_cwS 5 F.2.2.2.2 (kg_c kl857 (kg_c kl858 (kg_c kl788 (kg_c kl851 kg_a)))) rfl rfl rfl (by decide +kernel) ⟨Nat.le_of_ble_eq_true rfl, Nat.le_of_ble_eq_true rfl⟩) (kCut_R G [5, 11] rfl rfl) rfl hl.1 rfl (Nat.le_of_ble_eq_true rfl) dX11_find_83 ⟨Nat.le_of_ble_eq_true rfl, Nat.le_of_ble_eq_true rfl⟩ (cN := 0) (sN := 0) ⟨rfl, rfl⟩ (fun H locs G => ?_)
      refine lv_goto (tgt := 90) F.1 F.2.1 dX11_find_86 (by decide) ?_
      exact J90 r_13 _ _ _ h G (lv_sub hl [0] rfl)
  clear hj26
  obtain ⟨j25, hj25, h⟩ := op_j h
  have J25 : ∀ (H : Heap) (locs : List Loc) (ls : Array Slot), j25 () = some (rR, zR) → Rg D T A st (gM T aM z_1) H locs → lv_has ls 3 [(0, .ref (aM 0))] → W pr l en rmX11_find st mi ag bl me co H locs 0 0 (MQ bl (kQ (some (.int rR)) D (gM T aM zR) A) ag st rmX11_find.cells rmX11_find.slots A) (F0 mi 25 ls []) := by
    intro H locs ls h G hl
    rw [hj25] at h
    refine lv_iconst (v := 0) F.1 F.2.1 dX11_find_25 (by decide) ?_
    exact J26 0 _ _ _ h G hl
  clear hj25
  refine lv_if_le (tgt := 25) F.1 F.2.1 dX11_find_9 (by decide) (fun c => ?_) (fun c => ?_)
  · have h := op_t h c
    exact J25 _ _ _ h G hl
  · have h := op_f h c
    refine lv_aload_n F.1 F.2.1 dX11_find_12 rfl (lv_at hl 0 rfl) ?_
    refine k_get F G 0 rfl (N := 35) (Tt := TX11) rfl kf11 23 (by decide) kl808 (v := .int (z_1 23 0)) rfl dX11_find_13 ?_
    refine lv_bipush (v := 8) F.1 F.2.1 dX11_find_16 (by decide) ?_
    refine lv_icmp_gt (tgt := 25) F.1 F.2.1 dX11_find_18 (by decide) (fun c => ?_) (fun c => ?_)
    · have h := op_t h c
      exact J25 _ _ _ h G hl
    · have h := op_f h c
      refine lv_iconst (v := 1) F.1 F.2.1 dX11_find_21 (by decide) ?_
      refine lv_goto (tgt := 26) F.1 F.2.1 dX11_find_22 (by decide) ?_
      exact J26 1 _ _ _ h G hl
abbrev rmX11_isOutlet : Room := ({ frames := 1, cells := 0, slots := 0, locals := 25 } : Room)
noncomputable def qX11_isOutlet (z : Nat → Nat → Int32) (x1 : Int32) : Option (Int32) :=
  bd (qX11_isIn x1.toInt64 0 (((z 1 0) - 1).toInt64)) fun r_1 => gd (narrow .boolean (.int r_1) = .int r_1) (some r_1)

set_option maxHeartbeats 4000000 in
set_option maxRecDepth 100000 in
theorem mX11_isOutlet (l : Launch) (D : va_G) (T : Nat → ClassId) (aM : Nat → Nat) (z : Nat → Nat → Int32) (x1 : Int32) {rR : Int32} (hres : qX11_isOutlet z x1 = some (rR)) : Ct l yX11_isOutlet (Cond.code yX11_isOutlet cX11_isOutlet 2 (some .boolean) :: kAll) rmX11_isOutlet D T [.ref (aM 0), .int x1] (gM T aM z) (some (.int rR)) (gM T aM z) := by
  refine Ct.of (cc := cX11_isOutlet) (maxL := 2) (ret := (some .boolean)) (by decide +kernel) rfl (Nat.le_of_ble_eq_true rfl) ?_
  intro pr en st mi ag bl me co A ls F hr hlk hnm G hl
  have hl : lv_has ls 2 [(0, .ref (aM 0)), (1, .int x1)] := hl
  have h := hres
  unfold qX11_isOutlet at h
  refine lv_iload_n F.1 F.2.1 dX11_isOutlet_0 rfl (lv_at hl 1 rfl) ?_
  refine lv_i2l (v := x1.toInt64) F.1 F.2.1 dX11_isOutlet_1 rfl ?_
  refine lv_lconst (v := 0) F.1 F.2.1 dX11_isOutlet_2 (by decide) ?_
  refine lv_aload_n F.1 F.2.1 dX11_isOutlet_3 rfl (lv_at hl 0 rfl) ?_
  refine k_get F G 0 rfl (N := 35) (Tt := TX11) rfl kf11 1 (by decide) kl769 (v := .int (z 1 0)) rfl dX11_isOutlet_4 ?_
  refine lv_iconst (v := 1) F.1 F.2.1 dX11_isOutlet_7 (by decide) ?_
  refine lv_isub F.1 F.2.1 dX11_isOutlet_8 ?_
  refine lv_i2l (v := ((z 1 0) - 1).toInt64) F.1 F.2.1 dX11_isOutlet_9 rfl ?_
  obtain ⟨r_1, hc, h⟩ := op_b h
  refine k_callS (rv := (some (.int r_1))) (Wc := ([] : va_W)) (W2 := ([] : va_W)) (Wn := (gM T aM z)) (As := [.long x1.toInt64, .long 0, .long (((z 1 0) - 1).toInt64)]) (rest := []) F G (mX11_isIn l D T x1.toInt64 0 (((z 1 0) - 1).toInt64) hc) (va_cwS 3 F.2.2.2.2 (kg_c kl813 (kg_c kl814 (kg_c kl788 (kg_c kl805 kg_a)))) rfl rfl rfl (by decide +kernel) ⟨Nat.le_of_ble_eq_true rfl, Nat.le_of_ble_eq_true rfl⟩) (kCut_0 G) rfl hl.1 rfl (Nat.le_of_ble_eq_true rfl) dX11_isOutlet_10 ⟨Nat.le_of_ble_eq_true rfl, Nat.le_of_ble_eq_true rfl⟩ (cN := 0) (sN := 0) ⟨rfl, rfl⟩ (fun H locs G => ?_)
  obtain ⟨c, h⟩ := op_g h
  obtain rfl := op_1 h
  exact k_zret F hr c hlk G dX11_isOutlet_13
abbrev rmX11_count : Room := ({ frames := 1, cells := 0, slots := 0, locals := 25 } : Room)
noncomputable def qX11_count (z : Nat → Nat → Int32) (x1 : Int32) : Option (Int32 × (Nat → Nat → Int32)) :=
  (bs (va_up z 0 (fun _ => 0)) fun z_1 => bd (qX11_isIn x1.toInt64 0 13) fun r_2 => bd2 (qX11_may z_1 r_2 1) fun r_3 z_4 => if r_3 = 0 then some (0, z_4) else (if x1 = 0 then some ((z_4 1 0), z_4) else if x1 = 1 then some ((z_4 2 0), z_4) else if x1 = 2 then some (((z_4 10) 0), z_4) else if x1 = 3 then bd (qX11_isDark z_4 (z_4 10)) fun r_5 => if r_5 = 0 then some (1, z_4) else some (0, z_4) else if x1 = 4 then some (((z_4 10) 2), z_4) else if x1 = 5 then some (((z_4 10) 3), z_4) else if x1 = 6 then some (((z_4 10) 11), z_4) else if x1 = 7 then some (((z_4 10) 4), z_4) else if x1 = 8 then some (((z_4 10) 5), z_4) else if x1 = 9 then some (((z_4 10) 6), z_4) else if x1 = 10 then some (((z_4 10) 7), z_4) else if x1 = 11 then some (((z_4 10) 8), z_4) else if x1 = 12 then some (((z_4 10) 9), z_4) else some ((z_4 15 0), z_4)))

set_option maxHeartbeats 4000000 in
set_option maxRecDepth 100000 in
theorem mX11_count (l : Launch) (D : va_G) (T : Nat → ClassId) (aM : Nat → Nat) (z : Nat → Nat → Int32) (x1 : Int32) {rR : Int32} {zR : Nat → Nat → Int32} (hres : qX11_count z x1 = some (rR, zR)) : Ct l yX11_count (Cond.code yX11_count cX11_count 2 (some .int) :: kAll) rmX11_count D T [.ref (aM 0), .int x1] (gM T aM z) (some (.int rR)) (gM T aM zR) := by
  refine Ct.of (cc := cX11_count) (maxL := 2) (ret := (some .int)) (by decide +kernel) rfl (Nat.le_of_ble_eq_true rfl) ?_
  intro pr en st mi ag bl me co A ls F hr hlk hnm G hl
  have hl : lv_has ls 2 [(0, .ref (aM 0)), (1, .int x1)] := hl
  have h := hres
  unfold qX11_count at h
  refine lv_aload_n F.1 F.2.1 dX11_count_0 rfl (lv_at hl 0 rfl) ?_
  refine lv_iconst (v := 0) F.1 F.2.1 dX11_count_1 (by decide) ?_
  obtain ⟨z_1, e9, h⟩ := op_st h
  refine k_put F G 0 rfl (N := 35) (Tt := TX11) rfl kf11 tyX11_ok nmX11 0 (by decide) kl804 rfl (v := .int 0) rfl rfl (Nat.le_of_ble_eq_true rfl) dX11_count_2 (Wn := (gM T aM z_1)) (by subst e9; rfl) (fun H locs G => ?_)
  clear e9
  refine lv_aload_n F.1 F.2.1 dX11_count_5 rfl (lv_at hl 0 rfl) ?_
  refine lv_iload_n F.1 F.2.1 dX11_count_6 rfl (lv_at hl 1 rfl) ?_
  refine lv_i2l (v := x1.toInt64) F.1 F.2.1 dX11_count_7 rfl ?_
  refine lv_lconst (v := 0) F.1 F.2.1 dX11_count_8 (by decide) ?_
  refine lv_ldc2 (v := 13) F.1 F.2.1 F.2.2.2.1 (F.2.2.2.2 _ kl986) dX11_count_9 ?_
  obtain ⟨r_2, hc, h⟩ := op_b h
  refine k_callS (rv := (some (.int r_2))) (Wc := ([] : va_W)) (W2 := ([] : va_W)) (Wn := (gM T aM z_1)) (As := [.long x1.toInt64, .long 0, .long 13]) (rest := [.ref (aM 0)]) F G (mX11_isIn l D T x1.toInt64 0 13 hc) (va_cwS 3 F.2.2.2.2 (kg_c kl813 (kg_c kl814 (kg_c kl788 (kg_c kl805 kg_a)))) rfl rfl rfl (by decide +kernel) ⟨Nat.le_of_ble_eq_true rfl, Nat.le_of_ble_eq_true rfl⟩) (kCut_0 G) rfl hl.1 rfl (Nat.le_of_ble_eq_true rfl) dX11_count_12 ⟨Nat.le_of_ble_eq_true rfl, Nat.le_of_ble_eq_true rfl⟩ (cN := 0) (sN := 0) ⟨rfl, rfl⟩ (fun H locs G => ?_)
  refine lv_iconst (v := 1) F.1 F.2.1 dX11_count_15 (by decide) ?_
  obtain ⟨r_3, z_4, hc, h⟩ := op_b2 h
  refine k_callV (rv := (some (.int r_3))) (Wc := (gM T aM z_1)) (W2 := (gM T aM z_4)) (Wn := (gM T aM z_4)) (As := [.int r_2, .int 1]) (rest := []) F G (mX11_may l D T aM z_1 r_2 1 hc) (cwV 2 F.2.2.2.2 (kg_c kl809 (kg_c kl810 (kg_c kl811 (kg_c kl788 (kg_c kl806 kg_a))))) rfl rfl rfl (by decide +kernel) ⟨Nat.le_of_ble_eq_true rfl, Nat.le_of_ble_eq_true rfl⟩) 0 rfl (q := (RX11, TX11, 35)) rfl rfl (kCut_F G) rfl hl.1 rfl (Nat.le_of_ble_eq_true rfl) dX11_count_16 ⟨Nat.le_of_ble_eq_true rfl, Nat.le_of_ble_eq_true rfl⟩ (cN := 0) (sN := 0) ⟨rfl, rfl⟩ (fun H locs G => ?_)
  refine lv_if_ne (tgt := 24) F.1 F.2.1 dX11_count_19 (by decide) (fun c => ?_) (fun c => ?_)
  · have h := op_f h c
    refine lv_iload_n F.1 F.2.1 dX11_count_24 rfl (lv_at hl 1 rfl) ?_
    by_cases c0 : x1 = 0
    · have h := op_t h c0
      refine k_tab F dX11_count_25 (tgt := 92) 0 c0 (by decide) (by decide) rfl (by decide) ?_
      refine lv_aload_n F.1 F.2.1 dX11_count_92 rfl (lv_at hl 0 rfl) ?_
      refine k_get F G 0 rfl (N := 35) (Tt := TX11) rfl kf11 1 (by decide) kl769 (v := .int (z_4 1 0)) rfl dX11_count_93 ?_
      obtain ⟨rfl, rfl⟩ := op_2 h
      exact k_iret F hr hlk G dX11_count_96
    · have h := op_f h c0
      by_cases c1 : x1 = 1
      · have h := op_t h c1
        refine k_tab F dX11_count_25 (tgt := 97) 1 c1 (by decide) (by decide) rfl (by decide) ?_
        refine lv_aload_n F.1 F.2.1 dX11_count_97 rfl (lv_at hl 0 rfl) ?_
        refine k_get F G 0 rfl (N := 35) (Tt := TX11) rfl kf11 2 (by decide) kl770 (v := .int (z_4 2 0)) rfl dX11_count_98 ?_
        obtain ⟨rfl, rfl⟩ := op_2 h
        exact k_iret F hr hlk G dX11_count_101
      · have h := op_f h c1
        by_cases c2 : x1 = 2
        · have h := op_t h c2
          refine k_tab F dX11_count_25 (tgt := 102) 2 c2 (by decide) (by decide) rfl (by decide) ?_
          refine lv_aload_n F.1 F.2.1 dX11_count_102 rfl (lv_at hl 0 rfl) ?_
          refine k_get F G 0 rfl (N := 35) (Tt := TX11) rfl kf11 10 (by decide) kl783 (v := .ref (aM 6)) rfl dX11_count_103 ?_
          refine lv_iconst (v := 0) F.1 F.2.1 dX11_count_106 (by decide) ?_
          refine k_ialdN F G 6 rfl (kin (by decide +kernel)) 0 (by decide +kernel) dX11_count_107 ?_
          obtain ⟨rfl, rfl⟩ := op_2 h
          exact k_iret F hr hlk G dX11_count_108
        · have h := op_f h c2
          by_cases c3 : x1 = 3
          · have h := op_t h c3
            refine k_tab F dX11_count_25 (tgt := 109) 3 c3 (by decide) (by decide) rfl (by decide) ?_
            refine lv_aload_n F.1 F.2.1 dX11_count_109 rfl (lv_at hl 0 rfl) ?_
            refine lv_aload_n F.1 F.2.1 dX11_count_110 rfl (lv_at hl 0 rfl) ?_
            refine k_get F G 0 rfl (N := 35) (Tt := TX11) rfl kf11 10 (by decide) kl783 (v := .ref (aM 6)) rfl dX11_count_111 ?_
            obtain ⟨r_5, hc, h⟩ := op_b h
            refine k_callV (rv := (some (.int r_5))) (Wc := (gMR T aM (aM 6) z_4 (z_4 10))) (W2 := (gMR T aM (aM 6) z_4 (z_4 10))) (Wn := (gM T aM z_4)) (As := [.ref (aM 6)]) (rest := []) F G (mX11_isDark l D T aM (aM 6) z_4 (z_4 10) hc) (cwV 1 F.2.2.2.2 (kg_c kl963 (kg_c kl964 (kg_c kl965 (kg_c kl788 (kg_c kl923 kg_a))))) rfl rfl rfl (by decide +kernel) ⟨Nat.le_of_ble_eq_true rfl, Nat.le_of_ble_eq_true rfl⟩) 0 rfl (q := (RX11, TX11, 35)) rfl rfl (kCut_R G [0, 1, 2, 3, 4, 6] rfl rfl) rfl hl.1 rfl (Nat.le_of_ble_eq_true rfl) dX11_count_114 ⟨Nat.le_of_ble_eq_true rfl, Nat.le_of_ble_eq_true rfl⟩ (cN := 0) (sN := 0) ⟨rfl, rfl⟩ (fun H locs G => ?_)
            refine lv_if_eq (tgt := 124) F.1 F.2.1 dX11_count_117 (by decide) (fun c => ?_) (fun c => ?_)
            · have h := op_t h c
              refine lv_iconst (v := 1) F.1 F.2.1 dX11_count_124 (by decide) ?_
              obtain ⟨rfl, rfl⟩ := op_2 h
              exact k_iret F hr hlk G dX11_count_125
            · have h := op_f h c
              refine lv_iconst (v := 0) F.1 F.2.1 dX11_count_120 (by decide) ?_
              refine lv_goto (tgt := 125) F.1 F.2.1 dX11_count_121 (by decide) ?_
              obtain ⟨rfl, rfl⟩ := op_2 h
              exact k_iret F hr hlk G dX11_count_125
          · have h := op_f h c3
            by_cases c4 : x1 = 4
            · have h := op_t h c4
              refine k_tab F dX11_count_25 (tgt := 126) 4 c4 (by decide) (by decide) rfl (by decide) ?_
              refine lv_aload_n F.1 F.2.1 dX11_count_126 rfl (lv_at hl 0 rfl) ?_
              refine k_get F G 0 rfl (N := 35) (Tt := TX11) rfl kf11 10 (by decide) kl783 (v := .ref (aM 6)) rfl dX11_count_127 ?_
              refine lv_iconst (v := 2) F.1 F.2.1 dX11_count_130 (by decide) ?_
              refine k_ialdN F G 6 rfl (kin (by decide +kernel)) 2 (by decide +kernel) dX11_count_131 ?_
              obtain ⟨rfl, rfl⟩ := op_2 h
              exact k_iret F hr hlk G dX11_count_132
            · have h := op_f h c4
              by_cases c5 : x1 = 5
              · have h := op_t h c5
                refine k_tab F dX11_count_25 (tgt := 133) 5 c5 (by decide) (by decide) rfl (by decide) ?_
                refine lv_aload_n F.1 F.2.1 dX11_count_133 rfl (lv_at hl 0 rfl) ?_
                refine k_get F G 0 rfl (N := 35) (Tt := TX11) rfl kf11 10 (by decide) kl783 (v := .ref (aM 6)) rfl dX11_count_134 ?_
                refine lv_iconst (v := 3) F.1 F.2.1 dX11_count_137 (by decide) ?_
                refine k_ialdN F G 6 rfl (kin (by decide +kernel)) 3 (by decide +kernel) dX11_count_138 ?_
                obtain ⟨rfl, rfl⟩ := op_2 h
                exact k_iret F hr hlk G dX11_count_139
              · have h := op_f h c5
                by_cases c6 : x1 = 6
                · have h := op_t h c6
                  refine k_tab F dX11_count_25 (tgt := 140) 6 c6 (by decide) (by decide) rfl (by decide) ?_
                  refine lv_aload_n F.1 F.2.1 dX11_count_140 rfl (lv_at hl 0 rfl) ?_
                  refine k_get F G 0 rfl (N := 35) (Tt := TX11) rfl kf11 10 (by decide) kl783 (v := .ref (aM 6)) rfl dX11_count_141 ?_
                  refine lv_bipush (v := 11) F.1 F.2.1 dX11_count_144 (by decide) ?_
                  refine k_ialdN F G 6 rfl (kin (by decide +kernel)) 11 (by decide +kernel) dX11_count_146 ?_
                  obtain ⟨rfl, rfl⟩ := op_2 h
                  exact k_iret F hr hlk G dX11_count_147
                · have h := op_f h c6
                  by_cases c7 : x1 = 7
                  · have h := op_t h c7
                    refine k_tab F dX11_count_25 (tgt := 148) 7 c7 (by decide) (by decide) rfl (by decide) ?_
                    refine lv_aload_n F.1 F.2.1 dX11_count_148 rfl (lv_at hl 0 rfl) ?_
                    refine k_get F G 0 rfl (N := 35) (Tt := TX11) rfl kf11 10 (by decide) kl783 (v := .ref (aM 6)) rfl dX11_count_149 ?_
                    refine lv_iconst (v := 4) F.1 F.2.1 dX11_count_152 (by decide) ?_
                    refine k_ialdN F G 6 rfl (kin (by decide +kernel)) 4 (by decide +kernel) dX11_count_153 ?_
                    obtain ⟨rfl, rfl⟩ := op_2 h
                    exact k_iret F hr hlk G dX11_count_154
                  · have h := op_f h c7
                    by_cases c8 : x1 = 8
                    · have h := op_t h c8
                      refine k_tab F dX11_count_25 (tgt := 155) 8 c8 (by decide) (by decide) rfl (by decide) ?_
                      refine lv_aload_n F.1 F.2.1 dX11_count_155 rfl (lv_at hl 0 rfl) ?_
                      refine k_get F G 0 rfl (N := 35) (Tt := TX11) rfl kf11 10 (by decide) kl783 (v := .ref (aM 6)) rfl dX11_count_156 ?_
                      refine lv_iconst (v := 5) F.1 F.2.1 dX11_count_159 (by decide) ?_
                      refine k_ialdN F G 6 rfl (kin (by decide +kernel)) 5 (by decide +kernel) dX11_count_160 ?_
                      obtain ⟨rfl, rfl⟩ := op_2 h
                      exact k_iret F hr hlk G dX11_count_161
                    · have h := op_f h c8
                      by_cases c9 : x1 = 9
                      · have h := op_t h c9
                        refine k_tab F dX11_count_25 (tgt := 162) 9 c9 (by decide) (by decide) rfl (by decide) ?_
                        refine lv_aload_n F.1 F.2.1 dX11_count_162 rfl (lv_at hl 0 rfl) ?_
                        refine k_get F G 0 rfl (N := 35) (Tt := TX11) rfl kf11 10 (by decide) kl783 (v := .ref (aM 6)) rfl dX11_count_163 ?_
                        refine lv_bipush (v := 6) F.1 F.2.1 dX11_count_166 (by decide) ?_
                        refine k_ialdN F G 6 rfl (kin (by decide +kernel)) 6 (by decide +kernel) dX11_count_168 ?_
                        obtain ⟨rfl, rfl⟩ := op_2 h
                        exact k_iret F hr hlk G dX11_count_169
                      · have h := op_f h c9
                        by_cases c10 : x1 = 10
                        · have h := op_t h c10
                          refine k_tab F dX11_count_25 (tgt := 170) 10 c10 (by decide) (by decide) rfl (by decide) ?_
                          refine lv_aload_n F.1 F.2.1 dX11_count_170 rfl (lv_at hl 0 rfl) ?_
                          refine k_get F G 0 rfl (N := 35) (Tt := TX11) rfl kf11 10 (by decide) kl783 (v := .ref (aM 6)) rfl dX11_count_171 ?_
                          refine lv_bipush (v := 7) F.1 F.2.1 dX11_count_174 (by decide) ?_
                          refine k_ialdN F G 6 rfl (kin (by decide +kernel)) 7 (by decide +kernel) dX11_count_176 ?_
                          obtain ⟨rfl, rfl⟩ := op_2 h
                          exact k_iret F hr hlk G dX11_count_177
                        · have h := op_f h c10
                          by_cases c11 : x1 = 11
                          · have h := op_t h c11
                            refine k_tab F dX11_count_25 (tgt := 178) 11 c11 (by decide) (by decide) rfl (by decide) ?_
                            refine lv_aload_n F.1 F.2.1 dX11_count_178 rfl (lv_at hl 0 rfl) ?_
                            refine k_get F G 0 rfl (N := 35) (Tt := TX11) rfl kf11 10 (by decide) kl783 (v := .ref (aM 6)) rfl dX11_count_179 ?_
                            refine lv_bipush (v := 8) F.1 F.2.1 dX11_count_182 (by decide) ?_
                            refine k_ialdN F G 6 rfl (kin (by decide +kernel)) 8 (by decide +kernel) dX11_count_184 ?_
                            obtain ⟨rfl, rfl⟩ := op_2 h
                            exact k_iret F hr hlk G dX11_count_185
                          · have h := op_f h c11
                            by_cases c12 : x1 = 12
                            · have h := op_t h c12
                              refine k_tab F dX11_count_25 (tgt := 186) 12 c12 (by decide) (by decide) rfl (by decide) ?_
                              refine lv_aload_n F.1 F.2.1 dX11_count_186 rfl (lv_at hl 0 rfl) ?_
                              refine k_get F G 0 rfl (N := 35) (Tt := TX11) rfl kf11 10 (by decide) kl783 (v := .ref (aM 6)) rfl dX11_count_187 ?_
                              refine lv_bipush (v := 9) F.1 F.2.1 dX11_count_190 (by decide) ?_
                              refine k_ialdN F G 6 rfl (kin (by decide +kernel)) 9 (by decide +kernel) dX11_count_192 ?_
                              obtain ⟨rfl, rfl⟩ := op_2 h
                              exact k_iret F hr hlk G dX11_count_193
                            · have h := op_f h c12
                              refine lv_tableOut (tgt := 194) F.1 F.2.1 dX11_count_25 (tab_out 13 (by decide) (lt_s (lt_s (lt_s (lt_s (lt_s (lt_s (lt_s (lt_s (lt_s (lt_s (lt_s (lt_s (lt_s lt_0 c0) c1) c2) c3) c4) c5) c6) c7) c8) c9) c10) c11) c12)) (by decide) ?_
                              refine lv_aload_n F.1 F.2.1 dX11_count_194 rfl (lv_at hl 0 rfl) ?_
                              refine k_get F G 0 rfl (N := 35) (Tt := TX11) rfl kf11 15 (by decide) kl784 (v := .int (z_4 15 0)) rfl dX11_count_195 ?_
                              obtain ⟨rfl, rfl⟩ := op_2 h
                              exact k_iret F hr hlk G dX11_count_198
  · have h := op_t h c
    refine lv_iconst (v := 0) F.1 F.2.1 dX11_count_22 (by decide) ?_
    obtain ⟨rfl, rfl⟩ := op_2 h
    exact k_iret F hr hlk G dX11_count_23
abbrev rmX11_outlet : Room := ({ frames := 2, cells := 0, slots := 0, locals := 46 } : Room)
noncomputable def qX11_outlet (z : Nat → Nat → Int32) (x1 : Int32) (x2 : Int32) : Option (Int32 × (Nat → Nat → Int32)) :=
  (bs (va_up z 0 (fun _ => 0)) fun z_1 => bd (qX11_isOutlet z_1 x1) fun r_2 => bd2 (qX11_may z_1 r_2 1) fun r_3 z_4 => if r_3 = 0 then some (0, z_4) else bd (qX11_isIn x2.toInt64 0 9) fun r_5 => bd2 (qX11_may z_4 r_5 2) fun r_6 z_7 => if r_6 = 0 then some (0, z_7) else if 4 ≤ x2 then bd (qX11_at x1 (x2 - 4)) fun r_8 => gd (vp_in r_8 411) (some (((z_7 10) r_8.toNatClampNeg), z_7)) else gd (vp_in ((4 * x1) + x2) 48) (some (((z_7 5) ((4 * x1) + x2).toNatClampNeg), z_7)))

set_option maxHeartbeats 4000000 in
set_option maxRecDepth 100000 in
theorem mX11_outlet (l : Launch) (D : va_G) (T : Nat → ClassId) (aM : Nat → Nat) (z : Nat → Nat → Int32) (x1 : Int32) (x2 : Int32) {rR : Int32} {zR : Nat → Nat → Int32} (hres : qX11_outlet z x1 x2 = some (rR, zR)) : Ct l yX11_outlet (Cond.code yX11_outlet cX11_outlet 3 (some .int) :: kAll) rmX11_outlet D T [.ref (aM 0), .int x1, .int x2] (gM T aM z) (some (.int rR)) (gM T aM zR) := by
  refine Ct.of (cc := cX11_outlet) (maxL := 3) (ret := (some .int)) (by decide +kernel) rfl (Nat.le_of_ble_eq_true rfl) ?_
  intro pr en st mi ag bl me co A ls F hr hlk hnm G hl
  have hl : lv_has ls 3 [(0, .ref (aM 0)), (1, .int x1), (2, .int x2)] := hl
  have h := hres
  unfold qX11_outlet at h
  refine lv_aload_n F.1 F.2.1 dX11_outlet_0 rfl (lv_at hl 0 rfl) ?_
  refine lv_iconst (v := 0) F.1 F.2.1 dX11_outlet_1 (by decide) ?_
  obtain ⟨z_1, e9, h⟩ := op_st h
  refine k_put F G 0 rfl (N := 35) (Tt := TX11) rfl kf11 tyX11_ok nmX11 0 (by decide) kl804 rfl (v := .int 0) rfl rfl (Nat.le_of_ble_eq_true rfl) dX11_outlet_2 (Wn := (gM T aM z_1)) (by subst e9; rfl) (fun H locs G => ?_)
  clear e9
  refine lv_aload_n F.1 F.2.1 dX11_outlet_5 rfl (lv_at hl 0 rfl) ?_
  refine lv_aload_n F.1 F.2.1 dX11_outlet_6 rfl (lv_at hl 0 rfl) ?_
  refine lv_iload_n F.1 F.2.1 dX11_outlet_7 rfl (lv_at hl 1 rfl) ?_
  obtain ⟨r_2, hc, h⟩ := op_b h
  refine k_callV (rv := (some (.int r_2))) (Wc := (gM T aM z_1)) (W2 := (gM T aM z_1)) (Wn := (gM T aM z_1)) (As := [.int x1]) (rest := [.ref (aM 0)]) F G (mX11_isOutlet l D T aM z_1 x1 hc) (cwV 1 F.2.2.2.2 (kg_c kl989 (kg_c kl990 (kg_c kl991 (kg_c kl788 (kg_c kl984 kg_a))))) rfl rfl rfl (by decide +kernel) ⟨Nat.le_of_ble_eq_true rfl, Nat.le_of_ble_eq_true rfl⟩) 0 rfl (q := (RX11, TX11, 35)) rfl rfl (kCut_F G) rfl hl.1 rfl (Nat.le_of_ble_eq_true rfl) dX11_outlet_8 ⟨Nat.le_of_ble_eq_true rfl, Nat.le_of_ble_eq_true rfl⟩ (cN := 0) (sN := 0) ⟨rfl, rfl⟩ (fun H locs G => ?_)
  refine lv_iconst (v := 1) F.1 F.2.1 dX11_outlet_11 (by decide) ?_
  obtain ⟨r_3, z_4, hc, h⟩ := op_b2 h
  refine k_callV (rv := (some (.int r_3))) (Wc := (gM T aM z_1)) (W2 := (gM T aM z_4)) (Wn := (gM T aM z_4)) (As := [.int r_2, .int 1]) (rest := []) F G (mX11_may l D T aM z_1 r_2 1 hc) (cwV 2 F.2.2.2.2 (kg_c kl809 (kg_c kl810 (kg_c kl811 (kg_c kl788 (kg_c kl806 kg_a))))) rfl rfl rfl (by decide +kernel) ⟨Nat.le_of_ble_eq_true rfl, Nat.le_of_ble_eq_true rfl⟩) 0 rfl (q := (RX11, TX11, 35)) rfl rfl (kCut_F G) rfl hl.1 rfl (Nat.le_of_ble_eq_true rfl) dX11_outlet_12 ⟨Nat.le_of_ble_eq_true rfl, Nat.le_of_ble_eq_true rfl⟩ (cN := 0) (sN := 0) ⟨rfl, rfl⟩ (fun H locs G => ?_)
  refine lv_if_eq (tgt := 35) F.1 F.2.1 dX11_outlet_15 (by decide) (fun c => ?_) (fun c => ?_)
  · have h := op_t h c
    refine lv_iconst (v := 0) F.1 F.2.1 dX11_outlet_35 (by decide) ?_
    obtain ⟨rfl, rfl⟩ := op_2 h
    exact k_iret F hr hlk G dX11_outlet_36
  · have h := op_f h c
    refine lv_aload_n F.1 F.2.1 dX11_outlet_18 rfl (lv_at hl 0 rfl) ?_
    refine lv_iload_n F.1 F.2.1 dX11_outlet_19 rfl (lv_at hl 2 rfl) ?_
    refine lv_i2l (v := x2.toInt64) F.1 F.2.1 dX11_outlet_20 rfl ?_
    refine lv_lconst (v := 0) F.1 F.2.1 dX11_outlet_21 (by decide) ?_
    refine lv_ldc2 (v := 9) F.1 F.2.1 F.2.2.2.1 (F.2.2.2.2 _ kl988) dX11_outlet_22 ?_
    obtain ⟨r_5, hc, h⟩ := op_b h
    refine k_callS (rv := (some (.int r_5))) (Wc := ([] : va_W)) (W2 := ([] : va_W)) (Wn := (gM T aM z_4)) (As := [.long x2.toInt64, .long 0, .long 9]) (rest := [.ref (aM 0)]) F G (mX11_isIn l D T x2.toInt64 0 9 hc) (va_cwS 3 F.2.2.2.2 (kg_c kl813 (kg_c kl814 (kg_c kl788 (kg_c kl805 kg_a)))) rfl rfl rfl (by decide +kernel) ⟨Nat.le_of_ble_eq_true rfl, Nat.le_of_ble_eq_true rfl⟩) (kCut_0 G) rfl hl.1 rfl (Nat.le_of_ble_eq_true rfl) dX11_outlet_25 ⟨Nat.le_of_ble_eq_true rfl, Nat.le_of_ble_eq_true rfl⟩ (cN := 0) (sN := 0) ⟨rfl, rfl⟩ (fun H locs G => ?_)
    refine lv_iconst (v := 2) F.1 F.2.1 dX11_outlet_28 (by decide) ?_
    obtain ⟨r_6, z_7, hc, h⟩ := op_b2 h
    refine k_callV (rv := (some (.int r_6))) (Wc := (gM T aM z_4)) (W2 := (gM T aM z_7)) (Wn := (gM T aM z_7)) (As := [.int r_5, .int 2]) (rest := []) F G (mX11_may l D T aM z_4 r_5 2 hc) (cwV 2 F.2.2.2.2 (kg_c kl809 (kg_c kl810 (kg_c kl811 (kg_c kl788 (kg_c kl806 kg_a))))) rfl rfl rfl (by decide +kernel) ⟨Nat.le_of_ble_eq_true rfl, Nat.le_of_ble_eq_true rfl⟩) 0 rfl (q := (RX11, TX11, 35)) rfl rfl (kCut_F G) rfl hl.1 rfl (Nat.le_of_ble_eq_true rfl) dX11_outlet_29 ⟨Nat.le_of_ble_eq_true rfl, Nat.le_of_ble_eq_true rfl⟩ (cN := 0) (sN := 0) ⟨rfl, rfl⟩ (fun H locs G => ?_)
    refine lv_if_ne (tgt := 37) F.1 F.2.1 dX11_outlet_32 (by decide) (fun c => ?_) (fun c => ?_)
    · have h := op_f h c
      refine lv_iload_n F.1 F.2.1 dX11_outlet_37 rfl (lv_at hl 2 rfl) ?_
      refine lv_iconst (v := 4) F.1 F.2.1 dX11_outlet_38 (by decide) ?_
      refine lv_icmp_ge (tgt := 55) F.1 F.2.1 dX11_outlet_39 (by decide) (fun c => ?_) (fun c => ?_)
      · have h := op_t h c
        refine lv_aload_n F.1 F.2.1 dX11_outlet_55 rfl (lv_at hl 0 rfl) ?_
        refine k_get F G 0 rfl (N := 35) (Tt := TX11) rfl kf11 10 (by decide) kl783 (v := .ref (aM 6)) rfl dX11_outlet_56 ?_
        refine lv_iload_n F.1 F.2.1 dX11_outlet_59 rfl (lv_at hl 1 rfl) ?_
        refine lv_iload_n F.1 F.2.1 dX11_outlet_60 rfl (lv_at hl 2 rfl) ?_
        refine lv_iconst (v := 4) F.1 F.2.1 dX11_outlet_61 (by decide) ?_
        refine lv_isub F.1 F.2.1 dX11_outlet_62 ?_
        obtain ⟨r_8, hc, h⟩ := op_b h
        refine k_callS (rv := (some (.int r_8))) (Wc := ([] : va_W)) (W2 := ([] : va_W)) (Wn := (gM T aM z_7)) (As := [.int x1, .int (x2 - 4)]) (rest := [.ref (aM 6)]) F G (mX11_at l D T x1 (x2 - 4) hc) (va_cwS 2 F.2.2.2.2 (kg_c kl786 (kg_c kl787 (kg_c kl788 (kg_c kl767 kg_a)))) rfl rfl rfl (by decide +kernel) ⟨Nat.le_of_ble_eq_true rfl, Nat.le_of_ble_eq_true rfl⟩) (kCut_0 G) rfl hl.1 rfl (Nat.le_of_ble_eq_true rfl) dX11_outlet_63 ⟨Nat.le_of_ble_eq_true rfl, Nat.le_of_ble_eq_true rfl⟩ (cN := 0) (sN := 0) ⟨rfl, rfl⟩ (fun H locs G => ?_)
        obtain ⟨c, h⟩ := op_g h
        refine k_iald F G 6 rfl c dX11_outlet_66 ?_
        obtain ⟨rfl, rfl⟩ := op_2 h
        exact k_iret F hr hlk G dX11_outlet_67
      · have h := op_f h c
        refine lv_aload_n F.1 F.2.1 dX11_outlet_42 rfl (lv_at hl 0 rfl) ?_
        refine k_get F G 0 rfl (N := 35) (Tt := TX11) rfl kf11 5 (by decide) kl773 (v := .ref (aM 1)) rfl dX11_outlet_43 ?_
        refine lv_iconst (v := 4) F.1 F.2.1 dX11_outlet_46 (by decide) ?_
        refine lv_iload_n F.1 F.2.1 dX11_outlet_47 rfl (lv_at hl 1 rfl) ?_
        refine lv_imul F.1 F.2.1 dX11_outlet_48 ?_
        refine lv_iload_n F.1 F.2.1 dX11_outlet_49 rfl (lv_at hl 2 rfl) ?_
        refine lv_iadd F.1 F.2.1 dX11_outlet_50 ?_
        obtain ⟨c, h⟩ := op_g h
        refine k_iald F G 1 rfl c dX11_outlet_51 ?_
        refine lv_goto (tgt := 67) F.1 F.2.1 dX11_outlet_52 (by decide) ?_
        obtain ⟨rfl, rfl⟩ := op_2 h
        exact k_iret F hr hlk G dX11_outlet_67
    · have h := op_t h c
      refine lv_iconst (v := 0) F.1 F.2.1 dX11_outlet_35 (by decide) ?_
      obtain ⟨rfl, rfl⟩ := op_2 h
      exact k_iret F hr hlk G dX11_outlet_36
abbrev rmX11_known : Room := ({ frames := 3, cells := 0, slots := 0, locals := 66 } : Room)
noncomputable def qX11_known (z : Nat → Nat → Int32) (x1 : Int32) (x2 : Int32) : Option (Int32 × (Nat → Nat → Int32)) :=
  (bs (va_up z 0 (fun _ => 0)) fun z_1 => bd (qX11_isOutlet z_1 x1) fun r_2 => bd2 (qX11_may z_1 r_2 1) fun r_3 z_4 => if r_3 = 0 then some (0, z_4) else bd (qX11_isIn x2.toInt64 0 5) fun r_5 => bd2 (qX11_may z_4 r_5 2) fun r_6 z_7 => if r_6 = 0 then some (0, z_7) else (if x2 = 0 then bd (qX11_at x1 9) fun r_8 => gd (vp_in r_8 411) (some (((z_7 10) r_8.toNatClampNeg), z_7)) else if x2 = 1 then bd (qX11_at x1 10) fun r_9 => gd (vp_in r_9 411) (some (((z_7 10) r_9.toNatClampNeg), z_7)) else if x2 = 2 then bd (qX11_expected z_7 (z_7 10) x1) fun r_10 => some (r_10, z_7) else if x2 = 3 then bd (qX11_reserved z_7 (z_7 10) x1) fun r_11 => some (r_11, z_7) else if x2 = 4 then bd (qX11_placeOf z_7 (z_7 10) x1) fun r_12 => some (r_12, z_7) else bd (qX11_at x1 11) fun r_13 => gd (vp_in r_13 411) (some (((z_7 10) r_13.toNatClampNeg), z_7))))

set_option maxHeartbeats 4000000 in
set_option maxRecDepth 100000 in
theorem mX11_known (l : Launch) (D : va_G) (T : Nat → ClassId) (aM : Nat → Nat) (z : Nat → Nat → Int32) (x1 : Int32) (x2 : Int32) {rR : Int32} {zR : Nat → Nat → Int32} (hres : qX11_known z x1 x2 = some (rR, zR)) : Ct l yX11_known (Cond.code yX11_known cX11_known 3 (some .int) :: kAll) rmX11_known D T [.ref (aM 0), .int x1, .int x2] (gM T aM z) (some (.int rR)) (gM T aM zR) := by
  refine Ct.of (cc := cX11_known) (maxL := 3) (ret := (some .int)) (by decide +kernel) rfl (Nat.le_of_ble_eq_true rfl) ?_
  intro pr en st mi ag bl me co A ls F hr hlk hnm G hl
  have hl : lv_has ls 3 [(0, .ref (aM 0)), (1, .int x1), (2, .int x2)] := hl
  have h := hres
  unfold qX11_known at h
  refine lv_aload_n F.1 F.2.1 dX11_known_0 rfl (lv_at hl 0 rfl) ?_
  refine lv_iconst (v := 0) F.1 F.2.1 dX11_known_1 (by decide) ?_
  obtain ⟨z_1, e9, h⟩ := op_st h
  refine k_put F G 0 rfl (N := 35) (Tt := TX11) rfl kf11 tyX11_ok nmX11 0 (by decide) kl804 rfl (v := .int 0) rfl rfl (Nat.le_of_ble_eq_true rfl) dX11_known_2 (Wn := (gM T aM z_1)) (by subst e9; rfl) (fun H locs G => ?_)
  clear e9
  refine lv_aload_n F.1 F.2.1 dX11_known_5 rfl (lv_at hl 0 rfl) ?_
  refine lv_aload_n F.1 F.2.1 dX11_known_6 rfl (lv_at hl 0 rfl) ?_
  refine lv_iload_n F.1 F.2.1 dX11_known_7 rfl (lv_at hl 1 rfl) ?_
  obtain ⟨r_2, hc, h⟩ := op_b h
  refine k_callV (rv := (some (.int r_2))) (Wc := (gM T aM z_1)) (W2 := (gM T aM z_1)) (Wn := (gM T aM z_1)) (As := [.int x1]) (rest := [.ref (aM 0)]) F G (mX11_isOutlet l D T aM z_1 x1 hc) (cwV 1 F.2.2.2.2 (kg_c kl989 (kg_c kl990 (kg_c kl991 (kg_c kl788 (kg_c kl984 kg_a))))) rfl rfl rfl (by decide +kernel) ⟨Nat.le_of_ble_eq_true rfl, Nat.le_of_ble_eq_true rfl⟩) 0 rfl (q := (RX11, TX11, 35)) rfl rfl (kCut_F G) rfl hl.1 rfl (Nat.le_of_ble_eq_true rfl) dX11_known_8 ⟨Nat.le_of_ble_eq_true rfl, Nat.le_of_ble_eq_true rfl⟩ (cN := 0) (sN := 0) ⟨rfl, rfl⟩ (fun H locs G => ?_)
  refine lv_iconst (v := 1) F.1 F.2.1 dX11_known_11 (by decide) ?_
  obtain ⟨r_3, z_4, hc, h⟩ := op_b2 h
  refine k_callV (rv := (some (.int r_3))) (Wc := (gM T aM z_1)) (W2 := (gM T aM z_4)) (Wn := (gM T aM z_4)) (As := [.int r_2, .int 1]) (rest := []) F G (mX11_may l D T aM z_1 r_2 1 hc) (cwV 2 F.2.2.2.2 (kg_c kl809 (kg_c kl810 (kg_c kl811 (kg_c kl788 (kg_c kl806 kg_a))))) rfl rfl rfl (by decide +kernel) ⟨Nat.le_of_ble_eq_true rfl, Nat.le_of_ble_eq_true rfl⟩) 0 rfl (q := (RX11, TX11, 35)) rfl rfl (kCut_F G) rfl hl.1 rfl (Nat.le_of_ble_eq_true rfl) dX11_known_12 ⟨Nat.le_of_ble_eq_true rfl, Nat.le_of_ble_eq_true rfl⟩ (cN := 0) (sN := 0) ⟨rfl, rfl⟩ (fun H locs G => ?_)
  refine lv_if_eq (tgt := 35) F.1 F.2.1 dX11_known_15 (by decide) (fun c => ?_) (fun c => ?_)
  · have h := op_t h c
    refine lv_iconst (v := 0) F.1 F.2.1 dX11_known_35 (by decide) ?_
    obtain ⟨rfl, rfl⟩ := op_2 h
    exact k_iret F hr hlk G dX11_known_36
  · have h := op_f h c
    refine lv_aload_n F.1 F.2.1 dX11_known_18 rfl (lv_at hl 0 rfl) ?_
    refine lv_iload_n F.1 F.2.1 dX11_known_19 rfl (lv_at hl 2 rfl) ?_
    refine lv_i2l (v := x2.toInt64) F.1 F.2.1 dX11_known_20 rfl ?_
    refine lv_lconst (v := 0) F.1 F.2.1 dX11_known_21 (by decide) ?_
    refine lv_ldc2 (v := 5) F.1 F.2.1 F.2.2.2.1 (F.2.2.2.2 _ kl993) dX11_known_22 ?_
    obtain ⟨r_5, hc, h⟩ := op_b h
    refine k_callS (rv := (some (.int r_5))) (Wc := ([] : va_W)) (W2 := ([] : va_W)) (Wn := (gM T aM z_4)) (As := [.long x2.toInt64, .long 0, .long 5]) (rest := [.ref (aM 0)]) F G (mX11_isIn l D T x2.toInt64 0 5 hc) (va_cwS 3 F.2.2.2.2 (kg_c kl813 (kg_c kl814 (kg_c kl788 (kg_c kl805 kg_a)))) rfl rfl rfl (by decide +kernel) ⟨Nat.le_of_ble_eq_true rfl, Nat.le_of_ble_eq_true rfl⟩) (kCut_0 G) rfl hl.1 rfl (Nat.le_of_ble_eq_true rfl) dX11_known_25 ⟨Nat.le_of_ble_eq_true rfl, Nat.le_of_ble_eq_true rfl⟩ (cN := 0) (sN := 0) ⟨rfl, rfl⟩ (fun H locs G => ?_)
    refine lv_iconst (v := 2) F.1 F.2.1 dX11_known_28 (by decide) ?_
    obtain ⟨r_6, z_7, hc, h⟩ := op_b2 h
    refine k_callV (rv := (some (.int r_6))) (Wc := (gM T aM z_4)) (W2 := (gM T aM z_7)) (Wn := (gM T aM z_7)) (As := [.int r_5, .int 2]) (rest := []) F G (mX11_may l D T aM z_4 r_5 2 hc) (cwV 2 F.2.2.2.2 (kg_c kl809 (kg_c kl810 (kg_c kl811 (kg_c kl788 (kg_c kl806 kg_a))))) rfl rfl rfl (by decide +kernel) ⟨Nat.le_of_ble_eq_true rfl, Nat.le_of_ble_eq_true rfl⟩) 0 rfl (q := (RX11, TX11, 35)) rfl rfl (kCut_F G) rfl hl.1 rfl (Nat.le_of_ble_eq_true rfl) dX11_known_29 ⟨Nat.le_of_ble_eq_true rfl, Nat.le_of_ble_eq_true rfl⟩ (cN := 0) (sN := 0) ⟨rfl, rfl⟩ (fun H locs G => ?_)
    refine lv_if_ne (tgt := 37) F.1 F.2.1 dX11_known_32 (by decide) (fun c => ?_) (fun c => ?_)
    · have h := op_f h c
      refine lv_iload_n F.1 F.2.1 dX11_known_37 rfl (lv_at hl 2 rfl) ?_
      by_cases c0 : x2 = 0
      · have h := op_t h c0
        refine k_tab F dX11_known_38 (tgt := 72) 0 c0 (by decide) (by decide) rfl (by decide) ?_
        refine lv_aload_n F.1 F.2.1 dX11_known_72 rfl (lv_at hl 0 rfl) ?_
        refine k_get F G 0 rfl (N := 35) (Tt := TX11) rfl kf11 10 (by decide) kl783 (v := .ref (aM 6)) rfl dX11_known_73 ?_
        refine lv_iload_n F.1 F.2.1 dX11_known_76 rfl (lv_at hl 1 rfl) ?_
        refine lv_bipush (v := 9) F.1 F.2.1 dX11_known_77 (by decide) ?_
        obtain ⟨r_8, hc, h⟩ := op_b h
        refine k_callS (rv := (some (.int r_8))) (Wc := ([] : va_W)) (W2 := ([] : va_W)) (Wn := (gM T aM z_7)) (As := [.int x1, .int 9]) (rest := [.ref (aM 6)]) F G (mX11_at l D T x1 9 hc) (va_cwS 2 F.2.2.2.2 (kg_c kl786 (kg_c kl787 (kg_c kl788 (kg_c kl767 kg_a)))) rfl rfl rfl (by decide +kernel) ⟨Nat.le_of_ble_eq_true rfl, Nat.le_of_ble_eq_true rfl⟩) (kCut_0 G) rfl hl.1 rfl (Nat.le_of_ble_eq_true rfl) dX11_known_79 ⟨Nat.le_of_ble_eq_true rfl, Nat.le_of_ble_eq_true rfl⟩ (cN := 0) (sN := 0) ⟨rfl, rfl⟩ (fun H locs G => ?_)
        obtain ⟨c, h⟩ := op_g h
        refine k_iald F G 6 rfl c dX11_known_82 ?_
        obtain ⟨rfl, rfl⟩ := op_2 h
        exact k_iret F hr hlk G dX11_known_83
      · have h := op_f h c0
        by_cases c1 : x2 = 1
        · have h := op_t h c1
          refine k_tab F dX11_known_38 (tgt := 84) 1 c1 (by decide) (by decide) rfl (by decide) ?_
          refine lv_aload_n F.1 F.2.1 dX11_known_84 rfl (lv_at hl 0 rfl) ?_
          refine k_get F G 0 rfl (N := 35) (Tt := TX11) rfl kf11 10 (by decide) kl783 (v := .ref (aM 6)) rfl dX11_known_85 ?_
          refine lv_iload_n F.1 F.2.1 dX11_known_88 rfl (lv_at hl 1 rfl) ?_
          refine lv_bipush (v := 10) F.1 F.2.1 dX11_known_89 (by decide) ?_
          obtain ⟨r_9, hc, h⟩ := op_b h
          refine k_callS (rv := (some (.int r_9))) (Wc := ([] : va_W)) (W2 := ([] : va_W)) (Wn := (gM T aM z_7)) (As := [.int x1, .int 10]) (rest := [.ref (aM 6)]) F G (mX11_at l D T x1 10 hc) (va_cwS 2 F.2.2.2.2 (kg_c kl786 (kg_c kl787 (kg_c kl788 (kg_c kl767 kg_a)))) rfl rfl rfl (by decide +kernel) ⟨Nat.le_of_ble_eq_true rfl, Nat.le_of_ble_eq_true rfl⟩) (kCut_0 G) rfl hl.1 rfl (Nat.le_of_ble_eq_true rfl) dX11_known_91 ⟨Nat.le_of_ble_eq_true rfl, Nat.le_of_ble_eq_true rfl⟩ (cN := 0) (sN := 0) ⟨rfl, rfl⟩ (fun H locs G => ?_)
          obtain ⟨c, h⟩ := op_g h
          refine k_iald F G 6 rfl c dX11_known_94 ?_
          obtain ⟨rfl, rfl⟩ := op_2 h
          exact k_iret F hr hlk G dX11_known_95
        · have h := op_f h c1
          by_cases c2 : x2 = 2
          · have h := op_t h c2
            refine k_tab F dX11_known_38 (tgt := 96) 2 c2 (by decide) (by decide) rfl (by decide) ?_
            refine lv_aload_n F.1 F.2.1 dX11_known_96 rfl (lv_at hl 0 rfl) ?_
            refine lv_aload_n F.1 F.2.1 dX11_known_97 rfl (lv_at hl 0 rfl) ?_
            refine k_get F G 0 rfl (N := 35) (Tt := TX11) rfl kf11 10 (by decide) kl783 (v := .ref (aM 6)) rfl dX11_known_98 ?_
            refine lv_iload_n F.1 F.2.1 dX11_known_101 rfl (lv_at hl 1 rfl) ?_
            obtain ⟨r_10, hc, h⟩ := op_b h
            refine k_callV (rv := (some (.int r_10))) (Wc := (gMR T aM (aM 6) z_7 (z_7 10))) (W2 := (gMR T aM (aM 6) z_7 (z_7 10))) (Wn := (gM T aM z_7)) (As := [.ref (aM 6), .int x1]) (rest := []) F G (mX11_expected l D T aM (aM 6) z_7 (z_7 10) x1 hc) (cwV 2 F.2.2.2.2 (kg_c kl914 (kg_c kl915 (kg_c kl916 (kg_c kl788 (kg_c kl909 kg_a))))) rfl rfl rfl (by decide +kernel) ⟨Nat.le_of_ble_eq_true rfl, Nat.le_of_ble_eq_true rfl⟩) 0 rfl (q := (RX11, TX11, 35)) rfl rfl (kCut_R G [0, 1, 2, 3, 4, 6] rfl rfl) rfl hl.1 rfl (Nat.le_of_ble_eq_true rfl) dX11_known_102 ⟨Nat.le_of_ble_eq_true rfl, Nat.le_of_ble_eq_true rfl⟩ (cN := 0) (sN := 0) ⟨rfl, rfl⟩ (fun H locs G => ?_)
            obtain ⟨rfl, rfl⟩ := op_2 h
            exact k_iret F hr hlk G dX11_known_105
          · have h := op_f h c2
            by_cases c3 : x2 = 3
            · have h := op_t h c3
              refine k_tab F dX11_known_38 (tgt := 106) 3 c3 (by decide) (by decide) rfl (by decide) ?_
              refine lv_aload_n F.1 F.2.1 dX11_known_106 rfl (lv_at hl 0 rfl) ?_
              refine lv_aload_n F.1 F.2.1 dX11_known_107 rfl (lv_at hl 0 rfl) ?_
              refine k_get F G 0 rfl (N := 35) (Tt := TX11) rfl kf11 10 (by decide) kl783 (v := .ref (aM 6)) rfl dX11_known_108 ?_
              refine lv_iload_n F.1 F.2.1 dX11_known_111 rfl (lv_at hl 1 rfl) ?_
              obtain ⟨r_11, hc, h⟩ := op_b h
              refine k_callV (rv := (some (.int r_11))) (Wc := (gMR T aM (aM 6) z_7 (z_7 10))) (W2 := (gMR T aM (aM 6) z_7 (z_7 10))) (Wn := (gM T aM z_7)) (As := [.ref (aM 6), .int x1]) (rest := []) F G (mX11_reserved l D T aM (aM 6) z_7 (z_7 10) x1 hc) (cwV 2 F.2.2.2.2 (kg_c kl918 (kg_c kl919 (kg_c kl920 (kg_c kl788 (kg_c kl913 kg_a))))) rfl rfl rfl (by decide +kernel) ⟨Nat.le_of_ble_eq_true rfl, Nat.le_of_ble_eq_true rfl⟩) 0 rfl (q := (RX11, TX11, 35)) rfl rfl (kCut_R G [0, 1, 2, 3, 4, 6] rfl rfl) rfl hl.1 rfl (Nat.le_of_ble_eq_true rfl) dX11_known_112 ⟨Nat.le_of_ble_eq_true rfl, Nat.le_of_ble_eq_true rfl⟩ (cN := 0) (sN := 0) ⟨rfl, rfl⟩ (fun H locs G => ?_)
              obtain ⟨rfl, rfl⟩ := op_2 h
              exact k_iret F hr hlk G dX11_known_115
            · have h := op_f h c3
              by_cases c4 : x2 = 4
              · have h := op_t h c4
                refine k_tab F dX11_known_38 (tgt := 116) 4 c4 (by decide) (by decide) rfl (by decide) ?_
                refine lv_aload_n F.1 F.2.1 dX11_known_116 rfl (lv_at hl 0 rfl) ?_
                refine lv_aload_n F.1 F.2.1 dX11_known_117 rfl (lv_at hl 0 rfl) ?_
                refine k_get F G 0 rfl (N := 35) (Tt := TX11) rfl kf11 10 (by decide) kl783 (v := .ref (aM 6)) rfl dX11_known_118 ?_
                refine lv_iload_n F.1 F.2.1 dX11_known_121 rfl (lv_at hl 1 rfl) ?_
                obtain ⟨r_12, hc, h⟩ := op_b h
                refine k_callV (rv := (some (.int r_12))) (Wc := (gMR T aM (aM 6) z_7 (z_7 10))) (W2 := (gMR T aM (aM 6) z_7 (z_7 10))) (Wn := (gM T aM z_7)) (As := [.ref (aM 6), .int x1]) (rest := []) F G (mX11_placeOf l D T aM (aM 6) z_7 (z_7 10) x1 hc) (cwV 2 F.2.2.2.2 (kg_c kl944 (kg_c kl945 (kg_c kl946 (kg_c kl788 (kg_c kl942 kg_a))))) rfl rfl rfl (by decide +kernel) ⟨Nat.le_of_ble_eq_true rfl, Nat.le_of_ble_eq_true rfl⟩) 0 rfl (q := (RX11, TX11, 35)) rfl rfl (kCut_R G [0, 1, 2, 3, 4, 6] rfl rfl) rfl hl.1 rfl (Nat.le_of_ble_eq_true rfl) dX11_known_122 ⟨Nat.le_of_ble_eq_true rfl, Nat.le_of_ble_eq_true rfl⟩ (cN := 0) (sN := 0) ⟨rfl, rfl⟩ (fun H locs G => ?_)
                obtain ⟨rfl, rfl⟩ := op_2 h
                exact k_iret F hr hlk G dX11_known_125
              · have h := op_f h c4
                refine lv_tableOut (tgt := 126) F.1 F.2.1 dX11_known_38 (tab_out 5 (by decide) (lt_s (lt_s (lt_s (lt_s (lt_s lt_0 c0) c1) c2) c3) c4)) (by decide) ?_
                refine lv_aload_n F.1 F.2.1 dX11_known_126 rfl (lv_at hl 0 rfl) ?_
                refine k_get F G 0 rfl (N := 35) (Tt := TX11) rfl kf11 10 (by decide) kl783 (v := .ref (aM 6)) rfl dX11_known_127 ?_
                refine lv_iload_n F.1 F.2.1 dX11_known_130 rfl (lv_at hl 1 rfl) ?_
                refine lv_bipush (v := 11) F.1 F.2.1 dX11_known_131 (by decide) ?_
                obtain ⟨r_13, hc, h⟩ := op_b h
                refine k_callS (rv := (some (.int r_13))) (Wc := ([] : va_W)) (W2 := ([] : va_W)) (Wn := (gM T aM z_7)) (As := [.int x1, .int 11]) (rest := [.ref (aM 6)]) F G (mX11_at l D T x1 11 hc) (va_cwS 2 F.2.2.2.2 (kg_c kl786 (kg_c kl787 (kg_c kl788 (kg_c kl767 kg_a)))) rfl rfl rfl (by decide +kernel) ⟨Nat.le_of_ble_eq_true rfl, Nat.le_of_ble_eq_true rfl⟩) (kCut_0 G) rfl hl.1 rfl (Nat.le_of_ble_eq_true rfl) dX11_known_133 ⟨Nat.le_of_ble_eq_true rfl, Nat.le_of_ble_eq_true rfl⟩ (cN := 0) (sN := 0) ⟨rfl, rfl⟩ (fun H locs G => ?_)
                obtain ⟨c, h⟩ := op_g h
                refine k_iald F G 6 rfl c dX11_known_136 ?_
                obtain ⟨rfl, rfl⟩ := op_2 h
                exact k_iret F hr hlk G dX11_known_137
    · have h := op_t h c
      refine lv_iconst (v := 0) F.1 F.2.1 dX11_known_35 (by decide) ?_
      obtain ⟨rfl, rfl⟩ := op_2 h
      exact k_iret F hr hlk G dX11_known_36
abbrev rmX11_needs : Room := ({ frames := 2, cells := 0, slots := 0, locals := 46 } : Room)
noncomputable def qX11_needs_L25 (z_9 : Nat → Nat → Int32) (x1_5 : Int32) (x2_6 : Int32) (K : Int32 → Option (Int32 × (Nat → Nat → Int32))) : Nat → Int32 → Int32 → Option (Int32 × (Nat → Nat → Int32))
  | 0, _, _ => none
  | n + 1, x3_7, x4_8 =>
    if (z_9 1 0) ≤ x4_8 then (K x3_7) else gd (vp_in x4_8 12) ((qX11_needs_L25 z_9 x1_5 x2_6 K n (x3_7 ||| (((((z_9 6) x4_8.toNatClampNeg) >>> (x1_5 &&& 31)) &&& 1) <<< (x4_8 &&& 31))) (x4_8 + 1)))

noncomputable def qX11_needs (z : Nat → Nat → Int32) (x1 : Int32) (x2 : Int32) : Option (Int32 × (Nat → Nat → Int32)) :=
  (bs (va_up z 0 (fun _ => 0)) fun z_1 => bd (qX11_isOutlet z_1 x1) fun r_2 => bd2 (qX11_may z_1 r_2 1) fun r_3 z_4 => if r_3 = 0 then some (0, z_4) else (qX11_needs_L25 z_4 x1 x2 (fun (x3_10 : Int32) => if x2 = 0 then gd (vp_in x1 12) (some (((z_4 6) x1.toNatClampNeg), z_4)) else some (x3_10, z_4)) fu 0 0 ))

set_option maxHeartbeats 4000000 in
set_option maxRecDepth 100000 in
theorem mX11_needs (l : Launch) (D : va_G) (T : Nat → ClassId) (aM : Nat → Nat) (z : Nat → Nat → Int32) (x1 : Int32) (x2 : Int32) {rR : Int32} {zR : Nat → Nat → Int32} (hres : qX11_needs z x1 x2 = some (rR, zR)) : Ct l yX11_needs (Cond.code yX11_needs cX11_needs 5 (some .int) :: kAll) rmX11_needs D T [.ref (aM 0), .int x1, .int x2] (gM T aM z) (some (.int rR)) (gM T aM zR) := by
  refine Ct.of (cc := cX11_needs) (maxL := 5) (ret := (some .int)) (by decide +kernel) rfl (Nat.le_of_ble_eq_true rfl) ?_
  intro pr en st mi ag bl me co A ls F hr hlk hnm G hl
  have hl : lv_has ls 5 [(0, .ref (aM 0)), (1, .int x1), (2, .int x2)] := hl
  have h := hres
  unfold qX11_needs at h
  refine lv_aload_n F.1 F.2.1 dX11_needs_0 rfl (lv_at hl 0 rfl) ?_
  refine lv_iconst (v := 0) F.1 F.2.1 dX11_needs_1 (by decide) ?_
  obtain ⟨z_1, e9, h⟩ := op_st h
  refine k_put F G 0 rfl (N := 35) (Tt := TX11) rfl kf11 tyX11_ok nmX11 0 (by decide) kl804 rfl (v := .int 0) rfl rfl (Nat.le_of_ble_eq_true rfl) dX11_needs_2 (Wn := (gM T aM z_1)) (by subst e9; rfl) (fun H locs G => ?_)
  clear e9
  refine lv_aload_n F.1 F.2.1 dX11_needs_5 rfl (lv_at hl 0 rfl) ?_
  refine lv_aload_n F.1 F.2.1 dX11_needs_6 rfl (lv_at hl 0 rfl) ?_
  refine lv_iload_n F.1 F.2.1 dX11_needs_7 rfl (lv_at hl 1 rfl) ?_
  obtain ⟨r_2, hc, h⟩ := op_b h
  refine k_callV (rv := (some (.int r_2))) (Wc := (gM T aM z_1)) (W2 := (gM T aM z_1)) (Wn := (gM T aM z_1)) (As := [.int x1]) (rest := [.ref (aM 0)]) F G (mX11_isOutlet l D T aM z_1 x1 hc) (cwV 1 F.2.2.2.2 (kg_c kl989 (kg_c kl990 (kg_c kl991 (kg_c kl788 (kg_c kl984 kg_a))))) rfl rfl rfl (by decide +kernel) ⟨Nat.le_of_ble_eq_true rfl, Nat.le_of_ble_eq_true rfl⟩) 0 rfl (q := (RX11, TX11, 35)) rfl rfl (kCut_F G) rfl hl.1 rfl (Nat.le_of_ble_eq_true rfl) dX11_needs_8 ⟨Nat.le_of_ble_eq_true rfl, Nat.le_of_ble_eq_true rfl⟩ (cN := 0) (sN := 0) ⟨rfl, rfl⟩ (fun H locs G => ?_)
  refine lv_iconst (v := 1) F.1 F.2.1 dX11_needs_11 (by decide) ?_
  obtain ⟨r_3, z_4, hc, h⟩ := op_b2 h
  refine k_callV (rv := (some (.int r_3))) (Wc := (gM T aM z_1)) (W2 := (gM T aM z_4)) (Wn := (gM T aM z_4)) (As := [.int r_2, .int 1]) (rest := []) F G (mX11_may l D T aM z_1 r_2 1 hc) (cwV 2 F.2.2.2.2 (kg_c kl809 (kg_c kl810 (kg_c kl811 (kg_c kl788 (kg_c kl806 kg_a))))) rfl rfl rfl (by decide +kernel) ⟨Nat.le_of_ble_eq_true rfl, Nat.le_of_ble_eq_true rfl⟩) 0 rfl (q := (RX11, TX11, 35)) rfl rfl (kCut_F G) rfl hl.1 rfl (Nat.le_of_ble_eq_true rfl) dX11_needs_12 ⟨Nat.le_of_ble_eq_true rfl, Nat.le_of_ble_eq_true rfl⟩ (cN := 0) (sN := 0) ⟨rfl, rfl⟩ (fun H locs G => ?_)
  refine lv_if_ne (tgt := 20) F.1 F.2.1 dX11_needs_15 (by decide) (fun c => ?_) (fun c => ?_)
  · have h := op_f h c
    refine lv_iconst (v := 0) F.1 F.2.1 dX11_needs_20 (by decide) ?_
    refine lv_istore_n (lv' := [(3, .int 0), (0, .ref (aM 0)), (1, .int x1), (2, .int x2)]) F.1 F.2.1 dX11_needs_21 rfl hl (by decide) rfl (fun ls hl => ?_)
    refine lv_iconst (v := 0) F.1 F.2.1 dX11_needs_22 (by decide) ?_
    refine lv_istore (lv' := [(4, .int 0), (3, .int 0), (0, .ref (aM 0)), (1, .int x1), (2, .int x2)]) F.1 F.2.1 dX11_needs_23 hl (by decide) rfl (fun ls hl => ?_)
    have L25 : ∀ (z_9 : Nat → Nat → Int32) (x1_5 : Int32) (x2_6 : Int32) (K : Int32 → Option (Int32 × (Nat → Nat → Int32))) (hK : ∀ (x3_10 : Int32) (H : Heap) (locs : List Loc) (ls : Array Slot), K x3_10 = some (rR, zR) → Rg D T A st (gM T aM z_9) H locs → lv_has ls 5 [(0, .ref (aM 0)), (1, .int x1_5), (2, .int x2_6), (3, .int x3_10)] → W pr l en rmX11_needs st mi ag bl me co H locs 0 0 (MQ bl (kQ (some (.int rR)) D (gM T aM zR) A) ag st rmX11_needs.cells rmX11_needs.slots A) (F0 mi 57 ls [])) (n : Nat) (x3_7 : Int32) (x4_8 : Int32) (H : Heap) (locs : List Loc) (ls : Array Slot), qX11_needs_L25 z_9 x1_5 x2_6 K n x3_7 x4_8 = some (rR, zR) → Rg D T A st (gM T aM z_9) H locs → lv_has ls 5 [(0, .ref (aM 0)), (1, .int x1_5), (2, .int x2_6), (3, .int x3_7), (4, .int x4_8)] → W pr l en rmX11_needs st mi ag bl me co H locs 0 0 (MQ bl (kQ (some (.int rR)) D (gM T aM zR) A) ag st rmX11_needs.cells rmX11_needs.slots A) (F0 mi 25 ls []) := by
      intro z_9 x1_5 x2_6 K hK n
      induction n with
      | zero => intro x3_7 x4_8 H locs ls h; exact op_n h
      | succ n ih =>
        intro x3_7 x4_8 H locs ls h G hl
        rw [qX11_needs_L25] at h
        refine lv_iload F.1 F.2.1 dX11_needs_25 (lv_at hl 4 rfl) ?_
        refine lv_aload_n F.1 F.2.1 dX11_needs_27 rfl (lv_at hl 0 rfl) ?_
        refine k_get F G 0 rfl (N := 35) (Tt := TX11) rfl kf11 1 (by decide) kl769 (v := .int (z_9 1 0)) rfl dX11_needs_28 ?_
        refine lv_icmp_ge (tgt := 57) F.1 F.2.1 dX11_needs_31 (by decide) (fun c => ?_) (fun c => ?_)
        · have h := op_t h c
          exact hK x3_7 _ _ _ h G (lv_sub hl [0, 1, 2, 3] rfl)
        · have h := op_f h c
          refine lv_iload_n F.1 F.2.1 dX11_needs_34 rfl (lv_at hl 3 rfl) ?_
          refine lv_aload_n F.1 F.2.1 dX11_needs_35 rfl (lv_at hl 0 rfl) ?_
          refine k_get F G 0 rfl (N := 35) (Tt := TX11) rfl kf11 6 (by decide) kl775 (v := .ref (aM 2)) rfl dX11_needs_36 ?_
          refine lv_iload F.1 F.2.1 dX11_needs_39 (lv_at hl 4 rfl) ?_
          obtain ⟨c, h⟩ := op_g h
          refine k_iald F G 2 rfl c dX11_needs_41 ?_
          refine lv_iload_n F.1 F.2.1 dX11_needs_42 rfl (lv_at hl 1 rfl) ?_
          refine lv_ishr F.1 F.2.1 dX11_needs_43 ?_
          refine lv_iconst (v := 1) F.1 F.2.1 dX11_needs_44 (by decide) ?_
          refine lv_iand F.1 F.2.1 dX11_needs_45 ?_
          refine lv_iload F.1 F.2.1 dX11_needs_46 (lv_at hl 4 rfl) ?_
          refine lv_ishl F.1 F.2.1 dX11_needs_48 ?_
          refine lv_ior F.1 F.2.1 dX11_needs_49 ?_
          refine lv_istore_n (lv' := [(3, .int (x3_7 ||| (((((z_9 6) x4_8.toNatClampNeg) >>> (x1_5 &&& 31)) &&& 1) <<< (x4_8 &&& 31)))), (0, .ref (aM 0)), (1, .int x1_5), (2, .int x2_6), (4, .int x4_8)]) F.1 F.2.1 dX11_needs_50 rfl hl (by decide) rfl (fun ls hl => ?_)
          refine lv_iinc (v := (x4_8 + 1)) (lv' := [(4, .int (x4_8 + 1)), (3, .int (x3_7 ||| (((((z_9 6) x4_8.toNatClampNeg) >>> (x1_5 &&& 31)) &&& 1) <<< (x4_8 &&& 31)))), (0, .ref (aM 0)), (1, .int x1_5), (2, .int x2_6)]) F.1 F.2.1 dX11_needs_51 hl (k := 4) rfl rfl (by decide) rfl (fun ls hl => ?_)
          refine lv_goto (tgt := 25) F.1 F.2.1 dX11_needs_54 (by decide) ?_
          exact ih (x3_7 ||| (((((z_9 6) x4_8.toNatClampNeg) >>> (x1_5 &&& 31)) &&& 1) <<< (x4_8 &&& 31))) (x4_8 + 1) _ _ _ h G (lv_sub hl [2, 3, 4, 1, 0] rfl)
    refine L25 z_4 x1 x2 _ (fun x3_10 H locs ls h G hl => ?_) fu 0 0  _ _ _ h G (lv_sub hl [2, 3, 4, 1, 0] rfl)
    clear L25
    refine lv_iload_n F.1 F.2.1 dX11_needs_57 rfl (lv_at hl 2 rfl) ?_
    refine lv_if_eq (tgt := 65) F.1 F.2.1 dX11_needs_58 (by decide) (fun c => ?_) (fun c => ?_)
    · have h := op_t h c
      refine lv_aload_n F.1 F.2.1 dX11_needs_65 rfl (lv_at hl 0 rfl) ?_
      refine k_get F G 0 rfl (N := 35) (Tt := TX11) rfl kf11 6 (by decide) kl775 (v := .ref (aM 2)) rfl dX11_needs_66 ?_
      refine lv_iload_n F.1 F.2.1 dX11_needs_69 rfl (lv_at hl 1 rfl) ?_
      obtain ⟨c, h⟩ := op_g h
      refine k_iald F G 2 rfl c dX11_needs_70 ?_
      obtain ⟨rfl, rfl⟩ := op_2 h
      exact k_iret F hr hlk G dX11_needs_71
    · have h := op_f h c
      refine lv_iload_n F.1 F.2.1 dX11_needs_61 rfl (lv_at hl 3 rfl) ?_
      refine lv_goto (tgt := 71) F.1 F.2.1 dX11_needs_62 (by decide) ?_
      obtain ⟨rfl, rfl⟩ := op_2 h
      exact k_iret F hr hlk G dX11_needs_71
  · have h := op_t h c
    refine lv_iconst (v := 0) F.1 F.2.1 dX11_needs_18 (by decide) ?_
    obtain ⟨rfl, rfl⟩ := op_2 h
    exact k_iret F hr hlk G dX11_needs_19
abbrev rmX11_outletsWith : Room := ({ frames := 2, cells := 0, slots := 0, locals := 46 } : Room)
noncomputable def qX11_outletsWith (z : Nat → Nat → Int32) (x1 : Int32) (x2 : Int32) : Option (Int32 × (Nat → Nat → Int32)) :=
  (bs (va_up z 0 (fun _ => 0)) fun z_1 => bd (qX11_isIn x1.toInt64 0 3) fun r_2 => bd2 (qX11_may z_1 r_2 1) fun r_3 z_4 => if r_3 = 0 then some (0, z_4) else (jn (fun (y_5 : Int32) => bd (qX11_withState z_4 (z_4 10) y_5 x1) fun r_6 => some (r_6, z_4)) fun j37 => if x2 = 0 then (j37 2) else (j37 9)))

set_option maxHeartbeats 4000000 in
set_option maxRecDepth 100000 in
theorem mX11_outletsWith (l : Launch) (D : va_G) (T : Nat → ClassId) (aM : Nat → Nat) (z : Nat → Nat → Int32) (x1 : Int32) (x2 : Int32) {rR : Int32} {zR : Nat → Nat → Int32} (hres : qX11_outletsWith z x1 x2 = some (rR, zR)) : Ct l yX11_outletsWith (Cond.code yX11_outletsWith cX11_outletsWith 3 (some .int) :: kAll) rmX11_outletsWith D T [.ref (aM 0), .int x1, .int x2] (gM T aM z) (some (.int rR)) (gM T aM zR) := by
  refine Ct.of (cc := cX11_outletsWith) (maxL := 3) (ret := (some .int)) (by decide +kernel) rfl (Nat.le_of_ble_eq_true rfl) ?_
  intro pr en st mi ag bl me co A ls F hr hlk hnm G hl
  have hl : lv_has ls 3 [(0, .ref (aM 0)), (1, .int x1), (2, .int x2)] := hl
  have h := hres
  unfold qX11_outletsWith at h
  refine lv_aload_n F.1 F.2.1 dX11_outletsWith_0 rfl (lv_at hl 0 rfl) ?_
  refine lv_iconst (v := 0) F.1 F.2.1 dX11_outletsWith_1 (by decide) ?_
  obtain ⟨z_1, e9, h⟩ := op_st h
  refine k_put F G 0 rfl (N := 35) (Tt := TX11) rfl kf11 tyX11_ok nmX11 0 (by decide) kl804 rfl (v := .int 0) rfl rfl (Nat.le_of_ble_eq_true rfl) dX11_outletsWith_2 (Wn := (gM T aM z_1)) (by subst e9; rfl) (fun H locs G => ?_)
  clear e9
  refine lv_aload_n F.1 F.2.1 dX11_outletsWith_5 rfl (lv_at hl 0 rfl) ?_
  refine lv_iload_n F.1 F.2.1 dX11_outletsWith_6 rfl (lv_at hl 1 rfl) ?_
  refine lv_i2l (v := x1.toInt64) F.1 F.2.1 dX11_outletsWith_7 rfl ?_
  refine lv_lconst (v := 0) F.1 F.2.1 dX11_outletsWith_8 (by decide) ?_
  refine lv_ldc2 (v := 3) F.1 F.2.1 F.2.2.2.1 (F.2.2.2.2 _ kl996) dX11_outletsWith_9 ?_
  obtain ⟨r_2, hc, h⟩ := op_b h
  refine k_callS (rv := (some (.int r_2))) (Wc := ([] : va_W)) (W2 := ([] : va_W)) (Wn := (gM T aM z_1)) (As := [.long x1.toInt64, .long 0, .long 3]) (rest := [.ref (aM 0)]) F G (mX11_isIn l D T x1.toInt64 0 3 hc) (va_cwS 3 F.2.2.2.2 (kg_c kl813 (kg_c kl814 (kg_c kl788 (kg_c kl805 kg_a)))) rfl rfl rfl (by decide +kernel) ⟨Nat.le_of_ble_eq_true rfl, Nat.le_of_ble_eq_true rfl⟩) (kCut_0 G) rfl hl.1 rfl (Nat.le_of_ble_eq_true rfl) dX11_outletsWith_12 ⟨Nat.le_of_ble_eq_true rfl, Nat.le_of_ble_eq_true rfl⟩ (cN := 0) (sN := 0) ⟨rfl, rfl⟩ (fun H locs G => ?_)
  refine lv_iconst (v := 1) F.1 F.2.1 dX11_outletsWith_15 (by decide) ?_
  obtain ⟨r_3, z_4, hc, h⟩ := op_b2 h
  refine k_callV (rv := (some (.int r_3))) (Wc := (gM T aM z_1)) (W2 := (gM T aM z_4)) (Wn := (gM T aM z_4)) (As := [.int r_2, .int 1]) (rest := []) F G (mX11_may l D T aM z_1 r_2 1 hc) (cwV 2 F.2.2.2.2 (kg_c kl809 (kg_c kl810 (kg_c kl811 (kg_c kl788 (kg_c kl806 kg_a))))) rfl rfl rfl (by decide +kernel) ⟨Nat.le_of_ble_eq_true rfl, Nat.le_of_ble_eq_true rfl⟩) 0 rfl (q := (RX11, TX11, 35)) rfl rfl (kCut_F G) rfl hl.1 rfl (Nat.le_of_ble_eq_true rfl) dX11_outletsWith_16 ⟨Nat.le_of_ble_eq_true rfl, Nat.le_of_ble_eq_true rfl⟩ (cN := 0) (sN := 0) ⟨rfl, rfl⟩ (fun H locs G => ?_)
  refine lv_if_eq (tgt := 44) F.1 F.2.1 dX11_outletsWith_19 (by decide) (fun c => ?_) (fun c => ?_)
  · have h := op_t h c
    refine lv_iconst (v := 0) F.1 F.2.1 dX11_outletsWith_44 (by decide) ?_
    obtain ⟨rfl, rfl⟩ := op_2 h
    exact k_iret F hr hlk G dX11_outletsWith_45
  · have h := op_f h c
    refine lv_aload_n F.1 F.2.1 dX11_outletsWith_22 rfl (lv_at hl 0 rfl) ?_
    refine lv_aload_n F.1 F.2.1 dX11_outletsWith_23 rfl (lv_at hl 0 rfl) ?_
    refine k_get F G 0 rfl (N := 35) (Tt := TX11) rfl kf11 10 (by decide) kl783 (v := .ref (aM 6)) rfl dX11_outletsWith_24 ?_
    refine lv_iload_n F.1 F.2.1 dX11_outletsWith_27 rfl (lv_at hl 2 rfl) ?_
    obtain ⟨j37, hj37, h⟩ := op_j h
    have J37 : ∀ (y_5 : Int32) (H : Heap) (locs : List Loc) (ls : Array Slot), j37 y_5 = some (rR, zR) → Rg D T A st (gM T aM z_4) H locs → lv_has ls 3 [(1, .int x1)] → W pr l en rmX11_outletsWith st mi ag bl me co H locs 0 0 (MQ bl (kQ (some (.int rR)) D (gM T aM zR) A) ag st rmX11_outletsWith.cells rmX11_outletsWith.slots A) (F0 mi 37 ls [.int y_5, .ref (aM 6), .ref (aM 0)]) := by
      intro y_5 H locs ls h G hl
      rw [hj37] at h
      refine lv_iload_n F.1 F.2.1 dX11_outletsWith_37 rfl (lv_at hl 0 rfl) ?_
      obtain ⟨r_6, hc, h⟩ := op_b h
      refine k_callV (rv := (some (.int r_6))) (Wc := (gMR T aM (aM 6) z_4 (z_4 10))) (W2 := (gMR T aM (aM 6) z_4 (z_4 10))) (Wn := (gM T aM z_4)) (As := [.ref (aM 6), .int y_5, .int x1]) (rest := []) F G (mX11_withState l D T aM (aM 6) z_4 (z_4 10) y_5 x1 hc) (cwV 3 F.2.2.2.2 (kg_c kl935 (kg_c kl936 (kg_c kl937 (kg_c kl788 (kg_c kl922 kg_a))))) rfl rfl rfl (by decide +kernel) ⟨Nat.le_of_ble_eq_true rfl, Nat.le_of_ble_eq_true rfl⟩) 0 rfl (q := (RX11, TX11, 35)) rfl rfl (kCut_R G [0, 1, 2, 3, 4, 6] rfl rfl) rfl hl.1 rfl (Nat.le_of_ble_eq_true rfl) dX11_outletsWith_38 ⟨Nat.le_of_ble_eq_true rfl, Nat.le_of_ble_eq_true rfl⟩ (cN := 0) (sN := 0) ⟨rfl, rfl⟩ (fun H locs G => ?_)
      refine lv_goto (tgt := 45) F.1 F.2.1 dX11_outletsWith_41 (by decide) ?_
      obtain ⟨rfl, rfl⟩ := op_2 h
      exact k_iret F hr hlk G dX11_outletsWith_45
    clear hj37
    refine lv_if_eq (tgt := 36) F.1 F.2.1 dX11_outletsWith_28 (by decide) (fun c => ?_) (fun c => ?_)
    · have h := op_t h c
      refine lv_iconst (v := 2) F.1 F.2.1 dX11_outletsWith_36 (by decide) ?_
      exact J37 2 _ _ _ h G (lv_sub hl [1] rfl)
    · have h := op_f h c
      refine lv_bipush (v := 9) F.1 F.2.1 dX11_outletsWith_31 (by decide) ?_
      refine lv_goto (tgt := 37) F.1 F.2.1 dX11_outletsWith_33 (by decide) ?_
      exact J37 9 _ _ _ h G (lv_sub hl [1] rfl)
abbrev rmX11_rights : Room := ({ frames := 2, cells := 0, slots := 0, locals := 45 } : Room)
noncomputable def qX11_rights (z : Nat → Nat → Int32) : Option (Int32 × (Nat → Nat → Int32)) :=
  (bs (va_up z 0 (fun _ => 0)) fun z_1 => bd (qX11_rightsOf z_1 (z_1 10)) fun r_2 => some (r_2, z_1))

set_option maxHeartbeats 4000000 in
set_option maxRecDepth 100000 in
theorem mX11_rights (l : Launch) (D : va_G) (T : Nat → ClassId) (aM : Nat → Nat) (z : Nat → Nat → Int32) {rR : Int32} {zR : Nat → Nat → Int32} (hres : qX11_rights z = some (rR, zR)) : Ct l yX11_rights (Cond.code yX11_rights cX11_rights 1 (some .int) :: kAll) rmX11_rights D T [.ref (aM 0)] (gM T aM z) (some (.int rR)) (gM T aM zR) := by
  refine Ct.of (cc := cX11_rights) (maxL := 1) (ret := (some .int)) (by decide +kernel) rfl (Nat.le_of_ble_eq_true rfl) ?_
  intro pr en st mi ag bl me co A ls F hr hlk hnm G hl
  have hl : lv_has ls 1 [(0, .ref (aM 0))] := hl
  have h := hres
  unfold qX11_rights at h
  refine lv_aload_n F.1 F.2.1 dX11_rights_0 rfl (lv_at hl 0 rfl) ?_
  refine lv_iconst (v := 0) F.1 F.2.1 dX11_rights_1 (by decide) ?_
  obtain ⟨z_1, e9, h⟩ := op_st h
  refine k_put F G 0 rfl (N := 35) (Tt := TX11) rfl kf11 tyX11_ok nmX11 0 (by decide) kl804 rfl (v := .int 0) rfl rfl (Nat.le_of_ble_eq_true rfl) dX11_rights_2 (Wn := (gM T aM z_1)) (by subst e9; rfl) (fun H locs G => ?_)
  clear e9
  refine lv_aload_n F.1 F.2.1 dX11_rights_5 rfl (lv_at hl 0 rfl) ?_
  refine lv_aload_n F.1 F.2.1 dX11_rights_6 rfl (lv_at hl 0 rfl) ?_
  refine k_get F G 0 rfl (N := 35) (Tt := TX11) rfl kf11 10 (by decide) kl783 (v := .ref (aM 6)) rfl dX11_rights_7 ?_
  obtain ⟨r_2, hc, h⟩ := op_b h
  refine k_callV (rv := (some (.int r_2))) (Wc := (gMR T aM (aM 6) z_1 (z_1 10))) (W2 := (gMR T aM (aM 6) z_1 (z_1 10))) (Wn := (gM T aM z_1)) (As := [.ref (aM 6)]) (rest := []) F G (mX11_rightsOf l D T aM (aM 6) z_1 (z_1 10) hc) (cwV 1 F.2.2.2.2 (kg_c kl932 (kg_c kl933 (kg_c kl934 (kg_c kl788 (kg_c kl921 kg_a))))) rfl rfl rfl (by decide +kernel) ⟨Nat.le_of_ble_eq_true rfl, Nat.le_of_ble_eq_true rfl⟩) 0 rfl (q := (RX11, TX11, 35)) rfl rfl (kCut_R G [0, 1, 2, 3, 4, 6] rfl rfl) rfl hl.1 rfl (Nat.le_of_ble_eq_true rfl) dX11_rights_10 ⟨Nat.le_of_ble_eq_true rfl, Nat.le_of_ble_eq_true rfl⟩ (cN := 0) (sN := 0) ⟨rfl, rfl⟩ (fun H locs G => ?_)
  obtain ⟨rfl, rfl⟩ := op_2 h
  exact k_iret F hr hlk G dX11_rights_13
abbrev rmX11_load_ : Room := ({ frames := 4, cells := 0, slots := 0, locals := 89 } : Room)
noncomputable def qX11_load_ (z : Nat → Nat → Int32) (x1 : Int32) : Option (Int32 × (Nat → Nat → Int32)) :=
  (bs (va_up z 0 (fun _ => 0)) fun z_1 => bd (qX11_isIn x1.toInt64 0 2) fun r_2 => bd2 (qX11_may z_1 r_2 1) fun r_3 z_4 => if r_3 = 0 then some (0, z_4) else if x1 = 0 then bd (qX11_drawn z_4 (z_4 10)) fun r_6 => some (r_6, z_4) else if x1 = 1 then some (((z_4 10) 10), z_4) else bd (qX11_reservedAll z_4 (z_4 10)) fun r_5 => some (r_5, z_4))

set_option maxHeartbeats 4000000 in
set_option maxRecDepth 100000 in
theorem mX11_load_ (l : Launch) (D : va_G) (T : Nat → ClassId) (aM : Nat → Nat) (z : Nat → Nat → Int32) (x1 : Int32) {rR : Int32} {zR : Nat → Nat → Int32} (hres : qX11_load_ z x1 = some (rR, zR)) : Ct l yX11_load_ (Cond.code yX11_load_ cX11_load_ 2 (some .int) :: kAll) rmX11_load_ D T [.ref (aM 0), .int x1] (gM T aM z) (some (.int rR)) (gM T aM zR) := by
  refine Ct.of (cc := cX11_load_) (maxL := 2) (ret := (some .int)) (by decide +kernel) rfl (Nat.le_of_ble_eq_true rfl) ?_
  intro pr en st mi ag bl me co A ls F hr hlk hnm G hl
  have hl : lv_has ls 2 [(0, .ref (aM 0)), (1, .int x1)] := hl
  have h := hres
  unfold qX11_load_ at h
  refine lv_aload_n F.1 F.2.1 dX11_load__0 rfl (lv_at hl 0 rfl) ?_
  refine lv_iconst (v := 0) F.1 F.2.1 dX11_load__1 (by decide) ?_
  obtain ⟨z_1, e9, h⟩ := op_st h
  refine k_put F G 0 rfl (N := 35) (Tt := TX11) rfl kf11 tyX11_ok nmX11 0 (by decide) kl804 rfl (v := .int 0) rfl rfl (Nat.le_of_ble_eq_true rfl) dX11_load__2 (Wn := (gM T aM z_1)) (by subst e9; rfl) (fun H locs G => ?_)
  clear e9
  refine lv_aload_n F.1 F.2.1 dX11_load__5 rfl (lv_at hl 0 rfl) ?_
  refine lv_iload_n F.1 F.2.1 dX11_load__6 rfl (lv_at hl 1 rfl) ?_
  refine lv_i2l (v := x1.toInt64) F.1 F.2.1 dX11_load__7 rfl ?_
  refine lv_lconst (v := 0) F.1 F.2.1 dX11_load__8 (by decide) ?_
  refine lv_ldc2 (v := 2) F.1 F.2.1 F.2.2.2.1 (F.2.2.2.2 _ kl999) dX11_load__9 ?_
  obtain ⟨r_2, hc, h⟩ := op_b h
  refine k_callS (rv := (some (.int r_2))) (Wc := ([] : va_W)) (W2 := ([] : va_W)) (Wn := (gM T aM z_1)) (As := [.long x1.toInt64, .long 0, .long 2]) (rest := [.ref (aM 0)]) F G (mX11_isIn l D T x1.toInt64 0 2 hc) (va_cwS 3 F.2.2.2.2 (kg_c kl813 (kg_c kl814 (kg_c kl788 (kg_c kl805 kg_a)))) rfl rfl rfl (by decide +kernel) ⟨Nat.le_of_ble_eq_true rfl, Nat.le_of_ble_eq_true rfl⟩) (kCut_0 G) rfl hl.1 rfl (Nat.le_of_ble_eq_true rfl) dX11_load__12 ⟨Nat.le_of_ble_eq_true rfl, Nat.le_of_ble_eq_true rfl⟩ (cN := 0) (sN := 0) ⟨rfl, rfl⟩ (fun H locs G => ?_)
  refine lv_iconst (v := 1) F.1 F.2.1 dX11_load__15 (by decide) ?_
  obtain ⟨r_3, z_4, hc, h⟩ := op_b2 h
  refine k_callV (rv := (some (.int r_3))) (Wc := (gM T aM z_1)) (W2 := (gM T aM z_4)) (Wn := (gM T aM z_4)) (As := [.int r_2, .int 1]) (rest := []) F G (mX11_may l D T aM z_1 r_2 1 hc) (cwV 2 F.2.2.2.2 (kg_c kl809 (kg_c kl810 (kg_c kl811 (kg_c kl788 (kg_c kl806 kg_a))))) rfl rfl rfl (by decide +kernel) ⟨Nat.le_of_ble_eq_true rfl, Nat.le_of_ble_eq_true rfl⟩) 0 rfl (q := (RX11, TX11, 35)) rfl rfl (kCut_F G) rfl hl.1 rfl (Nat.le_of_ble_eq_true rfl) dX11_load__16 ⟨Nat.le_of_ble_eq_true rfl, Nat.le_of_ble_eq_true rfl⟩ (cN := 0) (sN := 0) ⟨rfl, rfl⟩ (fun H locs G => ?_)
  refine lv_if_ne (tgt := 24) F.1 F.2.1 dX11_load__19 (by decide) (fun c => ?_) (fun c => ?_)
  · have h := op_f h c
    refine lv_iload_n F.1 F.2.1 dX11_load__24 rfl (lv_at hl 1 rfl) ?_
    refine lv_if_ne (tgt := 39) F.1 F.2.1 dX11_load__25 (by decide) (fun c => ?_) (fun c => ?_)
    · have h := op_f h c
      refine lv_iload_n F.1 F.2.1 dX11_load__39 rfl (lv_at hl 1 rfl) ?_
      refine lv_iconst (v := 1) F.1 F.2.1 dX11_load__40 (by decide) ?_
      refine lv_icmp_ne (tgt := 54) F.1 F.2.1 dX11_load__41 (by decide) (fun c => ?_) (fun c => ?_)
      · have h := op_f h c
        refine lv_aload_n F.1 F.2.1 dX11_load__54 rfl (lv_at hl 0 rfl) ?_
        refine lv_aload_n F.1 F.2.1 dX11_load__55 rfl (lv_at hl 0 rfl) ?_
        refine k_get F G 0 rfl (N := 35) (Tt := TX11) rfl kf11 10 (by decide) kl783 (v := .ref (aM 6)) rfl dX11_load__56 ?_
        obtain ⟨r_5, hc, h⟩ := op_b h
        refine k_callV (rv := (some (.int r_5))) (Wc := (gMR T aM (aM 6) z_4 (z_4 10))) (W2 := (gMR T aM (aM 6) z_4 (z_4 10))) (Wn := (gM T aM z_4)) (As := [.ref (aM 6)]) (rest := []) F G (mX11_reservedAll l D T aM (aM 6) z_4 (z_4 10) hc) (cwV 1 F.2.2.2.2 (kg_c kl949 (kg_c kl950 (kg_c kl951 (kg_c kl788 (kg_c kl917 kg_a))))) rfl rfl rfl (by decide +kernel) ⟨Nat.le_of_ble_eq_true rfl, Nat.le_of_ble_eq_true rfl⟩) 0 rfl (q := (RX11, TX11, 35)) rfl rfl (kCut_R G [0, 1, 2, 3, 4, 6] rfl rfl) rfl hl.1 rfl (Nat.le_of_ble_eq_true rfl) dX11_load__59 ⟨Nat.le_of_ble_eq_true rfl, Nat.le_of_ble_eq_true rfl⟩ (cN := 0) (sN := 0) ⟨rfl, rfl⟩ (fun H locs G => ?_)
        obtain ⟨rfl, rfl⟩ := op_2 h
        exact k_iret F hr hlk G dX11_load__62
      · have h := op_t h c
        refine lv_aload_n F.1 F.2.1 dX11_load__44 rfl (lv_at hl 0 rfl) ?_
        refine k_get F G 0 rfl (N := 35) (Tt := TX11) rfl kf11 10 (by decide) kl783 (v := .ref (aM 6)) rfl dX11_load__45 ?_
        refine lv_bipush (v := 10) F.1 F.2.1 dX11_load__48 (by decide) ?_
        refine k_ialdN F G 6 rfl (kin (by decide +kernel)) 10 (by decide +kernel) dX11_load__50 ?_
        refine lv_goto (tgt := 62) F.1 F.2.1 dX11_load__51 (by decide) ?_
        obtain ⟨rfl, rfl⟩ := op_2 h
        exact k_iret F hr hlk G dX11_load__62
    · have h := op_t h c
      refine lv_aload_n F.1 F.2.1 dX11_load__28 rfl (lv_at hl 0 rfl) ?_
      refine lv_aload_n F.1 F.2.1 dX11_load__29 rfl (lv_at hl 0 rfl) ?_
      refine k_get F G 0 rfl (N := 35) (Tt := TX11) rfl kf11 10 (by decide) kl783 (v := .ref (aM 6)) rfl dX11_load__30 ?_
      obtain ⟨r_6, hc, h⟩ := op_b h
      refine k_callV (rv := (some (.int r_6))) (Wc := (gMR T aM (aM 6) z_4 (z_4 10))) (W2 := (gMR T aM (aM 6) z_4 (z_4 10))) (Wn := (gM T aM z_4)) (As := [.ref (aM 6)]) (rest := []) F G (mX11_drawn l D T aM (aM 6) z_4 (z_4 10) hc) (cwV 1 F.2.2.2.2 (kg_c kl981 (kg_c kl982 (kg_c kl983 (kg_c kl788 (kg_c kl905 kg_a))))) rfl rfl rfl (by decide +kernel) ⟨Nat.le_of_ble_eq_true rfl, Nat.le_of_ble_eq_true rfl⟩) 0 rfl (q := (RX11, TX11, 35)) rfl rfl (kCut_R G [0, 1, 2, 3, 4, 6] rfl rfl) rfl hl.1 rfl (Nat.le_of_ble_eq_true rfl) dX11_load__33 ⟨Nat.le_of_ble_eq_true rfl, Nat.le_of_ble_eq_true rfl⟩ (cN := 0) (sN := 0) ⟨rfl, rfl⟩ (fun H locs G => ?_)
      refine lv_goto (tgt := 62) F.1 F.2.1 dX11_load__36 (by decide) ?_
      obtain ⟨rfl, rfl⟩ := op_2 h
      exact k_iret F hr hlk G dX11_load__62
  · have h := op_t h c
    refine lv_iconst (v := 0) F.1 F.2.1 dX11_load__22 (by decide) ?_
    obtain ⟨rfl, rfl⟩ := op_2 h
    exact k_iret F hr hlk G dX11_load__23
abbrev rmX11_strain : Room := ({ frames := 0, cells := 0, slots := 0, locals := 0 } : Room)
noncomputable def qX11_strain (z : Nat → Nat → Int32) : Option (UInt64 × (Nat → Nat → Int32)) :=
  (bs (va_up z 0 (fun _ => 0)) fun z_1 => gd (vf_n64 (FP.ddiv (FP.i2d ((z_1 10) 10)) (FP.i2d ((z_1 10) 6)))) (some ((FP.ddiv (FP.i2d ((z_1 10) 10)) (FP.i2d ((z_1 10) 6))), z_1)))

set_option maxHeartbeats 4000000 in
set_option maxRecDepth 100000 in
theorem mX11_strain (l : Launch) (D : va_G) (T : Nat → ClassId) (aM : Nat → Nat) (z : Nat → Nat → Int32) {rR : UInt64} {zR : Nat → Nat → Int32} (hres : qX11_strain z = some (rR, zR)) : Ct l yX11_strain (Cond.code yX11_strain cX11_strain 1 (some .double) :: kAll) rmX11_strain D T [.ref (aM 0)] (gM T aM z) (some (.double rR)) (gM T aM zR) := by
  refine Ct.of (cc := cX11_strain) (maxL := 1) (ret := (some .double)) (by decide +kernel) rfl (Nat.le_of_ble_eq_true rfl) ?_
  intro pr en st mi ag bl me co A ls F hr hlk hnm G hl
  have hl : lv_has ls 1 [(0, .ref (aM 0))] := hl
  have h := hres
  unfold qX11_strain at h
  refine lv_aload_n F.1 F.2.1 dX11_strain_0 rfl (lv_at hl 0 rfl) ?_
  refine lv_iconst (v := 0) F.1 F.2.1 dX11_strain_1 (by decide) ?_
  obtain ⟨z_1, e9, h⟩ := op_st h
  refine k_put F G 0 rfl (N := 35) (Tt := TX11) rfl kf11 tyX11_ok nmX11 0 (by decide) kl804 rfl (v := .int 0) rfl rfl (Nat.le_of_ble_eq_true rfl) dX11_strain_2 (Wn := (gM T aM z_1)) (by subst e9; rfl) (fun H locs G => ?_)
  clear e9
  refine lv_aload_n F.1 F.2.1 dX11_strain_5 rfl (lv_at hl 0 rfl) ?_
  refine k_get F G 0 rfl (N := 35) (Tt := TX11) rfl kf11 10 (by decide) kl783 (v := .ref (aM 6)) rfl dX11_strain_6 ?_
  refine lv_bipush (v := 10) F.1 F.2.1 dX11_strain_9 (by decide) ?_
  refine k_ialdN F G 6 rfl (kin (by decide +kernel)) 10 (by decide +kernel) dX11_strain_11 ?_
  refine lv_i2d F.1 F.2.1 dX11_strain_12 ?_
  refine lv_aload_n F.1 F.2.1 dX11_strain_13 rfl (lv_at hl 0 rfl) ?_
  refine k_get F G 0 rfl (N := 35) (Tt := TX11) rfl kf11 10 (by decide) kl783 (v := .ref (aM 6)) rfl dX11_strain_14 ?_
  refine lv_bipush (v := 6) F.1 F.2.1 dX11_strain_17 (by decide) ?_
  refine k_ialdN F G 6 rfl (kin (by decide +kernel)) 6 (by decide +kernel) dX11_strain_19 ?_
  refine lv_i2d F.1 F.2.1 dX11_strain_20 ?_
  obtain ⟨c, h⟩ := op_g h
  refine lv_ddiv F.1 F.2.1 dX11_strain_21 c ?_
  obtain ⟨rfl, rfl⟩ := op_2 h
  exact k_dret F hr hlk G dX11_strain_22
abbrev rmX11_message : Room := ({ frames := 1, cells := 0, slots := 0, locals := 25 } : Room)
noncomputable def qX11_message (z : Nat → Nat → Int32) (x1 : Int32) (x2 : Int32) : Option (Int32 × (Nat → Nat → Int32)) :=
  (bs (va_up z 0 (fun _ => 0)) fun z_1 => bd (qX11_isIn x1.toInt64 0 ((((z_1 10) 11) - 1).toInt64)) fun r_2 => bd2 (qX11_may z_1 r_2 1) fun r_3 z_4 => if r_3 = 0 then some (0, z_4) else bd (qX11_isIn x2.toInt64 0 2) fun r_5 => bd2 (qX11_may z_4 r_5 2) fun r_6 z_7 => if r_6 = 0 then some (0, z_7) else gd (vp_in ((195 + (3 * x1)) + x2) 411) (some (((z_7 10) ((195 + (3 * x1)) + x2).toNatClampNeg), z_7)))

set_option maxHeartbeats 4000000 in
set_option maxRecDepth 100000 in
theorem mX11_message (l : Launch) (D : va_G) (T : Nat → ClassId) (aM : Nat → Nat) (z : Nat → Nat → Int32) (x1 : Int32) (x2 : Int32) {rR : Int32} {zR : Nat → Nat → Int32} (hres : qX11_message z x1 x2 = some (rR, zR)) : Ct l yX11_message (Cond.code yX11_message cX11_message 3 (some .int) :: kAll) rmX11_message D T [.ref (aM 0), .int x1, .int x2] (gM T aM z) (some (.int rR)) (gM T aM zR) := by
  refine Ct.of (cc := cX11_message) (maxL := 3) (ret := (some .int)) (by decide +kernel) rfl (Nat.le_of_ble_eq_true rfl) ?_
  intro pr en st mi ag bl me co A ls F hr hlk hnm G hl
  have hl : lv_has ls 3 [(0, .ref (aM 0)), (1, .int x1), (2, .int x2)] := hl
  have h := hres
  unfold qX11_message at h
  refine lv_aload_n F.1 F.2.1 dX11_message_0 rfl (lv_at hl 0 rfl) ?_
  refine lv_iconst (v := 0) F.1 F.2.1 dX11_message_1 (by decide) ?_
  obtain ⟨z_1, e9, h⟩ := op_st h
  refine k_put F G 0 rfl (N := 35) (Tt := TX11) rfl kf11 tyX11_ok nmX11 0 (by decide) kl804 rfl (v := .int 0) rfl rfl (Nat.le_of_ble_eq_true rfl) dX11_message_2 (Wn := (gM T aM z_1)) (by subst e9; rfl) (fun H locs G => ?_)
  clear e9
  refine lv_aload_n F.1 F.2.1 dX11_message_5 rfl (lv_at hl 0 rfl) ?_
  refine lv_iload_n F.1 F.2.1 dX11_message_6 rfl (lv_at hl 1 rfl) ?_
  refine lv_i2l (v := x1.toInt64) F.1 F.2.1 dX11_message_7 rfl ?_
  refine lv_lconst (v := 0) F.1 F.2.1 dX11_message_8 (by decide) ?_
  refine lv_aload_n F.1 F.2.1 dX11_message_9 rfl (lv_at hl 0 rfl) ?_
  refine k_get F G 0 rfl (N := 35) (Tt := TX11) rfl kf11 10 (by decide) kl783 (v := .ref (aM 6)) rfl dX11_message_10 ?_
  refine lv_bipush (v := 11) F.1 F.2.1 dX11_message_13 (by decide) ?_
  refine k_ialdN F G 6 rfl (kin (by decide +kernel)) 11 (by decide +kernel) dX11_message_15 ?_
  refine lv_iconst (v := 1) F.1 F.2.1 dX11_message_16 (by decide) ?_
  refine lv_isub F.1 F.2.1 dX11_message_17 ?_
  refine lv_i2l (v := (((z_1 10) 11) - 1).toInt64) F.1 F.2.1 dX11_message_18 rfl ?_
  obtain ⟨r_2, hc, h⟩ := op_b h
  refine k_callS (rv := (some (.int r_2))) (Wc := ([] : va_W)) (W2 := ([] : va_W)) (Wn := (gM T aM z_1)) (As := [.long x1.toInt64, .long 0, .long ((((z_1 10) 11) - 1).toInt64)]) (rest := [.ref (aM 0)]) F G (mX11_isIn l D T x1.toInt64 0 ((((z_1 10) 11) - 1).toInt64) hc) (va_cwS 3 F.2.2.2.2 (kg_c kl813 (kg_c kl814 (kg_c kl788 (kg_c kl805 kg_a)))) rfl rfl rfl (by decide +kernel) ⟨Nat.le_of_ble_eq_true rfl, Nat.le_of_ble_eq_true rfl⟩) (kCut_0 G) rfl hl.1 rfl (Nat.le_of_ble_eq_true rfl) dX11_message_19 ⟨Nat.le_of_ble_eq_true rfl, Nat.le_of_ble_eq_true rfl⟩ (cN := 0) (sN := 0) ⟨rfl, rfl⟩ (fun H locs G => ?_)
  refine lv_iconst (v := 1) F.1 F.2.1 dX11_message_22 (by decide) ?_
  obtain ⟨r_3, z_4, hc, h⟩ := op_b2 h
  refine k_callV (rv := (some (.int r_3))) (Wc := (gM T aM z_1)) (W2 := (gM T aM z_4)) (Wn := (gM T aM z_4)) (As := [.int r_2, .int 1]) (rest := []) F G (mX11_may l D T aM z_1 r_2 1 hc) (cwV 2 F.2.2.2.2 (kg_c kl809 (kg_c kl810 (kg_c kl811 (kg_c kl788 (kg_c kl806 kg_a))))) rfl rfl rfl (by decide +kernel) ⟨Nat.le_of_ble_eq_true rfl, Nat.le_of_ble_eq_true rfl⟩) 0 rfl (q := (RX11, TX11, 35)) rfl rfl (kCut_F G) rfl hl.1 rfl (Nat.le_of_ble_eq_true rfl) dX11_message_23 ⟨Nat.le_of_ble_eq_true rfl, Nat.le_of_ble_eq_true rfl⟩ (cN := 0) (sN := 0) ⟨rfl, rfl⟩ (fun H locs G => ?_)
  refine lv_if_eq (tgt := 46) F.1 F.2.1 dX11_message_26 (by decide) (fun c => ?_) (fun c => ?_)
  · have h := op_t h c
    refine lv_iconst (v := 0) F.1 F.2.1 dX11_message_46 (by decide) ?_
    obtain ⟨rfl, rfl⟩ := op_2 h
    exact k_iret F hr hlk G dX11_message_47
  · have h := op_f h c
    refine lv_aload_n F.1 F.2.1 dX11_message_29 rfl (lv_at hl 0 rfl) ?_
    refine lv_iload_n F.1 F.2.1 dX11_message_30 rfl (lv_at hl 2 rfl) ?_
    refine lv_i2l (v := x2.toInt64) F.1 F.2.1 dX11_message_31 rfl ?_
    refine lv_lconst (v := 0) F.1 F.2.1 dX11_message_32 (by decide) ?_
    refine lv_ldc2 (v := 2) F.1 F.2.1 F.2.2.2.1 (F.2.2.2.2 _ kl999) dX11_message_33 ?_
    obtain ⟨r_5, hc, h⟩ := op_b h
    refine k_callS (rv := (some (.int r_5))) (Wc := ([] : va_W)) (W2 := ([] : va_W)) (Wn := (gM T aM z_4)) (As := [.long x2.toInt64, .long 0, .long 2]) (rest := [.ref (aM 0)]) F G (mX11_isIn l D T x2.toInt64 0 2 hc) (va_cwS 3 F.2.2.2.2 (kg_c kl813 (kg_c kl814 (kg_c kl788 (kg_c kl805 kg_a)))) rfl rfl rfl (by decide +kernel) ⟨Nat.le_of_ble_eq_true rfl, Nat.le_of_ble_eq_true rfl⟩) (kCut_0 G) rfl hl.1 rfl (Nat.le_of_ble_eq_true rfl) dX11_message_36 ⟨Nat.le_of_ble_eq_true rfl, Nat.le_of_ble_eq_true rfl⟩ (cN := 0) (sN := 0) ⟨rfl, rfl⟩ (fun H locs G => ?_)
    refine lv_iconst (v := 2) F.1 F.2.1 dX11_message_39 (by decide) ?_
    obtain ⟨r_6, z_7, hc, h⟩ := op_b2 h
    refine k_callV (rv := (some (.int r_6))) (Wc := (gM T aM z_4)) (W2 := (gM T aM z_7)) (Wn := (gM T aM z_7)) (As := [.int r_5, .int 2]) (rest := []) F G (mX11_may l D T aM z_4 r_5 2 hc) (cwV 2 F.2.2.2.2 (kg_c kl809 (kg_c kl810 (kg_c kl811 (kg_c kl788 (kg_c kl806 kg_a))))) rfl rfl rfl (by decide +kernel) ⟨Nat.le_of_ble_eq_true rfl, Nat.le_of_ble_eq_true rfl⟩) 0 rfl (q := (RX11, TX11, 35)) rfl rfl (kCut_F G) rfl hl.1 rfl (Nat.le_of_ble_eq_true rfl) dX11_message_40 ⟨Nat.le_of_ble_eq_true rfl, Nat.le_of_ble_eq_true rfl⟩ (cN := 0) (sN := 0) ⟨rfl, rfl⟩ (fun H locs G => ?_)
    refine lv_if_ne (tgt := 48) F.1 F.2.1 dX11_message_43 (by decide) (fun c => ?_) (fun c => ?_)
    · have h := op_f h c
      refine lv_aload_n F.1 F.2.1 dX11_message_48 rfl (lv_at hl 0 rfl) ?_
      refine k_get F G 0 rfl (N := 35) (Tt := TX11) rfl kf11 10 (by decide) kl783 (v := .ref (aM 6)) rfl dX11_message_49 ?_
      refine lv_sipush (v := 195) F.1 F.2.1 dX11_message_52 (by decide) ?_
      refine lv_iconst (v := 3) F.1 F.2.1 dX11_message_55 (by decide) ?_
      refine lv_iload_n F.1 F.2.1 dX11_message_56 rfl (lv_at hl 1 rfl) ?_
      refine lv_imul F.1 F.2.1 dX11_message_57 ?_
      refine lv_iadd F.1 F.2.1 dX11_message_58 ?_
      refine lv_iload_n F.1 F.2.1 dX11_message_59 rfl (lv_at hl 2 rfl) ?_
      refine lv_iadd F.1 F.2.1 dX11_message_60 ?_
      obtain ⟨c, h⟩ := op_g h
      refine k_iald F G 6 rfl c dX11_message_61 ?_
      obtain ⟨rfl, rfl⟩ := op_2 h
      exact k_iret F hr hlk G dX11_message_62
    · have h := op_t h c
      refine lv_iconst (v := 0) F.1 F.2.1 dX11_message_46 (by decide) ?_
      obtain ⟨rfl, rfl⟩ := op_2 h
      exact k_iret F hr hlk G dX11_message_47
abbrev rmX11_traffic : Room := ({ frames := 1, cells := 0, slots := 0, locals := 25 } : Room)
noncomputable def qX11_traffic (z : Nat → Nat → Int32) (x1 : Int32) (x2 : Int32) : Option (Int32 × (Nat → Nat → Int32)) :=
  (bs (va_up z 0 (fun _ => 0)) fun z_1 => bd (qX11_isIn x1.toInt64 0 5) fun r_2 => bd2 (qX11_may z_1 r_2 1) fun r_3 z_4 => if r_3 = 0 then some (0, z_4) else (jn (fun (y_5 : Int32) => gd (vp_in (y_5 + x1) 411) (some (((z_4 10) (y_5 + x1).toNatClampNeg), z_4))) fun j37 => if x2 = 0 then (j37 15) else (j37 21)))

set_option maxHeartbeats 4000000 in
set_option maxRecDepth 100000 in
theorem mX11_traffic (l : Launch) (D : va_G) (T : Nat → ClassId) (aM : Nat → Nat) (z : Nat → Nat → Int32) (x1 : Int32) (x2 : Int32) {rR : Int32} {zR : Nat → Nat → Int32} (hres : qX11_traffic z x1 x2 = some (rR, zR)) : Ct l yX11_traffic (Cond.code yX11_traffic cX11_traffic 3 (some .int) :: kAll) rmX11_traffic D T [.ref (aM 0), .int x1, .int x2] (gM T aM z) (some (.int rR)) (gM T aM zR) := by
  refine Ct.of (cc := cX11_traffic) (maxL := 3) (ret := (some .int)) (by decide +kernel) rfl (Nat.le_of_ble_eq_true rfl) ?_
  intro pr en st mi ag bl me co A ls F hr hlk hnm G hl
  have hl : lv_has ls 3 [(0, .ref (aM 0)), (1, .int x1), (2, .int x2)] := hl
  have h := hres
  unfold qX11_traffic at h
  refine lv_aload_n F.1 F.2.1 dX11_traffic_0 rfl (lv_at hl 0 rfl) ?_
  refine lv_iconst (v := 0) F.1 F.2.1 dX11_traffic_1 (by decide) ?_
  obtain ⟨z_1, e9, h⟩ := op_st h
  refine k_put F G 0 rfl (N := 35) (Tt := TX11) rfl kf11 tyX11_ok nmX11 0 (by decide) kl804 rfl (v := .int 0) rfl rfl (Nat.le_of_ble_eq_true rfl) dX11_traffic_2 (Wn := (gM T aM z_1)) (by subst e9; rfl) (fun H locs G => ?_)
  clear e9
  refine lv_aload_n F.1 F.2.1 dX11_traffic_5 rfl (lv_at hl 0 rfl) ?_
  refine lv_iload_n F.1 F.2.1 dX11_traffic_6 rfl (lv_at hl 1 rfl) ?_
  refine lv_i2l (v := x1.toInt64) F.1 F.2.1 dX11_traffic_7 rfl ?_
  refine lv_lconst (v := 0) F.1 F.2.1 dX11_traffic_8 (by decide) ?_
  refine lv_ldc2 (v := 5) F.1 F.2.1 F.2.2.2.1 (F.2.2.2.2 _ kl993) dX11_traffic_9 ?_
  obtain ⟨r_2, hc, h⟩ := op_b h
  refine k_callS (rv := (some (.int r_2))) (Wc := ([] : va_W)) (W2 := ([] : va_W)) (Wn := (gM T aM z_1)) (As := [.long x1.toInt64, .long 0, .long 5]) (rest := [.ref (aM 0)]) F G (mX11_isIn l D T x1.toInt64 0 5 hc) (va_cwS 3 F.2.2.2.2 (kg_c kl813 (kg_c kl814 (kg_c kl788 (kg_c kl805 kg_a)))) rfl rfl rfl (by decide +kernel) ⟨Nat.le_of_ble_eq_true rfl, Nat.le_of_ble_eq_true rfl⟩) (kCut_0 G) rfl hl.1 rfl (Nat.le_of_ble_eq_true rfl) dX11_traffic_12 ⟨Nat.le_of_ble_eq_true rfl, Nat.le_of_ble_eq_true rfl⟩ (cN := 0) (sN := 0) ⟨rfl, rfl⟩ (fun H locs G => ?_)
  refine lv_iconst (v := 1) F.1 F.2.1 dX11_traffic_15 (by decide) ?_
  obtain ⟨r_3, z_4, hc, h⟩ := op_b2 h
  refine k_callV (rv := (some (.int r_3))) (Wc := (gM T aM z_1)) (W2 := (gM T aM z_4)) (Wn := (gM T aM z_4)) (As := [.int r_2, .int 1]) (rest := []) F G (mX11_may l D T aM z_1 r_2 1 hc) (cwV 2 F.2.2.2.2 (kg_c kl809 (kg_c kl810 (kg_c kl811 (kg_c kl788 (kg_c kl806 kg_a))))) rfl rfl rfl (by decide +kernel) ⟨Nat.le_of_ble_eq_true rfl, Nat.le_of_ble_eq_true rfl⟩) 0 rfl (q := (RX11, TX11, 35)) rfl rfl (kCut_F G) rfl hl.1 rfl (Nat.le_of_ble_eq_true rfl) dX11_traffic_16 ⟨Nat.le_of_ble_eq_true rfl, Nat.le_of_ble_eq_true rfl⟩ (cN := 0) (sN := 0) ⟨rfl, rfl⟩ (fun H locs G => ?_)
  refine lv_if_eq (tgt := 43) F.1 F.2.1 dX11_traffic_19 (by decide) (fun c => ?_) (fun c => ?_)
  · have h := op_t h c
    refine lv_iconst (v := 0) F.1 F.2.1 dX11_traffic_43 (by decide) ?_
    obtain ⟨rfl, rfl⟩ := op_2 h
    exact k_iret F hr hlk G dX11_traffic_44
  · have h := op_f h c
    refine lv_aload_n F.1 F.2.1 dX11_traffic_22 rfl (lv_at hl 0 rfl) ?_
    refine k_get F G 0 rfl (N := 35) (Tt := TX11) rfl kf11 10 (by decide) kl783 (v := .ref (aM 6)) rfl dX11_traffic_23 ?_
    refine lv_iload_n F.1 F.2.1 dX11_traffic_26 rfl (lv_at hl 2 rfl) ?_
    obtain ⟨j37, hj37, h⟩ := op_j h
    have J37 : ∀ (y_5 : Int32) (H : Heap) (locs : List Loc) (ls : Array Slot), j37 y_5 = some (rR, zR) → Rg D T A st (gM T aM z_4) H locs → lv_has ls 3 [(1, .int x1)] → W pr l en rmX11_traffic st mi ag bl me co H locs 0 0 (MQ bl (kQ (some (.int rR)) D (gM T aM zR) A) ag st rmX11_traffic.cells rmX11_traffic.slots A) (F0 mi 37 ls [.int y_5, .ref (aM 6)]) := by
      intro y_5 H locs ls h G hl
      rw [hj37] at h
      refine lv_iload_n F.1 F.2.1 dX11_traffic_37 rfl (lv_at hl 0 rfl) ?_
      refine lv_iadd F.1 F.2.1 dX11_traffic_38 ?_
      obtain ⟨c, h⟩ := op_g h
      refine k_iald F G 6 rfl c dX11_traffic_39 ?_
      refine lv_goto (tgt := 44) F.1 F.2.1 dX11_traffic_40 (by decide) ?_
      obtain ⟨rfl, rfl⟩ := op_2 h
      exact k_iret F hr hlk G dX11_traffic_44
    clear hj37
    refine lv_if_eq (tgt := 35) F.1 F.2.1 dX11_traffic_27 (by decide) (fun c => ?_) (fun c => ?_)
    · have h := op_t h c
      refine lv_bipush (v := 15) F.1 F.2.1 dX11_traffic_35 (by decide) ?_
      exact J37 15 _ _ _ h G (lv_sub hl [1] rfl)
    · have h := op_f h c
      refine lv_bipush (v := 21) F.1 F.2.1 dX11_traffic_30 (by decide) ?_
      refine lv_goto (tgt := 37) F.1 F.2.1 dX11_traffic_32 (by decide) ?_
      exact J37 21 _ _ _ h G (lv_sub hl [1] rfl)
abbrev rmX11_learned : Room := ({ frames := 1, cells := 0, slots := 0, locals := 25 } : Room)
noncomputable def qX11_learned (z : Nat → Nat → Int32) (x1 : Int32) : Option (Int32 × (Nat → Nat → Int32)) :=
  (bs (va_up z 0 (fun _ => 0)) fun z_1 => bd (qX11_isIn x1.toInt64 0 ((((z_1 10) 13) - 1).toInt64)) fun r_2 => bd2 (qX11_may z_1 r_2 1) fun r_3 z_4 => if r_3 = 0 then some (0, z_4) else gd (vp_in (39 + x1) 411) (some (((z_4 10) (39 + x1).toNatClampNeg), z_4)))

set_option maxHeartbeats 4000000 in
set_option maxRecDepth 100000 in
theorem mX11_learned (l : Launch) (D : va_G) (T : Nat → ClassId) (aM : Nat → Nat) (z : Nat → Nat → Int32) (x1 : Int32) {rR : Int32} {zR : Nat → Nat → Int32} (hres : qX11_learned z x1 = some (rR, zR)) : Ct l yX11_learned (Cond.code yX11_learned cX11_learned 2 (some .int) :: kAll) rmX11_learned D T [.ref (aM 0), .int x1] (gM T aM z) (some (.int rR)) (gM T aM zR) := by
  refine Ct.of (cc := cX11_learned) (maxL := 2) (ret := (some .int)) (by decide +kernel) rfl (Nat.le_of_ble_eq_true rfl) ?_
  intro pr en st mi ag bl me co A ls F hr hlk hnm G hl
  have hl : lv_has ls 2 [(0, .ref (aM 0)), (1, .int x1)] := hl
  have h := hres
  unfold qX11_learned at h
  refine lv_aload_n F.1 F.2.1 dX11_learned_0 rfl (lv_at hl 0 rfl) ?_
  refine lv_iconst (v := 0) F.1 F.2.1 dX11_learned_1 (by decide) ?_
  obtain ⟨z_1, e9, h⟩ := op_st h
  refine k_put F G 0 rfl (N := 35) (Tt := TX11) rfl kf11 tyX11_ok nmX11 0 (by decide) kl804 rfl (v := .int 0) rfl rfl (Nat.le_of_ble_eq_true rfl) dX11_learned_2 (Wn := (gM T aM z_1)) (by subst e9; rfl) (fun H locs G => ?_)
  clear e9
  refine lv_aload_n F.1 F.2.1 dX11_learned_5 rfl (lv_at hl 0 rfl) ?_
  refine lv_iload_n F.1 F.2.1 dX11_learned_6 rfl (lv_at hl 1 rfl) ?_
  refine lv_i2l (v := x1.toInt64) F.1 F.2.1 dX11_learned_7 rfl ?_
  refine lv_lconst (v := 0) F.1 F.2.1 dX11_learned_8 (by decide) ?_
  refine lv_aload_n F.1 F.2.1 dX11_learned_9 rfl (lv_at hl 0 rfl) ?_
  refine k_get F G 0 rfl (N := 35) (Tt := TX11) rfl kf11 10 (by decide) kl783 (v := .ref (aM 6)) rfl dX11_learned_10 ?_
  refine lv_bipush (v := 13) F.1 F.2.1 dX11_learned_13 (by decide) ?_
  refine k_ialdN F G 6 rfl (kin (by decide +kernel)) 13 (by decide +kernel) dX11_learned_15 ?_
  refine lv_iconst (v := 1) F.1 F.2.1 dX11_learned_16 (by decide) ?_
  refine lv_isub F.1 F.2.1 dX11_learned_17 ?_
  refine lv_i2l (v := (((z_1 10) 13) - 1).toInt64) F.1 F.2.1 dX11_learned_18 rfl ?_
  obtain ⟨r_2, hc, h⟩ := op_b h
  refine k_callS (rv := (some (.int r_2))) (Wc := ([] : va_W)) (W2 := ([] : va_W)) (Wn := (gM T aM z_1)) (As := [.long x1.toInt64, .long 0, .long ((((z_1 10) 13) - 1).toInt64)]) (rest := [.ref (aM 0)]) F G (mX11_isIn l D T x1.toInt64 0 ((((z_1 10) 13) - 1).toInt64) hc) (va_cwS 3 F.2.2.2.2 (kg_c kl813 (kg_c kl814 (kg_c kl788 (kg_c kl805 kg_a)))) rfl rfl rfl (by decide +kernel) ⟨Nat.le_of_ble_eq_true rfl, Nat.le_of_ble_eq_true rfl⟩) (kCut_0 G) rfl hl.1 rfl (Nat.le_of_ble_eq_true rfl) dX11_learned_19 ⟨Nat.le_of_ble_eq_true rfl, Nat.le_of_ble_eq_true rfl⟩ (cN := 0) (sN := 0) ⟨rfl, rfl⟩ (fun H locs G => ?_)
  refine lv_iconst (v := 1) F.1 F.2.1 dX11_learned_22 (by decide) ?_
  obtain ⟨r_3, z_4, hc, h⟩ := op_b2 h
  refine k_callV (rv := (some (.int r_3))) (Wc := (gM T aM z_1)) (W2 := (gM T aM z_4)) (Wn := (gM T aM z_4)) (As := [.int r_2, .int 1]) (rest := []) F G (mX11_may l D T aM z_1 r_2 1 hc) (cwV 2 F.2.2.2.2 (kg_c kl809 (kg_c kl810 (kg_c kl811 (kg_c kl788 (kg_c kl806 kg_a))))) rfl rfl rfl (by decide +kernel) ⟨Nat.le_of_ble_eq_true rfl, Nat.le_of_ble_eq_true rfl⟩) 0 rfl (q := (RX11, TX11, 35)) rfl rfl (kCut_F G) rfl hl.1 rfl (Nat.le_of_ble_eq_true rfl) dX11_learned_23 ⟨Nat.le_of_ble_eq_true rfl, Nat.le_of_ble_eq_true rfl⟩ (cN := 0) (sN := 0) ⟨rfl, rfl⟩ (fun H locs G => ?_)
  refine lv_if_eq (tgt := 41) F.1 F.2.1 dX11_learned_26 (by decide) (fun c => ?_) (fun c => ?_)
  · have h := op_t h c
    refine lv_iconst (v := 0) F.1 F.2.1 dX11_learned_41 (by decide) ?_
    obtain ⟨rfl, rfl⟩ := op_2 h
    exact k_iret F hr hlk G dX11_learned_42
  · have h := op_f h c
    refine lv_aload_n F.1 F.2.1 dX11_learned_29 rfl (lv_at hl 0 rfl) ?_
    refine k_get F G 0 rfl (N := 35) (Tt := TX11) rfl kf11 10 (by decide) kl783 (v := .ref (aM 6)) rfl dX11_learned_30 ?_
    refine lv_bipush (v := 39) F.1 F.2.1 dX11_learned_33 (by decide) ?_
    refine lv_iload_n F.1 F.2.1 dX11_learned_35 rfl (lv_at hl 1 rfl) ?_
    refine lv_iadd F.1 F.2.1 dX11_learned_36 ?_
    obtain ⟨c, h⟩ := op_g h
    refine k_iald F G 6 rfl c dX11_learned_37 ?_
    refine lv_goto (tgt := 42) F.1 F.2.1 dX11_learned_38 (by decide) ?_
    obtain ⟨rfl, rfl⟩ := op_2 h
    exact k_iret F hr hlk G dX11_learned_42
abbrev rmX11_grants : Room := ({ frames := 5, cells := 0, slots := 0, locals := 116 } : Room)
noncomputable def qX11_grants (z : Nat → Nat → Int32) : Option (Int32 × (Nat → Nat → Int32)) :=
  (bs (va_up z 0 (fun _ => 0)) fun z_1 => bd2 (qX11_grantsOf z_1 (z_1 10) 0) fun r_2 rw_3 => (bs (va_up z_1 10 rw_3) fun z_4 => some (r_2, z_4)))

set_option maxHeartbeats 4000000 in
set_option maxRecDepth 100000 in
theorem mX11_grants (l : Launch) (D : va_G) (T : Nat → ClassId) (aM : Nat → Nat) (z : Nat → Nat → Int32) {rR : Int32} {zR : Nat → Nat → Int32} (hres : qX11_grants z = some (rR, zR)) : Ct l yX11_grants (Cond.code yX11_grants cX11_grants 1 (some .int) :: kAll) rmX11_grants D T [.ref (aM 0)] (gM T aM z) (some (.int rR)) (gM T aM zR) := by
  refine Ct.of (cc := cX11_grants) (maxL := 1) (ret := (some .int)) (by decide +kernel) rfl (Nat.le_of_ble_eq_true rfl) ?_
  intro pr en st mi ag bl me co A ls F hr hlk hnm G hl
  have hl : lv_has ls 1 [(0, .ref (aM 0))] := hl
  have h := hres
  unfold qX11_grants at h
  refine lv_aload_n F.1 F.2.1 dX11_grants_0 rfl (lv_at hl 0 rfl) ?_
  refine lv_iconst (v := 0) F.1 F.2.1 dX11_grants_1 (by decide) ?_
  obtain ⟨z_1, e9, h⟩ := op_st h
  refine k_put F G 0 rfl (N := 35) (Tt := TX11) rfl kf11 tyX11_ok nmX11 0 (by decide) kl804 rfl (v := .int 0) rfl rfl (Nat.le_of_ble_eq_true rfl) dX11_grants_2 (Wn := (gM T aM z_1)) (by subst e9; rfl) (fun H locs G => ?_)
  clear e9
  refine lv_aload_n F.1 F.2.1 dX11_grants_5 rfl (lv_at hl 0 rfl) ?_
  refine lv_aload_n F.1 F.2.1 dX11_grants_6 rfl (lv_at hl 0 rfl) ?_
  refine k_get F G 0 rfl (N := 35) (Tt := TX11) rfl kf11 10 (by decide) kl783 (v := .ref (aM 6)) rfl dX11_grants_7 ?_
  refine lv_iconst (v := 0) F.1 F.2.1 dX11_grants_10 (by decide) ?_
  obtain ⟨r_2, rw_3, hc, h⟩ := op_b2 h
  obtain ⟨z_4, e9, h⟩ := op_st h
  refine k_callV (rv := (some (.int r_2))) (Wc := (gMR T aM (aM 6) z_1 (z_1 10))) (W2 := (gMR T aM (aM 6) z_1 rw_3)) (Wn := (gM T aM z_4)) (As := [.ref (aM 6), .int 0]) (rest := []) F G (mX11_grantsOf l D T aM (aM 6) z_1 (z_1 10) 0 hc) (cwV 2 F.2.2.2.2 (kg_c kl978 (kg_c kl979 (kg_c kl980 (kg_c kl788 (kg_c kl948 kg_a))))) rfl rfl rfl (by decide +kernel) ⟨Nat.le_of_ble_eq_true rfl, Nat.le_of_ble_eq_true rfl⟩) 0 rfl (q := (RX11, TX11, 35)) rfl rfl (kCut_G (Wr := [(aM 5, .inl (T 0, 96, .inl (z_1 9))), (aM 7, .inl (T 0, 411, .inl (z_1 11))), (aM 8, .inl (T 0, 3288, .inl (z_1 12))), (aM 9, .inl (T 0, 822, .inl (z_1 13))), (aM 10, .inl (T 3, 2, .inl (z_1 14))), (aM 11, .inl (T 0, 900, .inl (z_1 16))), (aM 12, .inl (T 0, 411, .inl (z_1 17))), (aM 13, .inl (T 0, 48, .inl (z_1 18))), (aM 14, .inl (T 0, 12, .inl (z_1 19))), (aM 15, .inl (T 0, 24, .inl (z_1 20))), (aM 16, .inl (T 0, 8, .inl (z_1 21))), (aM 17, .inl (T 0, 96, .inl (z_1 22)))]) G [0, 1, 2, 3, 4, 6] [5, 7, 8, 9, 10, 11, 12, 13, 14, 15, 16, 17] rfl rfl rfl rfl (by decide) [12, 13, 14, 15, 16, 0, 17, 1, 2, 3, 4, 5, 6, 7, 8, 9, 10, 11] rfl (by subst e9; rfl)) rfl hl.1 rfl (Nat.le_of_ble_eq_true rfl) dX11_grants_11 ⟨Nat.le_of_ble_eq_true rfl, Nat.le_of_ble_eq_true rfl⟩ (cN := 0) (sN := 0) ⟨rfl, rfl⟩ (fun H locs G => ?_)
  clear e9
  obtain ⟨rfl, rfl⟩ := op_2 h
  exact k_iret F hr hlk G dX11_grants_14
abbrev rmX11_why : Room := ({ frames := 5, cells := 0, slots := 0, locals := 116 } : Room)
noncomputable def qX11_why (z : Nat → Nat → Int32) (x1 : Int32) : Option (Int32 × (Nat → Nat → Int32)) :=
  (bs (va_up z 0 (fun _ => 0)) fun z_1 => bd (qX11_isOutlet z_1 x1) fun r_2 => bd2 (qX11_may z_1 r_2 1) fun r_3 z_4 => if r_3 = 0 then some (0, z_4) else bd (qX11_at x1 1) fun r_5 => gd (vp_in r_5 411) (if ((z_4 10) r_5.toNatClampNeg) = 0 then some (1, z_4) else bd (qX11_at x1 2) fun r_6 => gd (vp_in r_6 411) (if ((z_4 10) r_6.toNatClampNeg) = 1 then bd (qX11_isDark z_4 (z_4 10)) fun r_7 => if r_7 = 0 then bd (qX11_at x1 9) fun r_8 => gd (vp_in r_8 411) (if ((z_4 10) r_8.toNatClampNeg) = 1 then bd (qX11_lacks z_4 (z_4 10) x1) fun r_9 => if r_9 = 0 then bd (qX11_expected z_4 (z_4 10) x1) fun r_10 => if r_10 ≤ ((z_4 10) 6) then bd2 (qX11_grantsOf z_4 (z_4 10) 0) fun r_11 rw_12 => (bs (va_up z_4 10 rw_12) fun z_13 => if ((r_11 >>> (x1 &&& 31)) &&& 1) = 1 then some (0, z_13) else some (7, z_13)) else some (6, z_4) else some (5, z_4) else some (4, z_4)) else some (3, z_4) else some (2, z_4))))

set_option maxHeartbeats 4000000 in
set_option maxRecDepth 100000 in
theorem mX11_why (l : Launch) (D : va_G) (T : Nat → ClassId) (aM : Nat → Nat) (z : Nat → Nat → Int32) (x1 : Int32) {rR : Int32} {zR : Nat → Nat → Int32} (hres : qX11_why z x1 = some (rR, zR)) : Ct l yX11_why (Cond.code yX11_why cX11_why 2 (some .int) :: kAll) rmX11_why D T [.ref (aM 0), .int x1] (gM T aM z) (some (.int rR)) (gM T aM zR) := by
  refine Ct.of (cc := cX11_why) (maxL := 2) (ret := (some .int)) (by decide +kernel) rfl (Nat.le_of_ble_eq_true rfl) ?_
  intro pr en st mi ag bl me co A ls F hr hlk hnm G hl
  have hl : lv_has ls 2 [(0, .ref (aM 0)), (1, .int x1)] := hl
  have h := hres
  unfold qX11_why at h
  refine lv_aload_n F.1 F.2.1 dX11_why_0 rfl (lv_at hl 0 rfl) ?_
  refine lv_iconst (v := 0) F.1 F.2.1 dX11_why_1 (by decide) ?_
  obtain ⟨z_1, e9, h⟩ := op_st h
  refine k_put F G 0 rfl (N := 35) (Tt := TX11) rfl kf11 tyX11_ok nmX11 0 (by decide) kl804 rfl (v := .int 0) rfl rfl (Nat.le_of_ble_eq_true rfl) dX11_why_2 (Wn := (gM T aM z_1)) (by subst e9; rfl) (fun H locs G => ?_)
  clear e9
  refine lv_aload_n F.1 F.2.1 dX11_why_5 rfl (lv_at hl 0 rfl) ?_
  refine lv_aload_n F.1 F.2.1 dX11_why_6 rfl (lv_at hl 0 rfl) ?_
  refine lv_iload_n F.1 F.2.1 dX11_why_7 rfl (lv_at hl 1 rfl) ?_
  obtain ⟨r_2, hc, h⟩ := op_b h
  refine k_callV (rv := (some (.int r_2))) (Wc := (gM T aM z_1)) (W2 := (gM T aM z_1)) (Wn := (gM T aM z_1)) (As := [.int x1]) (rest := [.ref (aM 0)]) F G (mX11_isOutlet l D T aM z_1 x1 hc) (cwV 1 F.2.2.2.2 (kg_c kl989 (kg_c kl990 (kg_c kl991 (kg_c kl788 (kg_c kl984 kg_a))))) rfl rfl rfl (by decide +kernel) ⟨Nat.le_of_ble_eq_true rfl, Nat.le_of_ble_eq_true rfl⟩) 0 rfl (q := (RX11, TX11, 35)) rfl rfl (kCut_F G) rfl hl.1 rfl (Nat.le_of_ble_eq_true rfl) dX11_why_8 ⟨Nat.le_of_ble_eq_true rfl, Nat.le_of_ble_eq_true rfl⟩ (cN := 0) (sN := 0) ⟨rfl, rfl⟩ (fun H locs G => ?_)
  refine lv_iconst (v := 1) F.1 F.2.1 dX11_why_11 (by decide) ?_
  obtain ⟨r_3, z_4, hc, h⟩ := op_b2 h
  refine k_callV (rv := (some (.int r_3))) (Wc := (gM T aM z_1)) (W2 := (gM T aM z_4)) (Wn := (gM T aM z_4)) (As := [.int r_2, .int 1]) (rest := []) F G (mX11_may l D T aM z_1 r_2 1 hc) (cwV 2 F.2.2.2.2 (kg_c kl809 (kg_c kl810 (kg_c kl811 (kg_c kl788 (kg_c kl806 kg_a))))) rfl rfl rfl (by decide +kernel) ⟨Nat.le_of_ble_eq_true rfl, Nat.le_of_ble_eq_true rfl⟩) 0 rfl (q := (RX11, TX11, 35)) rfl rfl (kCut_F G) rfl hl.1 rfl (Nat.le_of_ble_eq_true rfl) dX11_why_12 ⟨Nat.le_of_ble_eq_true rfl, Nat.le_of_ble_eq_true rfl⟩ (cN := 0) (sN := 0) ⟨rfl, rfl⟩ (fun H locs G => ?_)
  refine lv_if_ne (tgt := 20) F.1 F.2.1 dX11_why_15 (by decide) (fun c => ?_) (fun c => ?_)
  · have h := op_f h c
    refine lv_aload_n F.1 F.2.1 dX11_why_20 rfl (lv_at hl 0 rfl) ?_
    refine k_get F G 0 rfl (N := 35) (Tt := TX11) rfl kf11 10 (by decide) kl783 (v := .ref (aM 6)) rfl dX11_why_21 ?_
    refine lv_iload_n F.1 F.2.1 dX11_why_24 rfl (lv_at hl 1 rfl) ?_
    refine lv_iconst (v := 1) F.1 F.2.1 dX11_why_25 (by decide) ?_
    obtain ⟨r_5, hc, h⟩ := op_b h
    refine k_callS (rv := (some (.int r_5))) (Wc := ([] : va_W)) (W2 := ([] : va_W)) (Wn := (gM T aM z_4)) (As := [.int x1, .int 1]) (rest := [.ref (aM 6)]) F G (mX11_at l D T x1 1 hc) (va_cwS 2 F.2.2.2.2 (kg_c kl786 (kg_c kl787 (kg_c kl788 (kg_c kl767 kg_a)))) rfl rfl rfl (by decide +kernel) ⟨Nat.le_of_ble_eq_true rfl, Nat.le_of_ble_eq_true rfl⟩) (kCut_0 G) rfl hl.1 rfl (Nat.le_of_ble_eq_true rfl) dX11_why_26 ⟨Nat.le_of_ble_eq_true rfl, Nat.le_of_ble_eq_true rfl⟩ (cN := 0) (sN := 0) ⟨rfl, rfl⟩ (fun H locs G => ?_)
    obtain ⟨c, h⟩ := op_g h
    refine k_iald F G 6 rfl c dX11_why_29 ?_
    refine lv_if_ne (tgt := 35) F.1 F.2.1 dX11_why_30 (by decide) (fun c => ?_) (fun c => ?_)
    · have h := op_f h c
      refine lv_aload_n F.1 F.2.1 dX11_why_35 rfl (lv_at hl 0 rfl) ?_
      refine k_get F G 0 rfl (N := 35) (Tt := TX11) rfl kf11 10 (by decide) kl783 (v := .ref (aM 6)) rfl dX11_why_36 ?_
      refine lv_iload_n F.1 F.2.1 dX11_why_39 rfl (lv_at hl 1 rfl) ?_
      refine lv_iconst (v := 2) F.1 F.2.1 dX11_why_40 (by decide) ?_
      obtain ⟨r_6, hc, h⟩ := op_b h
      refine k_callS (rv := (some (.int r_6))) (Wc := ([] : va_W)) (W2 := ([] : va_W)) (Wn := (gM T aM z_4)) (As := [.int x1, .int 2]) (rest := [.ref (aM 6)]) F G (mX11_at l D T x1 2 hc) (va_cwS 2 F.2.2.2.2 (kg_c kl786 (kg_c kl787 (kg_c kl788 (kg_c kl767 kg_a)))) rfl rfl rfl (by decide +kernel) ⟨Nat.le_of_ble_eq_true rfl, Nat.le_of_ble_eq_true rfl⟩) (kCut_0 G) rfl hl.1 rfl (Nat.le_of_ble_eq_true rfl) dX11_why_41 ⟨Nat.le_of_ble_eq_true rfl, Nat.le_of_ble_eq_true rfl⟩ (cN := 0) (sN := 0) ⟨rfl, rfl⟩ (fun H locs G => ?_)
      obtain ⟨c, h⟩ := op_g h
      refine k_iald F G 6 rfl c dX11_why_44 ?_
      refine lv_iconst (v := 1) F.1 F.2.1 dX11_why_45 (by decide) ?_
      refine lv_icmp_eq (tgt := 51) F.1 F.2.1 dX11_why_46 (by decide) (fun c => ?_) (fun c => ?_)
      · have h := op_t h c
        refine lv_aload_n F.1 F.2.1 dX11_why_51 rfl (lv_at hl 0 rfl) ?_
        refine lv_aload_n F.1 F.2.1 dX11_why_52 rfl (lv_at hl 0 rfl) ?_
        refine k_get F G 0 rfl (N := 35) (Tt := TX11) rfl kf11 10 (by decide) kl783 (v := .ref (aM 6)) rfl dX11_why_53 ?_
        obtain ⟨r_7, hc, h⟩ := op_b h
        refine k_callV (rv := (some (.int r_7))) (Wc := (gMR T aM (aM 6) z_4 (z_4 10))) (W2 := (gMR T aM (aM 6) z_4 (z_4 10))) (Wn := (gM T aM z_4)) (As := [.ref (aM 6)]) (rest := []) F G (mX11_isDark l D T aM (aM 6) z_4 (z_4 10) hc) (cwV 1 F.2.2.2.2 (kg_c kl963 (kg_c kl964 (kg_c kl965 (kg_c kl788 (kg_c kl923 kg_a))))) rfl rfl rfl (by decide +kernel) ⟨Nat.le_of_ble_eq_true rfl, Nat.le_of_ble_eq_true rfl⟩) 0 rfl (q := (RX11, TX11, 35)) rfl rfl (kCut_R G [0, 1, 2, 3, 4, 6] rfl rfl) rfl hl.1 rfl (Nat.le_of_ble_eq_true rfl) dX11_why_56 ⟨Nat.le_of_ble_eq_true rfl, Nat.le_of_ble_eq_true rfl⟩ (cN := 0) (sN := 0) ⟨rfl, rfl⟩ (fun H locs G => ?_)
        refine lv_if_eq (tgt := 64) F.1 F.2.1 dX11_why_59 (by decide) (fun c => ?_) (fun c => ?_)
        · have h := op_t h c
          refine lv_aload_n F.1 F.2.1 dX11_why_64 rfl (lv_at hl 0 rfl) ?_
          refine k_get F G 0 rfl (N := 35) (Tt := TX11) rfl kf11 10 (by decide) kl783 (v := .ref (aM 6)) rfl dX11_why_65 ?_
          refine lv_iload_n F.1 F.2.1 dX11_why_68 rfl (lv_at hl 1 rfl) ?_
          refine lv_bipush (v := 9) F.1 F.2.1 dX11_why_69 (by decide) ?_
          obtain ⟨r_8, hc, h⟩ := op_b h
          refine k_callS (rv := (some (.int r_8))) (Wc := ([] : va_W)) (W2 := ([] : va_W)) (Wn := (gM T aM z_4)) (As := [.int x1, .int 9]) (rest := [.ref (aM 6)]) F G (mX11_at l D T x1 9 hc) (va_cwS 2 F.2.2.2.2 (kg_c kl786 (kg_c kl787 (kg_c kl788 (kg_c kl767 kg_a)))) rfl rfl rfl (by decide +kernel) ⟨Nat.le_of_ble_eq_true rfl, Nat.le_of_ble_eq_true rfl⟩) (kCut_0 G) rfl hl.1 rfl (Nat.le_of_ble_eq_true rfl) dX11_why_71 ⟨Nat.le_of_ble_eq_true rfl, Nat.le_of_ble_eq_true rfl⟩ (cN := 0) (sN := 0) ⟨rfl, rfl⟩ (fun H locs G => ?_)
          obtain ⟨c, h⟩ := op_g h
          refine k_iald F G 6 rfl c dX11_why_74 ?_
          refine lv_iconst (v := 1) F.1 F.2.1 dX11_why_75 (by decide) ?_
          refine lv_icmp_eq (tgt := 81) F.1 F.2.1 dX11_why_76 (by decide) (fun c => ?_) (fun c => ?_)
          · have h := op_t h c
            refine lv_aload_n F.1 F.2.1 dX11_why_81 rfl (lv_at hl 0 rfl) ?_
            refine lv_aload_n F.1 F.2.1 dX11_why_82 rfl (lv_at hl 0 rfl) ?_
            refine k_get F G 0 rfl (N := 35) (Tt := TX11) rfl kf11 10 (by decide) kl783 (v := .ref (aM 6)) rfl dX11_why_83 ?_
            refine lv_iload_n F.1 F.2.1 dX11_why_86 rfl (lv_at hl 1 rfl) ?_
            obtain ⟨r_9, hc, h⟩ := op_b h
            refine k_callV (rv := (some (.int r_9))) (Wc := (gMR T aM (aM 6) z_4 (z_4 10))) (W2 := (gMR T aM (aM 6) z_4 (z_4 10))) (Wn := (gM T aM z_4)) (As := [.ref (aM 6), .int x1]) (rest := []) F G (mX11_lacks l D T aM (aM 6) z_4 (z_4 10) x1 hc) (cwV 2 F.2.2.2.2 (kg_c kl955 (kg_c kl956 (kg_c kl957 (kg_c kl788 (kg_c kl947 kg_a))))) rfl rfl rfl (by decide +kernel) ⟨Nat.le_of_ble_eq_true rfl, Nat.le_of_ble_eq_true rfl⟩) 0 rfl (q := (RX11, TX11, 35)) rfl rfl (kCut_R G [0, 1, 2, 3, 4, 6] rfl rfl) rfl hl.1 rfl (Nat.le_of_ble_eq_true rfl) dX11_why_87 ⟨Nat.le_of_ble_eq_true rfl, Nat.le_of_ble_eq_true rfl⟩ (cN := 0) (sN := 0) ⟨rfl, rfl⟩ (fun H locs G => ?_)
            refine lv_if_eq (tgt := 95) F.1 F.2.1 dX11_why_90 (by decide) (fun c => ?_) (fun c => ?_)
            · have h := op_t h c
              refine lv_aload_n F.1 F.2.1 dX11_why_95 rfl (lv_at hl 0 rfl) ?_
              refine lv_aload_n F.1 F.2.1 dX11_why_96 rfl (lv_at hl 0 rfl) ?_
              refine k_get F G 0 rfl (N := 35) (Tt := TX11) rfl kf11 10 (by decide) kl783 (v := .ref (aM 6)) rfl dX11_why_97 ?_
              refine lv_iload_n F.1 F.2.1 dX11_why_100 rfl (lv_at hl 1 rfl) ?_
              obtain ⟨r_10, hc, h⟩ := op_b h
              refine k_callV (rv := (some (.int r_10))) (Wc := (gMR T aM (aM 6) z_4 (z_4 10))) (W2 := (gMR T aM (aM 6) z_4 (z_4 10))) (Wn := (gM T aM z_4)) (As := [.ref (aM 6), .int x1]) (rest := []) F G (mX11_expected l D T aM (aM 6) z_4 (z_4 10) x1 hc) (cwV 2 F.2.2.2.2 (kg_c kl914 (kg_c kl915 (kg_c kl916 (kg_c kl788 (kg_c kl909 kg_a))))) rfl rfl rfl (by decide +kernel) ⟨Nat.le_of_ble_eq_true rfl, Nat.le_of_ble_eq_true rfl⟩) 0 rfl (q := (RX11, TX11, 35)) rfl rfl (kCut_R G [0, 1, 2, 3, 4, 6] rfl rfl) rfl hl.1 rfl (Nat.le_of_ble_eq_true rfl) dX11_why_101 ⟨Nat.le_of_ble_eq_true rfl, Nat.le_of_ble_eq_true rfl⟩ (cN := 0) (sN := 0) ⟨rfl, rfl⟩ (fun H locs G => ?_)
              refine lv_aload_n F.1 F.2.1 dX11_why_104 rfl (lv_at hl 0 rfl) ?_
              refine k_get F G 0 rfl (N := 35) (Tt := TX11) rfl kf11 10 (by decide) kl783 (v := .ref (aM 6)) rfl dX11_why_105 ?_
              refine lv_bipush (v := 6) F.1 F.2.1 dX11_why_108 (by decide) ?_
              refine k_ialdN F G 6 rfl (kin (by decide +kernel)) 6 (by decide +kernel) dX11_why_110 ?_
              refine lv_icmp_le (tgt := 117) F.1 F.2.1 dX11_why_111 (by decide) (fun c => ?_) (fun c => ?_)
              · have h := op_t h c
                refine lv_aload_n F.1 F.2.1 dX11_why_117 rfl (lv_at hl 0 rfl) ?_
                refine lv_aload_n F.1 F.2.1 dX11_why_118 rfl (lv_at hl 0 rfl) ?_
                refine k_get F G 0 rfl (N := 35) (Tt := TX11) rfl kf11 10 (by decide) kl783 (v := .ref (aM 6)) rfl dX11_why_119 ?_
                refine lv_iconst (v := 0) F.1 F.2.1 dX11_why_122 (by decide) ?_
                obtain ⟨r_11, rw_12, hc, h⟩ := op_b2 h
                obtain ⟨z_13, e9, h⟩ := op_st h
                refine k_callV (rv := (some (.int r_11))) (Wc := (gMR T aM (aM 6) z_4 (z_4 10))) (W2 := (gMR T aM (aM 6) z_4 rw_12)) (Wn := (gM T aM z_13)) (As := [.ref (aM 6), .int 0]) (rest := []) F G (mX11_grantsOf l D T aM (aM 6) z_4 (z_4 10) 0 hc) (cwV 2 F.2.2.2.2 (kg_c kl978 (kg_c kl979 (kg_c kl980 (kg_c kl788 (kg_c kl948 kg_a))))) rfl rfl rfl (by decide +kernel) ⟨Nat.le_of_ble_eq_true rfl, Nat.le_of_ble_eq_true rfl⟩) 0 rfl (q := (RX11, TX11, 35)) rfl rfl (kCut_G (Wr := [(aM 5, .inl (T 0, 96, .inl (z_4 9))), (aM 7, .inl (T 0, 411, .inl (z_4 11))), (aM 8, .inl (T 0, 3288, .inl (z_4 12))), (aM 9, .inl (T 0, 822, .inl (z_4 13))), (aM 10, .inl (T 3, 2, .inl (z_4 14))), (aM 11, .inl (T 0, 900, .inl (z_4 16))), (aM 12, .inl (T 0, 411, .inl (z_4 17))), (aM 13, .inl (T 0, 48, .inl (z_4 18))), (aM 14, .inl (T 0, 12, .inl (z_4 19))), (aM 15, .inl (T 0, 24, .inl (z_4 20))), (aM 16, .inl (T 0, 8, .inl (z_4 21))), (aM 17, .inl (T 0, 96, .inl (z_4 22)))]) G [0, 1, 2, 3, 4, 6] [5, 7, 8, 9, 10, 11, 12, 13, 14, 15, 16, 17] rfl rfl rfl rfl (by decide) [12, 13, 14, 15, 16, 0, 17, 1, 2, 3, 4, 5, 6, 7, 8, 9, 10, 11] rfl (by subst e9; rfl)) rfl hl.1 rfl (Nat.le_of_ble_eq_true rfl) dX11_why_123 ⟨Nat.le_of_ble_eq_true rfl, Nat.le_of_ble_eq_true rfl⟩ (cN := 0) (sN := 0) ⟨rfl, rfl⟩ (fun H locs G => ?_)
                clear e9
                refine lv_iload_n F.1 F.2.1 dX11_why_126 rfl (lv_at hl 1 rfl) ?_
                refine lv_ishr F.1 F.2.1 dX11_why_127 ?_
                refine lv_iconst (v := 1) F.1 F.2.1 dX11_why_128 (by decide) ?_
                refine lv_iand F.1 F.2.1 dX11_why_129 ?_
                refine lv_iconst (v := 1) F.1 F.2.1 dX11_why_130 (by decide) ?_
                refine lv_icmp_ne (tgt := 138) F.1 F.2.1 dX11_why_131 (by decide) (fun c => ?_) (fun c => ?_)
                · have h := op_f h c
                  refine lv_bipush (v := 7) F.1 F.2.1 dX11_why_138 (by decide) ?_
                  obtain ⟨rfl, rfl⟩ := op_2 h
                  exact k_iret F hr hlk G dX11_why_140
                · have h := op_t h c
                  refine lv_iconst (v := 0) F.1 F.2.1 dX11_why_134 (by decide) ?_
                  refine lv_goto (tgt := 140) F.1 F.2.1 dX11_why_135 (by decide) ?_
                  obtain ⟨rfl, rfl⟩ := op_2 h
                  exact k_iret F hr hlk G dX11_why_140
              · have h := op_f h c
                refine lv_bipush (v := 6) F.1 F.2.1 dX11_why_114 (by decide) ?_
                obtain ⟨rfl, rfl⟩ := op_2 h
                exact k_iret F hr hlk G dX11_why_116
            · have h := op_f h c
              refine lv_iconst (v := 5) F.1 F.2.1 dX11_why_93 (by decide) ?_
              obtain ⟨rfl, rfl⟩ := op_2 h
              exact k_iret F hr hlk G dX11_why_94
          · have h := op_f h c
            refine lv_iconst (v := 4) F.1 F.2.1 dX11_why_79 (by decide) ?_
            obtain ⟨rfl, rfl⟩ := op_2 h
            exact k_iret F hr hlk G dX11_why_80
        · have h := op_f h c
          refine lv_iconst (v := 3) F.1 F.2.1 dX11_why_62 (by decide) ?_
          obtain ⟨rfl, rfl⟩ := op_2 h
          exact k_iret F hr hlk G dX11_why_63
      · have h := op_f h c
        refine lv_iconst (v := 2) F.1 F.2.1 dX11_why_49 (by decide) ?_
        obtain ⟨rfl, rfl⟩ := op_2 h
        exact k_iret F hr hlk G dX11_why_50
    · have h := op_t h c
      refine lv_iconst (v := 1) F.1 F.2.1 dX11_why_33 (by decide) ?_
      obtain ⟨rfl, rfl⟩ := op_2 h
      exact k_iret F hr hlk G dX11_why_34
  · have h := op_t h c
    refine lv_iconst (v := 0) F.1 F.2.1 dX11_why_18 (by decide) ?_
    obtain ⟨rfl, rfl⟩ := op_2 h
    exact k_iret F hr hlk G dX11_why_19
