abbrev rmX11_thrown : Room := ({ frames := 0, cells := 0, slots := 0, locals := 0 } : Room)
noncomputable def qX11_thrown (z : Nat → Nat → Int32) : Option (Int32) :=
  some (z 0 0)

set_option maxHeartbeats 4000000 in
set_option maxRecDepth 100000 in
theorem mX11_thrown (l : Launch) (D : va_G) (T : Nat → ClassId) (aM : Nat → Nat) (z : Nat → Nat → Int32) {rR : Int32} (hres : qX11_thrown z = some (rR)) : Ct l yX11_thrown (Cond.code yX11_thrown cX11_thrown 1 (some .int) :: kAll) rmX11_thrown D T [.ref (aM 0)] (gM T aM z) (some (.int rR)) (gM T aM z) := by
  refine Ct.of (cc := cX11_thrown) (maxL := 1) (ret := (some .int)) (by decide +kernel) rfl (Nat.le_of_ble_eq_true rfl) ?_
  intro pr en st mi ag bl me co A ls F hr hlk hnm G hl
  have hl : lv_has ls 1 [(0, .ref (aM 0))] := hl
  have h := hres
  unfold qX11_thrown at h
  refine lv_aload_n F.1 F.2.1 dX11_thrown_0 rfl (lv_at hl 0 rfl) ?_
  refine k_get F G 0 rfl (N := 35) (Tt := TX11) rfl kf11 0 (by decide) kl804 (v := .int (z 0 0)) rfl dX11_thrown_1 ?_
  obtain rfl := op_1 h
  exact k_iret F hr hlk G dX11_thrown_4
abbrev rmX11_may : Room := ({ frames := 0, cells := 0, slots := 0, locals := 0 } : Room)
noncomputable def qX11_may (z : Nat → Nat → Int32) (x1 : Int32) (x2 : Int32) : Option (Int32 × (Nat → Nat → Int32)) :=
  (jn (fun (z_1 : Nat → Nat → Int32) => if (z_1 0 0) = 0 then some (1, z_1) else some (0, z_1)) fun j16 => if x1 = 0 then if (z 0 0) = 0 then (bs (va_up z 0 (fun _ => x2)) fun z_2 => (j16 z_2)) else (j16 z) else (j16 z))

set_option maxHeartbeats 4000000 in
set_option maxRecDepth 100000 in
theorem mX11_may (l : Launch) (D : va_G) (T : Nat → ClassId) (aM : Nat → Nat) (z : Nat → Nat → Int32) (x1 : Int32) (x2 : Int32) {rR : Int32} {zR : Nat → Nat → Int32} (hres : qX11_may z x1 x2 = some (rR, zR)) : Ct l yX11_may (Cond.code yX11_may cX11_may 3 (some .boolean) :: kAll) rmX11_may D T [.ref (aM 0), .int x1, .int x2] (gM T aM z) (some (.int rR)) (gM T aM zR) := by
  refine Ct.of (cc := cX11_may) (maxL := 3) (ret := (some .boolean)) (by decide +kernel) rfl (Nat.le_of_ble_eq_true rfl) ?_
  intro pr en st mi ag bl me co A ls F hr hlk hnm G hl
  have hl : lv_has ls 3 [(0, .ref (aM 0)), (1, .int x1), (2, .int x2)] := hl
  have h := hres
  unfold qX11_may at h
  refine lv_iload_n F.1 F.2.1 dX11_may_0 rfl (lv_at hl 1 rfl) ?_
  obtain ⟨j16, hj16, h⟩ := op_j h
  have J16 : ∀ (z_1 : Nat → Nat → Int32) (H : Heap) (locs : List Loc) (ls : Array Slot), j16 z_1 = some (rR, zR) → Rg D T A st (gM T aM z_1) H locs → lv_has ls 3 [(0, .ref (aM 0))] → W pr l en rmX11_may st mi ag bl me co H locs 0 0 (MQ bl (kQ (some (.int rR)) D (gM T aM zR) A) ag st rmX11_may.cells rmX11_may.slots A) (F0 mi 16 ls []) := by
    intro z_1 H locs ls h G hl
    rw [hj16] at h
    refine lv_aload_n F.1 F.2.1 dX11_may_16 rfl (lv_at hl 0 rfl) ?_
    refine k_get F G 0 rfl (N := 35) (Tt := TX11) rfl kf11 0 (by decide) kl804 (v := .int (z_1 0 0)) rfl dX11_may_17 ?_
    refine lv_if_ne (tgt := 27) F.1 F.2.1 dX11_may_20 (by decide) (fun c => ?_) (fun c => ?_)
    · have h := op_f h c
      refine lv_iconst (v := 0) F.1 F.2.1 dX11_may_27 (by decide) ?_
      obtain ⟨rfl, rfl⟩ := op_2 h
      exact k_zret F hr rfl hlk G dX11_may_28
    · have h := op_t h c
      refine lv_iconst (v := 1) F.1 F.2.1 dX11_may_23 (by decide) ?_
      refine lv_goto (tgt := 28) F.1 F.2.1 dX11_may_24 (by decide) ?_
      obtain ⟨rfl, rfl⟩ := op_2 h
      exact k_zret F hr rfl hlk G dX11_may_28
  clear hj16
  refine lv_if_ne (tgt := 16) F.1 F.2.1 dX11_may_1 (by decide) (fun c => ?_) (fun c => ?_)
  · have h := op_f h c
    exact J16 z _ _ _ h G (lv_sub hl [0] rfl)
  · have h := op_t h c
    refine lv_aload_n F.1 F.2.1 dX11_may_4 rfl (lv_at hl 0 rfl) ?_
    refine k_get F G 0 rfl (N := 35) (Tt := TX11) rfl kf11 0 (by decide) kl804 (v := .int (z 0 0)) rfl dX11_may_5 ?_
    refine lv_if_ne (tgt := 16) F.1 F.2.1 dX11_may_8 (by decide) (fun c => ?_) (fun c => ?_)
    · have h := op_f h c
      exact J16 z _ _ _ h G (lv_sub hl [0] rfl)
    · have h := op_t h c
      refine lv_aload_n F.1 F.2.1 dX11_may_11 rfl (lv_at hl 0 rfl) ?_
      refine lv_iload_n F.1 F.2.1 dX11_may_12 rfl (lv_at hl 2 rfl) ?_
      obtain ⟨z_2, e9, h⟩ := op_st h
      refine k_put F G 0 rfl (N := 35) (Tt := TX11) rfl kf11 tyX11_ok nmX11 0 (by decide) kl804 rfl (v := .int x2) rfl rfl (Nat.le_of_ble_eq_true rfl) dX11_may_13 (Wn := (gM T aM z_2)) (by subst e9; rfl) (fun H locs G => ?_)
      clear e9
      exact J16 z_2 _ _ _ h G (lv_sub hl [0] rfl)
abbrev rmX11_append : Room := ({ frames := 1, cells := 0, slots := 0, locals := 22 } : Room)
noncomputable def qX11_append_L36 (x1_5 : Int32) (x2_6 : Int32) (x3_7 : Int32) (x4_8 : Int32) (x5_9 : Int32) (K : (Nat → Nat → Int32) → Option (Int32 × (Nat → Nat → Int32))) : Nat → Int32 → (Nat → Nat → Int32) → Option (Int32 × (Nat → Nat → Int32))
  | 0, _, _ => none
  | n + 1, x6_10, z_11 =>
    if 20 ≤ x6_10 then (K z_11) else (jn (fun (y_13 : Int32) => gd (vp_in ((z_11 23 0) + x6_10) 900) (bs (va_up z_11 16 (upd (z_11 16) ((z_11 23 0) + x6_10).toNatClampNeg ((y_13 >>> ((24 - (8 * (x6_10 - x6_10 / 4 * 4))) &&& 31)) &&& 255))) fun z_14 => (qX11_append_L36 x1_5 x2_6 x3_7 x4_8 x5_9 K n (x6_10 + 1) z_14))) fun j89 => if 4 ≤ x6_10 then if 8 ≤ x6_10 then if 12 ≤ x6_10 then if 16 ≤ x6_10 then (j89 x5_9) else (j89 x4_8) else (j89 x3_7) else (j89 x2_6) else (j89 x1_5))

noncomputable def qX11_append (z : Nat → Nat → Int32) (x1 : Int32) (x2 : Int32) (x3 : Int32) (x4 : Int32) (x5 : Int32) : Option (Int32 × (Nat → Nat → Int32)) :=
  (bs (va_up z 0 (fun _ => 0)) fun z_1 => (jn (fun (y_2 : Int32) => bd2 (qX11_may z_1 y_2 1) fun r_3 z_4 => if r_3 = 0 then some (0, z_4) else (qX11_append_L36  x1 x2 x3 x4 x5 (fun (z_12 : Nat → Nat → Int32) => (bs (va_up z_12 23 (fun _ => ((z_12 23 0) + 20))) fun z_15 => some ((z_15 23 0), z_15))) fu 0 z_4)) fun j24 => if 900 < ((z_1 23 0) + 20) then (j24 0) else (j24 1)))

set_option maxHeartbeats 4000000 in
set_option maxRecDepth 100000 in
theorem mX11_append (l : Launch) (D : va_G) (T : Nat → ClassId) (aM : Nat → Nat) (z : Nat → Nat → Int32) (x1 : Int32) (x2 : Int32) (x3 : Int32) (x4 : Int32) (x5 : Int32) {rR : Int32} {zR : Nat → Nat → Int32} (hres : qX11_append z x1 x2 x3 x4 x5 = some (rR, zR)) : Ct l yX11_append (Cond.code yX11_append cX11_append 8 (some .int) :: kAll) rmX11_append D T [.ref (aM 0), .int x1, .int x2, .int x3, .int x4, .int x5] (gM T aM z) (some (.int rR)) (gM T aM zR) := by
  refine Ct.of (cc := cX11_append) (maxL := 8) (ret := (some .int)) (by decide +kernel) rfl (Nat.le_of_ble_eq_true rfl) ?_
  intro pr en st mi ag bl me co A ls F hr hlk hnm G hl
  have hl : lv_has ls 8 [(0, .ref (aM 0)), (1, .int x1), (2, .int x2), (3, .int x3), (4, .int x4), (5, .int x5)] := hl
  have h := hres
  unfold qX11_append at h
  refine lv_aload_n F.1 F.2.1 dX11_append_0 rfl (lv_at hl 0 rfl) ?_
  refine lv_iconst (v := 0) F.1 F.2.1 dX11_append_1 (by decide) ?_
  obtain ⟨z_1, e9, h⟩ := op_st h
  refine k_put F G 0 rfl (N := 35) (Tt := TX11) rfl kf11 tyX11_ok nmX11 0 (by decide) kl804 rfl (v := .int 0) rfl rfl (Nat.le_of_ble_eq_true rfl) dX11_append_2 (Wn := (gM T aM z_1)) (by subst e9; rfl) (fun H locs G => ?_)
  clear e9
  refine lv_aload_n F.1 F.2.1 dX11_append_5 rfl (lv_at hl 0 rfl) ?_
  refine lv_aload_n F.1 F.2.1 dX11_append_6 rfl (lv_at hl 0 rfl) ?_
  refine k_get F G 0 rfl (N := 35) (Tt := TX11) rfl kf11 23 (by decide) kl808 (v := .int (z_1 23 0)) rfl dX11_append_7 ?_
  refine lv_bipush (v := 20) F.1 F.2.1 dX11_append_10 (by decide) ?_
  refine lv_iadd F.1 F.2.1 dX11_append_12 ?_
  refine lv_sipush (v := 900) F.1 F.2.1 dX11_append_13 (by decide) ?_
  obtain ⟨j24, hj24, h⟩ := op_j h
  have J24 : ∀ (y_2 : Int32) (H : Heap) (locs : List Loc) (ls : Array Slot), j24 y_2 = some (rR, zR) → Rg D T A st (gM T aM z_1) H locs → lv_has ls 8 [(0, .ref (aM 0)), (1, .int x1), (2, .int x2), (3, .int x3), (4, .int x4), (5, .int x5)] → W pr l en rmX11_append st mi ag bl me co H locs 0 0 (MQ bl (kQ (some (.int rR)) D (gM T aM zR) A) ag st rmX11_append.cells rmX11_append.slots A) (F0 mi 24 ls [.int y_2, .ref (aM 0)]) := by
    intro y_2 H locs ls h G hl
    rw [hj24] at h
    refine lv_iconst (v := 1) F.1 F.2.1 dX11_append_24 (by decide) ?_
    obtain ⟨r_3, z_4, hc, h⟩ := op_b2 h
    refine k_callV (rv := (some (.int r_3))) (Wc := (gM T aM z_1)) (W2 := (gM T aM z_4)) (Wn := (gM T aM z_4)) (As := [.int y_2, .int 1]) (rest := []) F G (mX11_may l D T aM z_1 y_2 1 hc) (cwV 2 F.2.2.2.2 (kg_c kl809 (kg_c kl810 (kg_c kl811 (kg_c kl788 (kg_c kl806 kg_a))))) rfl rfl rfl (by decide +kernel) ⟨Nat.le_of_ble_eq_true rfl, Nat.le_of_ble_eq_true rfl⟩) 0 rfl (q := (RX11, TX11, 35)) rfl rfl (kCut_F G) rfl hl.1 rfl (Nat.le_of_ble_eq_true rfl) dX11_append_25 ⟨Nat.le_of_ble_eq_true rfl, Nat.le_of_ble_eq_true rfl⟩ (cN := 0) (sN := 0) ⟨rfl, rfl⟩ (fun H locs G => ?_)
    refine lv_if_ne (tgt := 33) F.1 F.2.1 dX11_append_28 (by decide) (fun c => ?_) (fun c => ?_)
    · have h := op_f h c
      refine lv_iconst (v := 0) F.1 F.2.1 dX11_append_33 (by decide) ?_
      refine lv_istore (lv' := [(6, .int 0), (0, .ref (aM 0)), (1, .int x1), (2, .int x2), (3, .int x3), (4, .int x4), (5, .int x5)]) F.1 F.2.1 dX11_append_34 hl (by decide) rfl (fun ls hl => ?_)
      have L36 : ∀ (x1_5 : Int32) (x2_6 : Int32) (x3_7 : Int32) (x4_8 : Int32) (x5_9 : Int32) (K : (Nat → Nat → Int32) → Option (Int32 × (Nat → Nat → Int32))) (hK : ∀ (z_12 : Nat → Nat → Int32) (H : Heap) (locs : List Loc) (ls : Array Slot), K z_12 = some (rR, zR) → Rg D T A st (gM T aM z_12) H locs → lv_has ls 8 [(0, .ref (aM 0))] → W pr l en rmX11_append st mi ag bl me co H locs 0 0 (MQ bl (kQ (some (.int rR)) D (gM T aM zR) A) ag st rmX11_append.cells rmX11_append.slots A) (F0 mi 126 ls [])) (n : Nat) (x6_10 : Int32) (z_11 : Nat → Nat → Int32) (H : Heap) (locs : List Loc) (ls : Array Slot), qX11_append_L36 x1_5 x2_6 x3_7 x4_8 x5_9 K n x6_10 z_11 = some (rR, zR) → Rg D T A st (gM T aM z_11) H locs → lv_has ls 8 [(0, .ref (aM 0)), (1, .int x1_5), (2, .int x2_6), (3, .int x3_7), (4, .int x4_8), (5, .int x5_9), (6, .int x6_10)] → W pr l en rmX11_append st mi ag bl me co H locs 0 0 (MQ bl (kQ (some (.int rR)) D (gM T aM zR) A) ag st rmX11_append.cells rmX11_append.slots A) (F0 mi 36 ls []) := by
        intro x1_5 x2_6 x3_7 x4_8 x5_9 K hK n
        induction n with
        | zero => intro x6_10 z_11 H locs ls h; exact op_n h
        | succ n ih =>
          intro x6_10 z_11 H locs ls h G hl
          rw [qX11_append_L36] at h
          refine lv_iload F.1 F.2.1 dX11_append_36 (lv_at hl 6 rfl) ?_
          refine lv_bipush (v := 20) F.1 F.2.1 dX11_append_38 (by decide) ?_
          refine lv_icmp_ge (tgt := 126) F.1 F.2.1 dX11_append_40 (by decide) (fun c => ?_) (fun c => ?_)
          · have h := op_t h c
            exact hK z_11 _ _ _ h G (lv_sub hl [0] rfl)
          · have h := op_f h c
            refine lv_iload F.1 F.2.1 dX11_append_43 (lv_at hl 6 rfl) ?_
            refine lv_iconst (v := 4) F.1 F.2.1 dX11_append_45 (by decide) ?_
            obtain ⟨j89, hj89, h⟩ := op_j h
            have J89 : ∀ (y_13 : Int32) (H : Heap) (locs : List Loc) (ls : Array Slot), j89 y_13 = some (rR, zR) → Rg D T A st (gM T aM z_11) H locs → lv_has ls 8 [(0, .ref (aM 0)), (1, .int x1_5), (2, .int x2_6), (3, .int x3_7), (4, .int x4_8), (5, .int x5_9), (6, .int x6_10)] → W pr l en rmX11_append st mi ag bl me co H locs 0 0 (MQ bl (kQ (some (.int rR)) D (gM T aM zR) A) ag st rmX11_append.cells rmX11_append.slots A) (F0 mi 89 ls [.int y_13]) := by
              intro y_13 H locs ls h G hl
              rw [hj89] at h
              refine lv_istore (lv' := [(7, .int y_13), (0, .ref (aM 0)), (1, .int x1_5), (2, .int x2_6), (3, .int x3_7), (4, .int x4_8), (5, .int x5_9), (6, .int x6_10)]) F.1 F.2.1 dX11_append_89 hl (by decide) rfl (fun ls hl => ?_)
              refine lv_aload_n F.1 F.2.1 dX11_append_91 rfl (lv_at hl 1 rfl) ?_
              refine k_get F G 0 rfl (N := 35) (Tt := TX11) rfl kf11 16 (by decide) kl795 (v := .ref (aM 11)) rfl dX11_append_92 ?_
              refine lv_aload_n F.1 F.2.1 dX11_append_95 rfl (lv_at hl 1 rfl) ?_
              refine k_get F G 0 rfl (N := 35) (Tt := TX11) rfl kf11 23 (by decide) kl808 (v := .int (z_11 23 0)) rfl dX11_append_96 ?_
              refine lv_iload F.1 F.2.1 dX11_append_99 (lv_at hl 7 rfl) ?_
              refine lv_iadd F.1 F.2.1 dX11_append_101 ?_
              refine lv_iload F.1 F.2.1 dX11_append_102 (lv_at hl 0 rfl) ?_
              refine lv_bipush (v := 24) F.1 F.2.1 dX11_append_104 (by decide) ?_
              refine lv_bipush (v := 8) F.1 F.2.1 dX11_append_106 (by decide) ?_
              refine lv_iload F.1 F.2.1 dX11_append_108 (lv_at hl 7 rfl) ?_
              refine lv_iconst (v := 4) F.1 F.2.1 dX11_append_110 (by decide) ?_
              refine lv_irem F.1 F.2.1 dX11_append_111 (by decide) ?_
              refine lv_imul F.1 F.2.1 dX11_append_112 ?_
              refine lv_isub F.1 F.2.1 dX11_append_113 ?_
              refine lv_ishr F.1 F.2.1 dX11_append_114 ?_
              refine lv_sipush (v := 255) F.1 F.2.1 dX11_append_115 (by decide) ?_
              refine lv_iand F.1 F.2.1 dX11_append_118 ?_
              obtain ⟨c, h⟩ := op_g h
              obtain ⟨z_14, e9, h⟩ := op_st h
              refine k_iast F G 11 rfl c dX11_append_119 (Wn := (gM T aM z_14)) (by subst e9; rfl) (fun H locs G => ?_)
              clear e9
              refine lv_iinc (v := (x6_10 + 1)) (lv' := [(6, .int (x6_10 + 1)), (7, .int y_13), (0, .ref (aM 0)), (1, .int x1_5), (2, .int x2_6), (3, .int x3_7), (4, .int x4_8), (5, .int x5_9)]) F.1 F.2.1 dX11_append_120 hl (k := 7) rfl rfl (by decide) rfl (fun ls hl => ?_)
              refine lv_goto (tgt := 36) F.1 F.2.1 dX11_append_123 (by decide) ?_
              exact ih (x6_10 + 1) z_14 _ _ _ h G (lv_sub hl [2, 3, 4, 5, 6, 7, 0] rfl)
            clear hj89
            refine lv_icmp_ge (tgt := 53) F.1 F.2.1 dX11_append_46 (by decide) (fun c => ?_) (fun c => ?_)
            · have h := op_t h c
              refine lv_iload F.1 F.2.1 dX11_append_53 (lv_at hl 6 rfl) ?_
              refine lv_bipush (v := 8) F.1 F.2.1 dX11_append_55 (by decide) ?_
              refine lv_icmp_ge (tgt := 64) F.1 F.2.1 dX11_append_57 (by decide) (fun c => ?_) (fun c => ?_)
              · have h := op_t h c
                refine lv_iload F.1 F.2.1 dX11_append_64 (lv_at hl 6 rfl) ?_
                refine lv_bipush (v := 12) F.1 F.2.1 dX11_append_66 (by decide) ?_
                refine lv_icmp_ge (tgt := 75) F.1 F.2.1 dX11_append_68 (by decide) (fun c => ?_) (fun c => ?_)
                · have h := op_t h c
                  refine lv_iload F.1 F.2.1 dX11_append_75 (lv_at hl 6 rfl) ?_
                  refine lv_bipush (v := 16) F.1 F.2.1 dX11_append_77 (by decide) ?_
                  refine lv_icmp_ge (tgt := 87) F.1 F.2.1 dX11_append_79 (by decide) (fun c => ?_) (fun c => ?_)
                  · have h := op_t h c
                    refine lv_iload F.1 F.2.1 dX11_append_87 (lv_at hl 5 rfl) ?_
                    exact J89 x5_9 _ _ _ h G hl
                  · have h := op_f h c
                    refine lv_iload F.1 F.2.1 dX11_append_82 (lv_at hl 4 rfl) ?_
                    refine lv_goto (tgt := 89) F.1 F.2.1 dX11_append_84 (by decide) ?_
                    exact J89 x4_8 _ _ _ h G hl
                · have h := op_f h c
                  refine lv_iload_n F.1 F.2.1 dX11_append_71 rfl (lv_at hl 3 rfl) ?_
                  refine lv_goto (tgt := 89) F.1 F.2.1 dX11_append_72 (by decide) ?_
                  exact J89 x3_7 _ _ _ h G hl
              · have h := op_f h c
                refine lv_iload_n F.1 F.2.1 dX11_append_60 rfl (lv_at hl 2 rfl) ?_
                refine lv_goto (tgt := 89) F.1 F.2.1 dX11_append_61 (by decide) ?_
                exact J89 x2_6 _ _ _ h G hl
            · have h := op_f h c
              refine lv_iload_n F.1 F.2.1 dX11_append_49 rfl (lv_at hl 1 rfl) ?_
              refine lv_goto (tgt := 89) F.1 F.2.1 dX11_append_50 (by decide) ?_
              exact J89 x1_5 _ _ _ h G hl
      refine L36  x1 x2 x3 x4 x5 _ (fun z_12 H locs ls h G hl => ?_) fu 0 z_4 _ _ _ h G (lv_sub hl [1, 2, 3, 4, 5, 6, 0] rfl)
      clear L36
      refine lv_aload_n F.1 F.2.1 dX11_append_126 rfl (lv_at hl 0 rfl) ?_
      refine lv_dup F.1 F.2.1 dX11_append_127 rfl ?_
      refine k_get F G 0 rfl (N := 35) (Tt := TX11) rfl kf11 23 (by decide) kl808 (v := .int (z_12 23 0)) rfl dX11_append_128 ?_
      refine lv_bipush (v := 20) F.1 F.2.1 dX11_append_131 (by decide) ?_
      refine lv_iadd F.1 F.2.1 dX11_append_133 ?_
      obtain ⟨z_15, e9, h⟩ := op_st h
      refine k_put F G 0 rfl (N := 35) (Tt := TX11) rfl kf11 tyX11_ok nmX11 23 (by decide) kl808 rfl (v := .int ((z_12 23 0) + 20)) rfl rfl (Nat.le_of_ble_eq_true rfl) dX11_append_134 (Wn := (gM T aM z_15)) (by subst e9; rfl) (fun H locs G => ?_)
      clear e9
      refine lv_aload_n F.1 F.2.1 dX11_append_137 rfl (lv_at hl 0 rfl) ?_
      refine k_get F G 0 rfl (N := 35) (Tt := TX11) rfl kf11 23 (by decide) kl808 (v := .int (z_15 23 0)) rfl dX11_append_138 ?_
      obtain ⟨rfl, rfl⟩ := op_2 h
      exact k_iret F hr hlk G dX11_append_141
    · have h := op_t h c
      refine lv_iconst (v := 0) F.1 F.2.1 dX11_append_31 (by decide) ?_
      obtain ⟨rfl, rfl⟩ := op_2 h
      exact k_iret F hr hlk G dX11_append_32
  clear hj24
  refine lv_icmp_gt (tgt := 23) F.1 F.2.1 dX11_append_16 (by decide) (fun c => ?_) (fun c => ?_)
  · have h := op_t h c
    refine lv_iconst (v := 0) F.1 F.2.1 dX11_append_23 (by decide) ?_
    exact J24 0 _ _ _ h G hl
  · have h := op_f h c
    refine lv_iconst (v := 1) F.1 F.2.1 dX11_append_19 (by decide) ?_
    refine lv_goto (tgt := 24) F.1 F.2.1 dX11_append_20 (by decide) ?_
    exact J24 1 _ _ _ h G hl
abbrev rmX11_truncate : Room := ({ frames := 1, cells := 0, slots := 0, locals := 25 } : Room)
noncomputable def qX11_truncate (z : Nat → Nat → Int32) (x1 : Int32) : Option (Int32 × (Nat → Nat → Int32)) :=
  (bs (va_up z 0 (fun _ => 0)) fun z_1 => bd (qX11_isIn x1.toInt64 0 ((z_1 23 0).toInt64)) fun r_2 => bd2 (qX11_may z_1 r_2 1) fun r_3 z_4 => if r_3 = 0 then some (0, z_4) else (bs (va_up z_4 23 (fun _ => x1)) fun z_5 => some (x1, z_5)))

set_option maxHeartbeats 4000000 in
set_option maxRecDepth 100000 in
theorem mX11_truncate (l : Launch) (D : va_G) (T : Nat → ClassId) (aM : Nat → Nat) (z : Nat → Nat → Int32) (x1 : Int32) {rR : Int32} {zR : Nat → Nat → Int32} (hres : qX11_truncate z x1 = some (rR, zR)) : Ct l yX11_truncate (Cond.code yX11_truncate cX11_truncate 2 (some .int) :: kAll) rmX11_truncate D T [.ref (aM 0), .int x1] (gM T aM z) (some (.int rR)) (gM T aM zR) := by
  refine Ct.of (cc := cX11_truncate) (maxL := 2) (ret := (some .int)) (by decide +kernel) rfl (Nat.le_of_ble_eq_true rfl) ?_
  intro pr en st mi ag bl me co A ls F hr hlk hnm G hl
  have hl : lv_has ls 2 [(0, .ref (aM 0)), (1, .int x1)] := hl
  have h := hres
  unfold qX11_truncate at h
  refine lv_aload_n F.1 F.2.1 dX11_truncate_0 rfl (lv_at hl 0 rfl) ?_
  refine lv_iconst (v := 0) F.1 F.2.1 dX11_truncate_1 (by decide) ?_
  obtain ⟨z_1, e9, h⟩ := op_st h
  refine k_put F G 0 rfl (N := 35) (Tt := TX11) rfl kf11 tyX11_ok nmX11 0 (by decide) kl804 rfl (v := .int 0) rfl rfl (Nat.le_of_ble_eq_true rfl) dX11_truncate_2 (Wn := (gM T aM z_1)) (by subst e9; rfl) (fun H locs G => ?_)
  clear e9
  refine lv_aload_n F.1 F.2.1 dX11_truncate_5 rfl (lv_at hl 0 rfl) ?_
  refine lv_iload_n F.1 F.2.1 dX11_truncate_6 rfl (lv_at hl 1 rfl) ?_
  refine lv_i2l (v := x1.toInt64) F.1 F.2.1 dX11_truncate_7 rfl ?_
  refine lv_lconst (v := 0) F.1 F.2.1 dX11_truncate_8 (by decide) ?_
  refine lv_aload_n F.1 F.2.1 dX11_truncate_9 rfl (lv_at hl 0 rfl) ?_
  refine k_get F G 0 rfl (N := 35) (Tt := TX11) rfl kf11 23 (by decide) kl808 (v := .int (z_1 23 0)) rfl dX11_truncate_10 ?_
  refine lv_i2l (v := (z_1 23 0).toInt64) F.1 F.2.1 dX11_truncate_13 rfl ?_
  obtain ⟨r_2, hc, h⟩ := op_b h
  refine k_callS (rv := (some (.int r_2))) (Wc := ([] : va_W)) (W2 := ([] : va_W)) (Wn := (gM T aM z_1)) (As := [.long x1.toInt64, .long 0, .long ((z_1 23 0).toInt64)]) (rest := [.ref (aM 0)]) F G (mX11_isIn l D T x1.toInt64 0 ((z_1 23 0).toInt64) hc) (va_cwS 3 F.2.2.2.2 (kg_c kl813 (kg_c kl814 (kg_c kl788 (kg_c kl805 kg_a)))) rfl rfl rfl (by decide +kernel) ⟨Nat.le_of_ble_eq_true rfl, Nat.le_of_ble_eq_true rfl⟩) (kCut_0 G) rfl hl.1 rfl (Nat.le_of_ble_eq_true rfl) dX11_truncate_14 ⟨Nat.le_of_ble_eq_true rfl, Nat.le_of_ble_eq_true rfl⟩ (cN := 0) (sN := 0) ⟨rfl, rfl⟩ (fun H locs G => ?_)
  refine lv_iconst (v := 1) F.1 F.2.1 dX11_truncate_17 (by decide) ?_
  obtain ⟨r_3, z_4, hc, h⟩ := op_b2 h
  refine k_callV (rv := (some (.int r_3))) (Wc := (gM T aM z_1)) (W2 := (gM T aM z_4)) (Wn := (gM T aM z_4)) (As := [.int r_2, .int 1]) (rest := []) F G (mX11_may l D T aM z_1 r_2 1 hc) (cwV 2 F.2.2.2.2 (kg_c kl809 (kg_c kl810 (kg_c kl811 (kg_c kl788 (kg_c kl806 kg_a))))) rfl rfl rfl (by decide +kernel) ⟨Nat.le_of_ble_eq_true rfl, Nat.le_of_ble_eq_true rfl⟩) 0 rfl (q := (RX11, TX11, 35)) rfl rfl (kCut_F G) rfl hl.1 rfl (Nat.le_of_ble_eq_true rfl) dX11_truncate_18 ⟨Nat.le_of_ble_eq_true rfl, Nat.le_of_ble_eq_true rfl⟩ (cN := 0) (sN := 0) ⟨rfl, rfl⟩ (fun H locs G => ?_)
  refine lv_if_ne (tgt := 26) F.1 F.2.1 dX11_truncate_21 (by decide) (fun c => ?_) (fun c => ?_)
  · have h := op_f h c
    refine lv_aload_n F.1 F.2.1 dX11_truncate_26 rfl (lv_at hl 0 rfl) ?_
    refine lv_iload_n F.1 F.2.1 dX11_truncate_27 rfl (lv_at hl 1 rfl) ?_
    obtain ⟨z_5, e9, h⟩ := op_st h
    refine k_put F G 0 rfl (N := 35) (Tt := TX11) rfl kf11 tyX11_ok nmX11 23 (by decide) kl808 rfl (v := .int x1) rfl rfl (Nat.le_of_ble_eq_true rfl) dX11_truncate_28 (Wn := (gM T aM z_5)) (by subst e9; rfl) (fun H locs G => ?_)
    clear e9
    refine lv_iload_n F.1 F.2.1 dX11_truncate_31 rfl (lv_at hl 1 rfl) ?_
    obtain ⟨rfl, rfl⟩ := op_2 h
    exact k_iret F hr hlk G dX11_truncate_32
  · have h := op_t h c
    refine lv_iconst (v := 0) F.1 F.2.1 dX11_truncate_24 (by decide) ?_
    obtain ⟨rfl, rfl⟩ := op_2 h
    exact k_iret F hr hlk G dX11_truncate_25
abbrev rmX11_byteAt : Room := ({ frames := 0, cells := 0, slots := 0, locals := 0 } : Room)
noncomputable def qX11_byteAt (z : Nat → Nat → Int32) (x1 : Int32) : Option (Int32) :=
  if (z 24 0) ≤ x1 then some (-1) else gd (vp_in x1 900) (some ((z 16) x1.toNatClampNeg))

set_option maxHeartbeats 4000000 in
set_option maxRecDepth 100000 in
theorem mX11_byteAt (l : Launch) (D : va_G) (T : Nat → ClassId) (aM : Nat → Nat) (z : Nat → Nat → Int32) (x1 : Int32) {rR : Int32} (hres : qX11_byteAt z x1 = some (rR)) : Ct l yX11_byteAt (Cond.code yX11_byteAt cX11_byteAt 2 (some .int) :: kAll) rmX11_byteAt D T [.ref (aM 0), .int x1] (gM T aM z) (some (.int rR)) (gM T aM z) := by
  refine Ct.of (cc := cX11_byteAt) (maxL := 2) (ret := (some .int)) (by decide +kernel) rfl (Nat.le_of_ble_eq_true rfl) ?_
  intro pr en st mi ag bl me co A ls F hr hlk hnm G hl
  have hl : lv_has ls 2 [(0, .ref (aM 0)), (1, .int x1)] := hl
  have h := hres
  unfold qX11_byteAt at h
  refine lv_iload_n F.1 F.2.1 dX11_byteAt_0 rfl (lv_at hl 1 rfl) ?_
  refine lv_aload_n F.1 F.2.1 dX11_byteAt_1 rfl (lv_at hl 0 rfl) ?_
  refine k_get F G 0 rfl (N := 35) (Tt := TX11) rfl kf11 24 (by decide) kl816 (v := .int (z 24 0)) rfl dX11_byteAt_2 ?_
  refine lv_icmp_ge (tgt := 17) F.1 F.2.1 dX11_byteAt_5 (by decide) (fun c => ?_) (fun c => ?_)
  · have h := op_t h c
    refine lv_iconst (v := (-1)) F.1 F.2.1 dX11_byteAt_17 (by decide) ?_
    obtain rfl := op_1 h
    exact k_iret F hr hlk G dX11_byteAt_18
  · have h := op_f h c
    refine lv_aload_n F.1 F.2.1 dX11_byteAt_8 rfl (lv_at hl 0 rfl) ?_
    refine k_get F G 0 rfl (N := 35) (Tt := TX11) rfl kf11 16 (by decide) kl795 (v := .ref (aM 11)) rfl dX11_byteAt_9 ?_
    refine lv_iload_n F.1 F.2.1 dX11_byteAt_12 rfl (lv_at hl 1 rfl) ?_
    obtain ⟨c, h⟩ := op_g h
    refine k_iald F G 11 rfl c dX11_byteAt_13 ?_
    refine lv_goto (tgt := 18) F.1 F.2.1 dX11_byteAt_14 (by decide) ?_
    obtain rfl := op_1 h
    exact k_iret F hr hlk G dX11_byteAt_18
abbrev rmX11_token : Room := ({ frames := 1, cells := 0, slots := 0, locals := 21 } : Room)
noncomputable def qX11_token_L0 (K : (Nat → Nat → Int32) → Option ((Nat → Nat → Int32))) : Nat → (Nat → Nat → Int32) → Option ((Nat → Nat → Int32))
  | 0, _ => none
  | n + 1, z_1 =>
    bd (qX11_byteAt z_1 (z_1 25 0)) fun r_3 => (jn (fun (_ : Unit) => (bs (va_up z_1 25 (fun _ => ((z_1 25 0) + 1))) fun z_4 => (qX11_token_L0 K n z_4))) fun j26 => if r_3 = 10 then (j26 ()) else bd (qX11_byteAt z_1 (z_1 25 0)) fun r_5 => if r_5 = 32 then (j26 ()) else (K z_1))

noncomputable def qX11_token_L118 (K : (Nat → Nat → Int32) → Option ((Nat → Nat → Int32))) : Nat → (Nat → Nat → Int32) → Option ((Nat → Nat → Int32))
  | 0, _ => none
  | n + 1, z_13 =>
    bd (qX11_byteAt z_13 (z_13 25 0)) fun r_15 => bd (qX11_isDigit r_15) fun r_16 => if r_16 = 0 then (K z_13) else (bs (va_up z_13 25 (fun _ => ((z_13 25 0) + 1))) fun z_17 => (qX11_token_L118 K n z_17))

noncomputable def qX11_token_L76 (K : (Nat → Nat → Int32) → Option ((Nat → Nat → Int32))) : Nat → (Nat → Nat → Int32) → Option ((Nat → Nat → Int32))
  | 0, _ => none
  | n + 1, z_19 =>
    bd (qX11_byteAt z_19 (z_19 25 0)) fun r_21 => bd (qX11_isLetter r_21) fun r_22 => if r_22 = 0 then (K z_19) else (bs (va_up z_19 25 (fun _ => ((z_19 25 0) + 1))) fun z_23 => (qX11_token_L76 K n z_23))

noncomputable def qX11_token (z : Nat → Nat → Int32) : Option ((Nat → Nat → Int32)) :=
  (qX11_token_L0   (fun (z_2 : Nat → Nat → Int32) => (bs (va_up z_2 26 (fun _ => (z_2 25 0))) fun z_6 => bd (qX11_byteAt z_6 (z_6 25 0)) fun r_7 => if r_7 = (-1) then (bs (va_up z_6 27 (fun _ => 0)) fun z_25 => some z_25) else bd (qX11_isLetter r_7) fun r_8 => if r_8 = 0 then bd (qX11_isDigit r_7) fun r_9 => if r_9 = 0 then (bs (va_up z_6 25 (fun _ => ((z_6 25 0) + 1))) fun z_10 => (jn (fun (y_11 : Int32) => (bs (va_up z_10 27 (fun _ => y_11)) fun z_12 => some z_12)) fun j175 => if r_7 = 59 then (j175 3) else (j175 4))) else (qX11_token_L118   (fun (z_14 : Nat → Nat → Int32) => (bs (va_up z_14 27 (fun _ => 2)) fun z_18 => some z_18)) fu  z_6) else (qX11_token_L76   (fun (z_20 : Nat → Nat → Int32) => (bs (va_up z_20 27 (fun _ => 1)) fun z_24 => some z_24)) fu  z_6))) fu  z)

set_option maxHeartbeats 4000000 in
set_option maxRecDepth 100000 in
theorem mX11_token (l : Launch) (D : va_G) (T : Nat → ClassId) (aM : Nat → Nat) (z : Nat → Nat → Int32) {zR : Nat → Nat → Int32} (hres : qX11_token z = some (zR)) : Ct l yX11_token (Cond.code yX11_token cX11_token 2 none :: kAll) rmX11_token D T [.ref (aM 0)] (gM T aM z) none (gM T aM zR) := by
  refine Ct.of (cc := cX11_token) (maxL := 2) (ret := none) (by decide +kernel) rfl (Nat.le_of_ble_eq_true rfl) ?_
  intro pr en st mi ag bl me co A ls F hr hlk hnm G hl
  have hl : lv_has ls 2 [(0, .ref (aM 0))] := hl
  have h := hres
  unfold qX11_token at h
  have L0 : ∀ (K : (Nat → Nat → Int32) → Option ((Nat → Nat → Int32))) (hK : ∀ (z_2 : Nat → Nat → Int32) (H : Heap) (locs : List Loc) (ls : Array Slot), K z_2 = some (zR) → Rg D T A st (gM T aM z_2) H locs → lv_has ls 2 [(0, .ref (aM 0))] → W pr l en rmX11_token st mi ag bl me co H locs 0 0 (MQ bl (kQ none D (gM T aM zR) A) ag st rmX11_token.cells rmX11_token.slots A) (F0 mi 39 ls [])) (n : Nat) (z_1 : Nat → Nat → Int32) (H : Heap) (locs : List Loc) (ls : Array Slot), qX11_token_L0 K n z_1 = some (zR) → Rg D T A st (gM T aM z_1) H locs → lv_has ls 2 [(0, .ref (aM 0))] → W pr l en rmX11_token st mi ag bl me co H locs 0 0 (MQ bl (kQ none D (gM T aM zR) A) ag st rmX11_token.cells rmX11_token.slots A) (F0 mi 0 ls []) := by
    intro K hK n
    induction n with
    | zero => intro z_1 H locs ls h; exact op_n h
    | succ n ih =>
      intro z_1 H locs ls h G hl
      rw [qX11_token_L0] at h
      refine lv_aload_n F.1 F.2.1 dX11_token_0 rfl (lv_at hl 0 rfl) ?_
      refine lv_aload_n F.1 F.2.1 dX11_token_1 rfl (lv_at hl 0 rfl) ?_
      refine k_get F G 0 rfl (N := 35) (Tt := TX11) rfl kf11 25 (by decide) kl820 (v := .int (z_1 25 0)) rfl dX11_token_2 ?_
      obtain ⟨r_3, hc, h⟩ := op_b h
      refine k_callV (rv := (some (.int r_3))) (Wc := (gM T aM z_1)) (W2 := (gM T aM z_1)) (Wn := (gM T aM z_1)) (As := [.int (z_1 25 0)]) (rest := []) F G (mX11_byteAt l D T aM z_1 (z_1 25 0) hc) (cwV 1 F.2.2.2.2 (kg_c kl823 (kg_c kl824 (kg_c kl825 (kg_c kl788 (kg_c kl815 kg_a))))) rfl rfl rfl (by decide +kernel) ⟨Nat.le_of_ble_eq_true rfl, Nat.le_of_ble_eq_true rfl⟩) 0 rfl (q := (RX11, TX11, 35)) rfl rfl (kCut_F G) rfl hl.1 rfl (Nat.le_of_ble_eq_true rfl) dX11_token_5 ⟨Nat.le_of_ble_eq_true rfl, Nat.le_of_ble_eq_true rfl⟩ (cN := 0) (sN := 0) ⟨rfl, rfl⟩ (fun H locs G => ?_)
      refine lv_bipush (v := 10) F.1 F.2.1 dX11_token_8 (by decide) ?_
      obtain ⟨j26, hj26, h⟩ := op_j h
      have J26 : ∀ (H : Heap) (locs : List Loc) (ls : Array Slot), j26 () = some (zR) → Rg D T A st (gM T aM z_1) H locs → lv_has ls 2 [(0, .ref (aM 0))] → W pr l en rmX11_token st mi ag bl me co H locs 0 0 (MQ bl (kQ none D (gM T aM zR) A) ag st rmX11_token.cells rmX11_token.slots A) (F0 mi 26 ls []) := by
        intro H locs ls h G hl
        rw [hj26] at h
        refine lv_aload_n F.1 F.2.1 dX11_token_26 rfl (lv_at hl 0 rfl) ?_
        refine lv_dup F.1 F.2.1 dX11_token_27 rfl ?_
        refine k_get F G 0 rfl (N := 35) (Tt := TX11) rfl kf11 25 (by decide) kl820 (v := .int (z_1 25 0)) rfl dX11_token_28 ?_
        refine lv_iconst (v := 1) F.1 F.2.1 dX11_token_31 (by decide) ?_
        refine lv_iadd F.1 F.2.1 dX11_token_32 ?_
        obtain ⟨z_4, e9, h⟩ := op_st h
        refine k_put F G 0 rfl (N := 35) (Tt := TX11) rfl kf11 tyX11_ok nmX11 25 (by decide) kl820 rfl (v := .int ((z_1 25 0) + 1)) rfl rfl (Nat.le_of_ble_eq_true rfl) dX11_token_33 (Wn := (gM T aM z_4)) (by subst e9; rfl) (fun H locs G => ?_)
        clear e9
        refine lv_goto (tgt := 0) F.1 F.2.1 dX11_token_36 (by decide) ?_
        exact ih z_4 _ _ _ h G hl
      clear hj26
      refine lv_icmp_eq (tgt := 26) F.1 F.2.1 dX11_token_10 (by decide) (fun c => ?_) (fun c => ?_)
      · have h := op_t h c
        exact J26 _ _ _ h G hl
      · have h := op_f h c
        refine lv_aload_n F.1 F.2.1 dX11_token_13 rfl (lv_at hl 0 rfl) ?_
        refine lv_aload_n F.1 F.2.1 dX11_token_14 rfl (lv_at hl 0 rfl) ?_
        refine k_get F G 0 rfl (N := 35) (Tt := TX11) rfl kf11 25 (by decide) kl820 (v := .int (z_1 25 0)) rfl dX11_token_15 ?_
        obtain ⟨r_5, hc, h⟩ := op_b h
        refine k_callV (rv := (some (.int r_5))) (Wc := (gM T aM z_1)) (W2 := (gM T aM z_1)) (Wn := (gM T aM z_1)) (As := [.int (z_1 25 0)]) (rest := []) F G (mX11_byteAt l D T aM z_1 (z_1 25 0) hc) (cwV 1 F.2.2.2.2 (kg_c kl823 (kg_c kl824 (kg_c kl825 (kg_c kl788 (kg_c kl815 kg_a))))) rfl rfl rfl (by decide +kernel) ⟨Nat.le_of_ble_eq_true rfl, Nat.le_of_ble_eq_true rfl⟩) 0 rfl (q := (RX11, TX11, 35)) rfl rfl (kCut_F G) rfl hl.1 rfl (Nat.le_of_ble_eq_true rfl) dX11_token_18 ⟨Nat.le_of_ble_eq_true rfl, Nat.le_of_ble_eq_true rfl⟩ (cN := 0) (sN := 0) ⟨rfl, rfl⟩ (fun H locs G => ?_)
        refine lv_bipush (v := 32) F.1 F.2.1 dX11_token_21 (by decide) ?_
        refine lv_icmp_ne (tgt := 39) F.1 F.2.1 dX11_token_23 (by decide) (fun c => ?_) (fun c => ?_)
        · have h := op_f h c
          exact hK z_1 _ _ _ h G hl
        · have h := op_t h c
          exact J26 _ _ _ h G hl
  refine L0   _ (fun z_2 H locs ls h G hl => ?_) fu  z _ _ _ h G hl
  clear L0
  refine lv_aload_n F.1 F.2.1 dX11_token_39 rfl (lv_at hl 0 rfl) ?_
  refine lv_aload_n F.1 F.2.1 dX11_token_40 rfl (lv_at hl 0 rfl) ?_
  refine k_get F G 0 rfl (N := 35) (Tt := TX11) rfl kf11 25 (by decide) kl820 (v := .int (z_2 25 0)) rfl dX11_token_41 ?_
  obtain ⟨z_6, e9, h⟩ := op_st h
  refine k_put F G 0 rfl (N := 35) (Tt := TX11) rfl kf11 tyX11_ok nmX11 26 (by decide) kl821 rfl (v := .int (z_2 25 0)) rfl rfl (Nat.le_of_ble_eq_true rfl) dX11_token_44 (Wn := (gM T aM z_6)) (by subst e9; rfl) (fun H locs G => ?_)
  clear e9
  refine lv_aload_n F.1 F.2.1 dX11_token_47 rfl (lv_at hl 0 rfl) ?_
  refine lv_aload_n F.1 F.2.1 dX11_token_48 rfl (lv_at hl 0 rfl) ?_
  refine k_get F G 0 rfl (N := 35) (Tt := TX11) rfl kf11 25 (by decide) kl820 (v := .int (z_6 25 0)) rfl dX11_token_49 ?_
  obtain ⟨r_7, hc, h⟩ := op_b h
  refine k_callV (rv := (some (.int r_7))) (Wc := (gM T aM z_6)) (W2 := (gM T aM z_6)) (Wn := (gM T aM z_6)) (As := [.int (z_6 25 0)]) (rest := []) F G (mX11_byteAt l D T aM z_6 (z_6 25 0) hc) (cwV 1 F.2.2.2.2 (kg_c kl823 (kg_c kl824 (kg_c kl825 (kg_c kl788 (kg_c kl815 kg_a))))) rfl rfl rfl (by decide +kernel) ⟨Nat.le_of_ble_eq_true rfl, Nat.le_of_ble_eq_true rfl⟩) 0 rfl (q := (RX11, TX11, 35)) rfl rfl (kCut_F G) rfl hl.1 rfl (Nat.le_of_ble_eq_true rfl) dX11_token_52 ⟨Nat.le_of_ble_eq_true rfl, Nat.le_of_ble_eq_true rfl⟩ (cN := 0) (sN := 0) ⟨rfl, rfl⟩ (fun H locs G => ?_)
  refine lv_istore_n (lv' := [(1, .int r_7), (0, .ref (aM 0))]) F.1 F.2.1 dX11_token_55 rfl hl (by decide) rfl (fun ls hl => ?_)
  refine lv_iload_n F.1 F.2.1 dX11_token_56 rfl (lv_at hl 0 rfl) ?_
  refine lv_iconst (v := (-1)) F.1 F.2.1 dX11_token_57 (by decide) ?_
  refine lv_icmp_ne (tgt := 69) F.1 F.2.1 dX11_token_58 (by decide) (fun c => ?_) (fun c => ?_)
  · have h := op_f h c
    refine lv_iload_n F.1 F.2.1 dX11_token_69 rfl (lv_at hl 0 rfl) ?_
    obtain ⟨r_8, hc, h⟩ := op_b h
    refine k_callS (rv := (some (.int r_8))) (Wc := ([] : va_W)) (W2 := ([] : va_W)) (Wn := (gM T aM z_6)) (As := [.int r_7]) (rest := []) F G (mX11_isLetter l D T r_7 hc) (va_cwS 1 F.2.2.2.2 (kg_c kl826 (kg_c kl827 (kg_c kl788 (kg_c kl817 kg_a)))) rfl rfl rfl (by decide +kernel) ⟨Nat.le_of_ble_eq_true rfl, Nat.le_of_ble_eq_true rfl⟩) (kCut_0 G) rfl hl.1 rfl (Nat.le_of_ble_eq_true rfl) dX11_token_70 ⟨Nat.le_of_ble_eq_true rfl, Nat.le_of_ble_eq_true rfl⟩ (cN := 0) (sN := 0) ⟨rfl, rfl⟩ (fun H locs G => ?_)
    refine lv_if_eq (tgt := 111) F.1 F.2.1 dX11_token_73 (by decide) (fun c => ?_) (fun c => ?_)
    · have h := op_t h c
      refine lv_iload_n F.1 F.2.1 dX11_token_111 rfl (lv_at hl 0 rfl) ?_
      obtain ⟨r_9, hc, h⟩ := op_b h
      refine k_callS (rv := (some (.int r_9))) (Wc := ([] : va_W)) (W2 := ([] : va_W)) (Wn := (gM T aM z_6)) (As := [.int r_7]) (rest := []) F G (mX11_isDigit l D T r_7 hc) (va_cwS 1 F.2.2.2.2 (kg_c kl828 (kg_c kl829 (kg_c kl788 (kg_c kl818 kg_a)))) rfl rfl rfl (by decide +kernel) ⟨Nat.le_of_ble_eq_true rfl, Nat.le_of_ble_eq_true rfl⟩) (kCut_0 G) rfl hl.1 rfl (Nat.le_of_ble_eq_true rfl) dX11_token_112 ⟨Nat.le_of_ble_eq_true rfl, Nat.le_of_ble_eq_true rfl⟩ (cN := 0) (sN := 0) ⟨rfl, rfl⟩ (fun H locs G => ?_)
      refine lv_if_eq (tgt := 153) F.1 F.2.1 dX11_token_115 (by decide) (fun c => ?_) (fun c => ?_)
      · have h := op_t h c
        refine lv_aload_n F.1 F.2.1 dX11_token_153 rfl (lv_at hl 1 rfl) ?_
        refine lv_dup F.1 F.2.1 dX11_token_154 rfl ?_
        refine k_get F G 0 rfl (N := 35) (Tt := TX11) rfl kf11 25 (by decide) kl820 (v := .int (z_6 25 0)) rfl dX11_token_155 ?_
        refine lv_iconst (v := 1) F.1 F.2.1 dX11_token_158 (by decide) ?_
        refine lv_iadd F.1 F.2.1 dX11_token_159 ?_
        obtain ⟨z_10, e9, h⟩ := op_st h
        refine k_put F G 0 rfl (N := 35) (Tt := TX11) rfl kf11 tyX11_ok nmX11 25 (by decide) kl820 rfl (v := .int ((z_6 25 0) + 1)) rfl rfl (Nat.le_of_ble_eq_true rfl) dX11_token_160 (Wn := (gM T aM z_10)) (by subst e9; rfl) (fun H locs G => ?_)
        clear e9
        refine lv_aload_n F.1 F.2.1 dX11_token_163 rfl (lv_at hl 1 rfl) ?_
        refine lv_iload_n F.1 F.2.1 dX11_token_164 rfl (lv_at hl 0 rfl) ?_
        refine lv_bipush (v := 59) F.1 F.2.1 dX11_token_165 (by decide) ?_
        obtain ⟨j175, hj175, h⟩ := op_j h
        have J175 : ∀ (y_11 : Int32) (H : Heap) (locs : List Loc) (ls : Array Slot), j175 y_11 = some (zR) → Rg D T A st (gM T aM z_10) H locs → lv_has ls 2 [] → W pr l en rmX11_token st mi ag bl me co H locs 0 0 (MQ bl (kQ none D (gM T aM zR) A) ag st rmX11_token.cells rmX11_token.slots A) (F0 mi 175 ls [.int y_11, .ref (aM 0)]) := by
          intro y_11 H locs ls h G hl
          rw [hj175] at h
          obtain ⟨z_12, e9, h⟩ := op_st h
          refine k_put F G 0 rfl (N := 35) (Tt := TX11) rfl kf11 tyX11_ok nmX11 27 (by decide) kl822 rfl (v := .int y_11) rfl rfl (Nat.le_of_ble_eq_true rfl) dX11_token_175 (Wn := (gM T aM z_12)) (by subst e9; rfl) (fun H locs G => ?_)
          clear e9
          obtain rfl := op_1 h
          exact k_vret F hr hlk G dX11_token_178
        clear hj175
        refine lv_icmp_ne (tgt := 174) F.1 F.2.1 dX11_token_167 (by decide) (fun c => ?_) (fun c => ?_)
        · have h := op_f h c
          refine lv_iconst (v := 4) F.1 F.2.1 dX11_token_174 (by decide) ?_
          exact J175 4 _ _ _ h G (lv_sub hl [] rfl)
        · have h := op_t h c
          refine lv_iconst (v := 3) F.1 F.2.1 dX11_token_170 (by decide) ?_
          refine lv_goto (tgt := 175) F.1 F.2.1 dX11_token_171 (by decide) ?_
          exact J175 3 _ _ _ h G (lv_sub hl [] rfl)
      · have h := op_f h c
        have L118 : ∀ (K : (Nat → Nat → Int32) → Option ((Nat → Nat → Int32))) (hK : ∀ (z_14 : Nat → Nat → Int32) (H : Heap) (locs : List Loc) (ls : Array Slot), K z_14 = some (zR) → Rg D T A st (gM T aM z_14) H locs → lv_has ls 2 [(0, .ref (aM 0))] → W pr l en rmX11_token st mi ag bl me co H locs 0 0 (MQ bl (kQ none D (gM T aM zR) A) ag st rmX11_token.cells rmX11_token.slots A) (F0 mi 145 ls [])) (n : Nat) (z_13 : Nat → Nat → Int32) (H : Heap) (locs : List Loc) (ls : Array Slot), qX11_token_L118 K n z_13 = some (zR) → Rg D T A st (gM T aM z_13) H locs → lv_has ls 2 [(0, .ref (aM 0))] → W pr l en rmX11_token st mi ag bl me co H locs 0 0 (MQ bl (kQ none D (gM T aM zR) A) ag st rmX11_token.cells rmX11_token.slots A) (F0 mi 118 ls []) := by
          intro K hK n
          induction n with
          | zero => intro z_13 H locs ls h; exact op_n h
          | succ n ih =>
            intro z_13 H locs ls h G hl
            rw [qX11_token_L118] at h
            refine lv_aload_n F.1 F.2.1 dX11_token_118 rfl (lv_at hl 0 rfl) ?_
            refine lv_aload_n F.1 F.2.1 dX11_token_119 rfl (lv_at hl 0 rfl) ?_
            refine k_get F G 0 rfl (N := 35) (Tt := TX11) rfl kf11 25 (by decide) kl820 (v := .int (z_13 25 0)) rfl dX11_token_120 ?_
            obtain ⟨r_15, hc, h⟩ := op_b h
            refine k_callV (rv := (some (.int r_15))) (Wc := (gM T aM z_13)) (W2 := (gM T aM z_13)) (Wn := (gM T aM z_13)) (As := [.int (z_13 25 0)]) (rest := []) F G (mX11_byteAt l D T aM z_13 (z_13 25 0) hc) (cwV 1 F.2.2.2.2 (kg_c kl823 (kg_c kl824 (kg_c kl825 (kg_c kl788 (kg_c kl815 kg_a))))) rfl rfl rfl (by decide +kernel) ⟨Nat.le_of_ble_eq_true rfl, Nat.le_of_ble_eq_true rfl⟩) 0 rfl (q := (RX11, TX11, 35)) rfl rfl (kCut_F G) rfl hl.1 rfl (Nat.le_of_ble_eq_true rfl) dX11_token_123 ⟨Nat.le_of_ble_eq_true rfl, Nat.le_of_ble_eq_true rfl⟩ (cN := 0) (sN := 0) ⟨rfl, rfl⟩ (fun H locs G => ?_)
            obtain ⟨r_16, hc, h⟩ := op_b h
            refine k_callS (rv := (some (.int r_16))) (Wc := ([] : va_W)) (W2 := ([] : va_W)) (Wn := (gM T aM z_13)) (As := [.int r_15]) (rest := []) F G (mX11_isDigit l D T r_15 hc) (va_cwS 1 F.2.2.2.2 (kg_c kl828 (kg_c kl829 (kg_c kl788 (kg_c kl818 kg_a)))) rfl rfl rfl (by decide +kernel) ⟨Nat.le_of_ble_eq_true rfl, Nat.le_of_ble_eq_true rfl⟩) (kCut_0 G) rfl hl.1 rfl (Nat.le_of_ble_eq_true rfl) dX11_token_126 ⟨Nat.le_of_ble_eq_true rfl, Nat.le_of_ble_eq_true rfl⟩ (cN := 0) (sN := 0) ⟨rfl, rfl⟩ (fun H locs G => ?_)
            refine lv_if_eq (tgt := 145) F.1 F.2.1 dX11_token_129 (by decide) (fun c => ?_) (fun c => ?_)
            · have h := op_t h c
              exact hK z_13 _ _ _ h G hl
            · have h := op_f h c
              refine lv_aload_n F.1 F.2.1 dX11_token_132 rfl (lv_at hl 0 rfl) ?_
              refine lv_dup F.1 F.2.1 dX11_token_133 rfl ?_
              refine k_get F G 0 rfl (N := 35) (Tt := TX11) rfl kf11 25 (by decide) kl820 (v := .int (z_13 25 0)) rfl dX11_token_134 ?_
              refine lv_iconst (v := 1) F.1 F.2.1 dX11_token_137 (by decide) ?_
              refine lv_iadd F.1 F.2.1 dX11_token_138 ?_
              obtain ⟨z_17, e9, h⟩ := op_st h
              refine k_put F G 0 rfl (N := 35) (Tt := TX11) rfl kf11 tyX11_ok nmX11 25 (by decide) kl820 rfl (v := .int ((z_13 25 0) + 1)) rfl rfl (Nat.le_of_ble_eq_true rfl) dX11_token_139 (Wn := (gM T aM z_17)) (by subst e9; rfl) (fun H locs G => ?_)
              clear e9
              refine lv_goto (tgt := 118) F.1 F.2.1 dX11_token_142 (by decide) ?_
              exact ih z_17 _ _ _ h G hl
        refine L118   _ (fun z_14 H locs ls h G hl => ?_) fu  z_6 _ _ _ h G (lv_sub hl [1] rfl)
        clear L118
        refine lv_aload_n F.1 F.2.1 dX11_token_145 rfl (lv_at hl 0 rfl) ?_
        refine lv_iconst (v := 2) F.1 F.2.1 dX11_token_146 (by decide) ?_
        obtain ⟨z_18, e9, h⟩ := op_st h
        refine k_put F G 0 rfl (N := 35) (Tt := TX11) rfl kf11 tyX11_ok nmX11 27 (by decide) kl822 rfl (v := .int 2) rfl rfl (Nat.le_of_ble_eq_true rfl) dX11_token_147 (Wn := (gM T aM z_18)) (by subst e9; rfl) (fun H locs G => ?_)
        clear e9
        refine lv_goto (tgt := 178) F.1 F.2.1 dX11_token_150 (by decide) ?_
        obtain rfl := op_1 h
        exact k_vret F hr hlk G dX11_token_178
    · have h := op_f h c
      have L76 : ∀ (K : (Nat → Nat → Int32) → Option ((Nat → Nat → Int32))) (hK : ∀ (z_20 : Nat → Nat → Int32) (H : Heap) (locs : List Loc) (ls : Array Slot), K z_20 = some (zR) → Rg D T A st (gM T aM z_20) H locs → lv_has ls 2 [(0, .ref (aM 0))] → W pr l en rmX11_token st mi ag bl me co H locs 0 0 (MQ bl (kQ none D (gM T aM zR) A) ag st rmX11_token.cells rmX11_token.slots A) (F0 mi 103 ls [])) (n : Nat) (z_19 : Nat → Nat → Int32) (H : Heap) (locs : List Loc) (ls : Array Slot), qX11_token_L76 K n z_19 = some (zR) → Rg D T A st (gM T aM z_19) H locs → lv_has ls 2 [(0, .ref (aM 0))] → W pr l en rmX11_token st mi ag bl me co H locs 0 0 (MQ bl (kQ none D (gM T aM zR) A) ag st rmX11_token.cells rmX11_token.slots A) (F0 mi 76 ls []) := by
        intro K hK n
        induction n with
        | zero => intro z_19 H locs ls h; exact op_n h
        | succ n ih =>
          intro z_19 H locs ls h G hl
          rw [qX11_token_L76] at h
          refine lv_aload_n F.1 F.2.1 dX11_token_76 rfl (lv_at hl 0 rfl) ?_
          refine lv_aload_n F.1 F.2.1 dX11_token_77 rfl (lv_at hl 0 rfl) ?_
          refine k_get F G 0 rfl (N := 35) (Tt := TX11) rfl kf11 25 (by decide) kl820 (v := .int (z_19 25 0)) rfl dX11_token_78 ?_
          obtain ⟨r_21, hc, h⟩ := op_b h
          refine k_callV (rv := (some (.int r_21))) (Wc := (gM T aM z_19)) (W2 := (gM T aM z_19)) (Wn := (gM T aM z_19)) (As := [.int (z_19 25 0)]) (rest := []) F G (mX11_byteAt l D T aM z_19 (z_19 25 0) hc) (cwV 1 F.2.2.2.2 (kg_c kl823 (kg_c kl824 (kg_c kl825 (kg_c kl788 (kg_c kl815 kg_a))))) rfl rfl rfl (by decide +kernel) ⟨Nat.le_of_ble_eq_true rfl, Nat.le_of_ble_eq_true rfl⟩) 0 rfl (q := (RX11, TX11, 35)) rfl rfl (kCut_F G) rfl hl.1 rfl (Nat.le_of_ble_eq_true rfl) dX11_token_81 ⟨Nat.le_of_ble_eq_true rfl, Nat.le_of_ble_eq_true rfl⟩ (cN := 0) (sN := 0) ⟨rfl, rfl⟩ (fun H locs G => ?_)
          obtain ⟨r_22, hc, h⟩ := op_b h
          refine k_callS (rv := (some (.int r_22))) (Wc := ([] : va_W)) (W2 := ([] : va_W)) (Wn := (gM T aM z_19)) (As := [.int r_21]) (rest := []) F G (mX11_isLetter l D T r_21 hc) (va_cwS 1 F.2.2.2.2 (kg_c kl826 (kg_c kl827 (kg_c kl788 (kg_c kl817 kg_a)))) rfl rfl rfl (by decide +kernel) ⟨Nat.le_of_ble_eq_true rfl, Nat.le_of_ble_eq_true rfl⟩) (kCut_0 G) rfl hl.1 rfl (Nat.le_of_ble_eq_true rfl) dX11_token_84 ⟨Nat.le_of_ble_eq_true rfl, Nat.le_of_ble_eq_true rfl⟩ (cN := 0) (sN := 0) ⟨rfl, rfl⟩ (fun H locs G => ?_)
          refine lv_if_eq (tgt := 103) F.1 F.2.1 dX11_token_87 (by decide) (fun c => ?_) (fun c => ?_)
          · have h := op_t h c
            exact hK z_19 _ _ _ h G hl
          · have h := op_f h c
            refine lv_aload_n F.1 F.2.1 dX11_token_90 rfl (lv_at hl 0 rfl) ?_
            refine lv_dup F.1 F.2.1 dX11_token_91 rfl ?_
            refine k_get F G 0 rfl (N := 35) (Tt := TX11) rfl kf11 25 (by decide) kl820 (v := .int (z_19 25 0)) rfl dX11_token_92 ?_
            refine lv_iconst (v := 1) F.1 F.2.1 dX11_token_95 (by decide) ?_
            refine lv_iadd F.1 F.2.1 dX11_token_96 ?_
            obtain ⟨z_23, e9, h⟩ := op_st h
            refine k_put F G 0 rfl (N := 35) (Tt := TX11) rfl kf11 tyX11_ok nmX11 25 (by decide) kl820 rfl (v := .int ((z_19 25 0) + 1)) rfl rfl (Nat.le_of_ble_eq_true rfl) dX11_token_97 (Wn := (gM T aM z_23)) (by subst e9; rfl) (fun H locs G => ?_)
            clear e9
            refine lv_goto (tgt := 76) F.1 F.2.1 dX11_token_100 (by decide) ?_
            exact ih z_23 _ _ _ h G hl
      refine L76   _ (fun z_20 H locs ls h G hl => ?_) fu  z_6 _ _ _ h G (lv_sub hl [1] rfl)
      clear L76
      refine lv_aload_n F.1 F.2.1 dX11_token_103 rfl (lv_at hl 0 rfl) ?_
      refine lv_iconst (v := 1) F.1 F.2.1 dX11_token_104 (by decide) ?_
      obtain ⟨z_24, e9, h⟩ := op_st h
      refine k_put F G 0 rfl (N := 35) (Tt := TX11) rfl kf11 tyX11_ok nmX11 27 (by decide) kl822 rfl (v := .int 1) rfl rfl (Nat.le_of_ble_eq_true rfl) dX11_token_105 (Wn := (gM T aM z_24)) (by subst e9; rfl) (fun H locs G => ?_)
      clear e9
      refine lv_goto (tgt := 178) F.1 F.2.1 dX11_token_108 (by decide) ?_
      obtain rfl := op_1 h
      exact k_vret F hr hlk G dX11_token_178
  · have h := op_t h c
    refine lv_aload_n F.1 F.2.1 dX11_token_61 rfl (lv_at hl 1 rfl) ?_
    refine lv_iconst (v := 0) F.1 F.2.1 dX11_token_62 (by decide) ?_
    obtain ⟨z_25, e9, h⟩ := op_st h
    refine k_put F G 0 rfl (N := 35) (Tt := TX11) rfl kf11 tyX11_ok nmX11 27 (by decide) kl822 rfl (v := .int 0) rfl rfl (Nat.le_of_ble_eq_true rfl) dX11_token_63 (Wn := (gM T aM z_25)) (by subst e9; rfl) (fun H locs G => ?_)
    clear e9
    refine lv_goto (tgt := 178) F.1 F.2.1 dX11_token_66 (by decide) ?_
    obtain rfl := op_1 h
    exact k_vret F hr hlk G dX11_token_178
abbrev rmX11_isWrong : Room := ({ frames := 0, cells := 0, slots := 0, locals := 0 } : Room)
noncomputable def qX11_isWrong (z : Nat → Nat → Int32) : Option (Int32) :=
  if (z 28 0) = 0 then some 0 else some 1

set_option maxHeartbeats 4000000 in
set_option maxRecDepth 100000 in
theorem mX11_isWrong (l : Launch) (D : va_G) (T : Nat → ClassId) (aM : Nat → Nat) (z : Nat → Nat → Int32) {rR : Int32} (hres : qX11_isWrong z = some (rR)) : Ct l yX11_isWrong (Cond.code yX11_isWrong cX11_isWrong 1 (some .boolean) :: kAll) rmX11_isWrong D T [.ref (aM 0)] (gM T aM z) (some (.int rR)) (gM T aM z) := by
  refine Ct.of (cc := cX11_isWrong) (maxL := 1) (ret := (some .boolean)) (by decide +kernel) rfl (Nat.le_of_ble_eq_true rfl) ?_
  intro pr en st mi ag bl me co A ls F hr hlk hnm G hl
  have hl : lv_has ls 1 [(0, .ref (aM 0))] := hl
  have h := hres
  unfold qX11_isWrong at h
  refine lv_aload_n F.1 F.2.1 dX11_isWrong_0 rfl (lv_at hl 0 rfl) ?_
  refine k_get F G 0 rfl (N := 35) (Tt := TX11) rfl kf11 28 (by decide) kl831 (v := .int (z 28 0)) rfl dX11_isWrong_1 ?_
  refine lv_if_eq (tgt := 11) F.1 F.2.1 dX11_isWrong_4 (by decide) (fun c => ?_) (fun c => ?_)
  · have h := op_t h c
    refine lv_iconst (v := 0) F.1 F.2.1 dX11_isWrong_11 (by decide) ?_
    obtain rfl := op_1 h
    exact k_zret F hr rfl hlk G dX11_isWrong_12
  · have h := op_f h c
    refine lv_iconst (v := 1) F.1 F.2.1 dX11_isWrong_7 (by decide) ?_
    refine lv_goto (tgt := 12) F.1 F.2.1 dX11_isWrong_8 (by decide) ?_
    obtain rfl := op_1 h
    exact k_zret F hr rfl hlk G dX11_isWrong_12
abbrev rmX11_fails : Room := ({ frames := 1, cells := 0, slots := 0, locals := 20 } : Room)
noncomputable def qX11_fails (z : Nat → Nat → Int32) (x1 : Int32) : Option ((Nat → Nat → Int32)) :=
  bd (qX11_isWrong z) fun r_1 => if r_1 = 0 then (bs (va_up z 28 (fun _ => x1)) fun z_2 => (bs (va_up z_2 29 (fun _ => (z_2 26 0))) fun z_3 => some z_3)) else some z

set_option maxHeartbeats 4000000 in
set_option maxRecDepth 100000 in
theorem mX11_fails (l : Launch) (D : va_G) (T : Nat → ClassId) (aM : Nat → Nat) (z : Nat → Nat → Int32) (x1 : Int32) {zR : Nat → Nat → Int32} (hres : qX11_fails z x1 = some (zR)) : Ct l yX11_fails (Cond.code yX11_fails cX11_fails 2 none :: kAll) rmX11_fails D T [.ref (aM 0), .int x1] (gM T aM z) none (gM T aM zR) := by
  refine Ct.of (cc := cX11_fails) (maxL := 2) (ret := none) (by decide +kernel) rfl (Nat.le_of_ble_eq_true rfl) ?_
  intro pr en st mi ag bl me co A ls F hr hlk hnm G hl
  have hl : lv_has ls 2 [(0, .ref (aM 0)), (1, .int x1)] := hl
  have h := hres
  unfold qX11_fails at h
  refine lv_aload_n F.1 F.2.1 dX11_fails_0 rfl (lv_at hl 0 rfl) ?_
  obtain ⟨r_1, hc, h⟩ := op_b h
  refine k_callV (rv := (some (.int r_1))) (Wc := (gM T aM z)) (W2 := (gM T aM z)) (Wn := (gM T aM z)) (As := []) (rest := []) F G (mX11_isWrong l D T aM z hc) (cwV 0 F.2.2.2.2 (kg_c kl833 (kg_c kl834 (kg_c kl835 (kg_c kl788 (kg_c kl830 kg_a))))) rfl rfl rfl (by decide +kernel) ⟨Nat.le_of_ble_eq_true rfl, Nat.le_of_ble_eq_true rfl⟩) 0 rfl (q := (RX11, TX11, 35)) rfl rfl (kCut_F G) rfl hl.1 rfl (Nat.le_of_ble_eq_true rfl) dX11_fails_1 ⟨Nat.le_of_ble_eq_true rfl, Nat.le_of_ble_eq_true rfl⟩ (cN := 0) (sN := 0) ⟨rfl, rfl⟩ (fun H locs G => ?_)
  refine lv_if_eq (tgt := 8) F.1 F.2.1 dX11_fails_4 (by decide) (fun c => ?_) (fun c => ?_)
  · have h := op_t h c
    refine lv_aload_n F.1 F.2.1 dX11_fails_8 rfl (lv_at hl 0 rfl) ?_
    refine lv_iload_n F.1 F.2.1 dX11_fails_9 rfl (lv_at hl 1 rfl) ?_
    obtain ⟨z_2, e9, h⟩ := op_st h
    refine k_put F G 0 rfl (N := 35) (Tt := TX11) rfl kf11 tyX11_ok nmX11 28 (by decide) kl831 rfl (v := .int x1) rfl rfl (Nat.le_of_ble_eq_true rfl) dX11_fails_10 (Wn := (gM T aM z_2)) (by subst e9; rfl) (fun H locs G => ?_)
    clear e9
    refine lv_aload_n F.1 F.2.1 dX11_fails_13 rfl (lv_at hl 0 rfl) ?_
    refine lv_aload_n F.1 F.2.1 dX11_fails_14 rfl (lv_at hl 0 rfl) ?_
    refine k_get F G 0 rfl (N := 35) (Tt := TX11) rfl kf11 26 (by decide) kl821 (v := .int (z_2 26 0)) rfl dX11_fails_15 ?_
    obtain ⟨z_3, e9, h⟩ := op_st h
    refine k_put F G 0 rfl (N := 35) (Tt := TX11) rfl kf11 tyX11_ok nmX11 29 (by decide) kl796 rfl (v := .int (z_2 26 0)) rfl rfl (Nat.le_of_ble_eq_true rfl) dX11_fails_18 (Wn := (gM T aM z_3)) (by subst e9; rfl) (fun H locs G => ?_)
    clear e9
    obtain rfl := op_1 h
    exact k_vret F hr hlk G dX11_fails_21
  · have h := op_f h c
    obtain rfl := op_1 h
    exact k_vret F hr hlk G dX11_fails_7
abbrev rmX11_isWord : Room := ({ frames := 5, cells := 0, slots := 0, locals := 111 } : Room)
noncomputable def qX11_isWord_L35 (wi : Nat) (z : Nat → Nat → Int32) (K : Unit → Option (Int32)) : Nat → Int32 → Option (Int32)
  | 0, _ => none
  | n + 1, x2_2 =>
    if (kLenI wi) ≤ x2_2 then (K ()) else bd (qX11_byteAt z ((z 26 0) + x2_2)) fun r_3 => gd (vp_in x2_2 (kLen.getD wi 0)) (if r_3 = (kChr wi x2_2) then (qX11_isWord_L35 wi z K n (x2_2 + 1)) else some 0)

noncomputable def qX11_isWord (z : Nat → Nat → Int32) (wi : Nat) : Option (Int32) :=
  bd (qX11_isWrong z) fun r_1 => if r_1 = 0 then if (z 27 0) = 1 then if ((z 25 0) - (z 26 0)) = (kLenI wi) then (qX11_isWord_L35 wi z  (fun (_u : Unit) => some 1) fu 0 ) else some 0 else some 0 else some 0

set_option maxHeartbeats 4000000 in
set_option maxRecDepth 100000 in
theorem mX11_isWord (l : Launch) (D : va_G) (T : Nat → ClassId) (aM : Nat → Nat) (z : Nat → Nat → Int32) (wi : Nat) {rR : Int32} (hw : wi < 9) (hres : qX11_isWord z wi = some (rR)) : Ct l yX11_isWord (Cond.code yX11_isWord cX11_isWord 3 (some .boolean) :: kAll) rmX11_isWord D T [.ref (aM 0), .ref (T (100 + wi))] (gM T aM z) (some (.int rR)) (gM T aM z) := by
  refine Ct.of (cc := cX11_isWord) (maxL := 3) (ret := (some .boolean)) (by decide +kernel) rfl (Nat.le_of_ble_eq_true rfl) ?_
  intro pr en st mi ag bl me co A ls F hr hlk hnm G hl
  have hl : lv_has ls 3 [(0, .ref (aM 0)), (1, .ref (T (100 + wi)))] := hl
  have h := hres
  unfold qX11_isWord at h
  refine lv_aload_n F.1 F.2.1 dX11_isWord_0 rfl (lv_at hl 0 rfl) ?_
  obtain ⟨r_1, hc, h⟩ := op_b h
  refine k_callV (rv := (some (.int r_1))) (Wc := (gM T aM z)) (W2 := (gM T aM z)) (Wn := (gM T aM z)) (As := []) (rest := []) F G (mX11_isWrong l D T aM z hc) (cwV 0 F.2.2.2.2 (kg_c kl833 (kg_c kl834 (kg_c kl835 (kg_c kl788 (kg_c kl830 kg_a))))) rfl rfl rfl (by decide +kernel) ⟨Nat.le_of_ble_eq_true rfl, Nat.le_of_ble_eq_true rfl⟩) 0 rfl (q := (RX11, TX11, 35)) rfl rfl (kCut_F G) rfl hl.1 rfl (Nat.le_of_ble_eq_true rfl) dX11_isWord_1 ⟨Nat.le_of_ble_eq_true rfl, Nat.le_of_ble_eq_true rfl⟩ (cN := 0) (sN := 0) ⟨rfl, rfl⟩ (fun H locs G => ?_)
  refine lv_if_ne (tgt := 31) F.1 F.2.1 dX11_isWord_4 (by decide) (fun c => ?_) (fun c => ?_)
  · have h := op_f h c
    refine lv_iconst (v := 0) F.1 F.2.1 dX11_isWord_31 (by decide) ?_
    obtain rfl := op_1 h
    exact k_zret F hr rfl hlk G dX11_isWord_32
  · have h := op_t h c
    refine lv_aload_n F.1 F.2.1 dX11_isWord_7 rfl (lv_at hl 0 rfl) ?_
    refine k_get F G 0 rfl (N := 35) (Tt := TX11) rfl kf11 27 (by decide) kl822 (v := .int (z 27 0)) rfl dX11_isWord_8 ?_
    refine lv_iconst (v := 1) F.1 F.2.1 dX11_isWord_11 (by decide) ?_
    refine lv_icmp_ne (tgt := 31) F.1 F.2.1 dX11_isWord_12 (by decide) (fun c => ?_) (fun c => ?_)
    · have h := op_f h c
      refine lv_iconst (v := 0) F.1 F.2.1 dX11_isWord_31 (by decide) ?_
      obtain rfl := op_1 h
      exact k_zret F hr rfl hlk G dX11_isWord_32
    · have h := op_t h c
      refine lv_aload_n F.1 F.2.1 dX11_isWord_15 rfl (lv_at hl 0 rfl) ?_
      refine k_get F G 0 rfl (N := 35) (Tt := TX11) rfl kf11 25 (by decide) kl820 (v := .int (z 25 0)) rfl dX11_isWord_16 ?_
      refine lv_aload_n F.1 F.2.1 dX11_isWord_19 rfl (lv_at hl 0 rfl) ?_
      refine k_get F G 0 rfl (N := 35) (Tt := TX11) rfl kf11 26 (by decide) kl821 (v := .int (z 26 0)) rfl dX11_isWord_20 ?_
      refine lv_isub F.1 F.2.1 dX11_isWord_23 ?_
      refine lv_aload_n F.1 F.2.1 dX11_isWord_24 rfl (lv_at hl 1 rfl) ?_
      refine k_callVR (rv := some (.int (kLenI wi))) (Wc := []) (W2 := []) (Wn := (gM T aM z)) (As := []) (rest := [.int ((z 25 0) - (z 26 0))]) F G (mJ0_length_8abf5 l D T wi hw) (cwV 0 F.2.2.2.2 (kg_c kl837 (kg_c kl304 (kg_c kl305 (kg_c kl266 (kg_c kl261 kg_a))))) rfl rfl rfl (by decide +kernel) ⟨Nat.le_of_ble_eq_true rfl, Nat.le_of_ble_eq_true rfl⟩) (k_strv G hw) (kCut_0 G) rfl hl.1 rfl (Nat.le_of_ble_eq_true rfl) dX11_isWord_25 ⟨Nat.le_of_ble_eq_true rfl, Nat.le_of_ble_eq_true rfl⟩ (cN := 0) (sN := 0) ⟨rfl, rfl⟩ (fun H locs G => ?_)
      refine lv_icmp_eq (tgt := 33) F.1 F.2.1 dX11_isWord_28 (by decide) (fun c => ?_) (fun c => ?_)
      · have h := op_t h c
        refine lv_iconst (v := 0) F.1 F.2.1 dX11_isWord_33 (by decide) ?_
        refine lv_istore_n (lv' := [(2, .int 0), (0, .ref (aM 0)), (1, .ref (T (100 + wi)))]) F.1 F.2.1 dX11_isWord_34 rfl hl (by decide) rfl (fun ls hl => ?_)
        have L35 : ∀ (z : Nat → Nat → Int32) (K : Unit → Option (Int32)) (hK : ∀ (_u : Unit) (H : Heap) (locs : List Loc) (ls : Array Slot), K _u = some (rR) → Rg D T A st (gM T aM z) H locs → lv_has ls 3 [] → W pr l en rmX11_isWord st mi ag bl me co H locs 0 0 (MQ bl (kQ (some (.int rR)) D (gM T aM z) A) ag st rmX11_isWord.cells rmX11_isWord.slots A) (F0 mi 69 ls [])) (n : Nat) (x2_2 : Int32) (H : Heap) (locs : List Loc) (ls : Array Slot), qX11_isWord_L35 wi z K n x2_2 = some (rR) → Rg D T A st (gM T aM z) H locs → lv_has ls 3 [(0, .ref (aM 0)), (1, .ref (T (100 + wi))), (2, .int x2_2)] → W pr l en rmX11_isWord st mi ag bl me co H locs 0 0 (MQ bl (kQ (some (.int rR)) D (gM T aM z) A) ag st rmX11_isWord.cells rmX11_isWord.slots A) (F0 mi 35 ls []) := by
          intro z K hK n
          induction n with
          | zero => intro x2_2 H locs ls h; exact op_n h
          | succ n ih =>
            intro x2_2 H locs ls h G hl
            rw [qX11_isWord_L35] at h
            refine lv_iload_n F.1 F.2.1 dX11_isWord_35 rfl (lv_at hl 2 rfl) ?_
            refine lv_aload_n F.1 F.2.1 dX11_isWord_36 rfl (lv_at hl 1 rfl) ?_
            refine k_callVR (rv := some (.int (kLenI wi))) (Wc := []) (W2 := []) (Wn := (gM T aM z)) (As := []) (rest := [.int x2_2]) F G (mJ0_length_8abf5 l D T wi hw) (cwV 0 F.2.2.2.2 (kg_c kl837 (kg_c kl304 (kg_c kl305 (kg_c kl266 (kg_c kl261 kg_a))))) rfl rfl rfl (by decide +kernel) ⟨Nat.le_of_ble_eq_true rfl, Nat.le_of_ble_eq_true rfl⟩) (k_strv G hw) (kCut_0 G) rfl hl.1 rfl (Nat.le_of_ble_eq_true rfl) dX11_isWord_37 ⟨Nat.le_of_ble_eq_true rfl, Nat.le_of_ble_eq_true rfl⟩ (cN := 0) (sN := 0) ⟨rfl, rfl⟩ (fun H locs G => ?_)
            refine lv_icmp_ge (tgt := 69) F.1 F.2.1 dX11_isWord_40 (by decide) (fun c => ?_) (fun c => ?_)
            · have h := op_t h c
              exact hK () _ _ _ h G (lv_sub hl [] rfl)
            · have h := op_f h c
              refine lv_aload_n F.1 F.2.1 dX11_isWord_43 rfl (lv_at hl 0 rfl) ?_
              refine lv_aload_n F.1 F.2.1 dX11_isWord_44 rfl (lv_at hl 0 rfl) ?_
              refine k_get F G 0 rfl (N := 35) (Tt := TX11) rfl kf11 26 (by decide) kl821 (v := .int (z 26 0)) rfl dX11_isWord_45 ?_
              refine lv_iload_n F.1 F.2.1 dX11_isWord_48 rfl (lv_at hl 2 rfl) ?_
              refine lv_iadd F.1 F.2.1 dX11_isWord_49 ?_
              obtain ⟨r_3, hc, h⟩ := op_b h
              refine k_callV (rv := (some (.int r_3))) (Wc := (gM T aM z)) (W2 := (gM T aM z)) (Wn := (gM T aM z)) (As := [.int ((z 26 0) + x2_2)]) (rest := []) F G (mX11_byteAt l D T aM z ((z 26 0) + x2_2) hc) (cwV 1 F.2.2.2.2 (kg_c kl823 (kg_c kl824 (kg_c kl825 (kg_c kl788 (kg_c kl815 kg_a))))) rfl rfl rfl (by decide +kernel) ⟨Nat.le_of_ble_eq_true rfl, Nat.le_of_ble_eq_true rfl⟩) 0 rfl (q := (RX11, TX11, 35)) rfl rfl (kCut_F G) rfl hl.1 rfl (Nat.le_of_ble_eq_true rfl) dX11_isWord_50 ⟨Nat.le_of_ble_eq_true rfl, Nat.le_of_ble_eq_true rfl⟩ (cN := 0) (sN := 0) ⟨rfl, rfl⟩ (fun H locs G => ?_)
              refine lv_aload_n F.1 F.2.1 dX11_isWord_53 rfl (lv_at hl 1 rfl) ?_
              refine lv_iload_n F.1 F.2.1 dX11_isWord_54 rfl (lv_at hl 2 rfl) ?_
              obtain ⟨c, h⟩ := op_g h
              refine k_callVR (rv := some (.int (kChr wi x2_2))) (Wc := []) (W2 := []) (Wn := (gM T aM z)) (As := [.int x2_2]) (rest := [.int r_3]) F G (mJ0_charAt_5068e l D T wi x2_2 hw c) (cwV 1 F.2.2.2.2 (kg_c kl838 (kg_c kl310 (kg_c kl311 (kg_c kl266 (kg_c kl293 kg_a))))) rfl rfl rfl (by decide +kernel) ⟨Nat.le_of_ble_eq_true rfl, Nat.le_of_ble_eq_true rfl⟩) (k_strv G hw) (kCut_0 G) rfl hl.1 rfl (Nat.le_of_ble_eq_true rfl) dX11_isWord_55 ⟨Nat.le_of_ble_eq_true rfl, Nat.le_of_ble_eq_true rfl⟩ (cN := 0) (sN := 0) ⟨rfl, rfl⟩ (fun H locs G => ?_)
              refine lv_icmp_eq (tgt := 63) F.1 F.2.1 dX11_isWord_58 (by decide) (fun c => ?_) (fun c => ?_)
              · have h := op_t h c
                refine lv_iinc (v := (x2_2 + 1)) (lv' := [(2, .int (x2_2 + 1)), (0, .ref (aM 0)), (1, .ref (T (100 + wi)))]) F.1 F.2.1 dX11_isWord_63 hl (k := 2) rfl rfl (by decide) rfl (fun ls hl => ?_)
                refine lv_goto (tgt := 35) F.1 F.2.1 dX11_isWord_66 (by decide) ?_
                exact ih (x2_2 + 1) _ _ _ h G (lv_sub hl [1, 2, 0] rfl)
              · have h := op_f h c
                refine lv_iconst (v := 0) F.1 F.2.1 dX11_isWord_61 (by decide) ?_
                obtain rfl := op_1 h
                exact k_zret F hr rfl hlk G dX11_isWord_62
        refine L35 z  _ (fun _u H locs ls h G hl => ?_) fu 0  _ _ _ h G (lv_sub hl [1, 2, 0] rfl)
        clear L35
        refine lv_iconst (v := 1) F.1 F.2.1 dX11_isWord_69 (by decide) ?_
        obtain rfl := op_1 h
        exact k_zret F hr rfl hlk G dX11_isWord_70
      · have h := op_f h c
        refine lv_iconst (v := 0) F.1 F.2.1 dX11_isWord_31 (by decide) ?_
        obtain rfl := op_1 h
        exact k_zret F hr rfl hlk G dX11_isWord_32
abbrev rmX11_passes : Room := ({ frames := 2, cells := 0, slots := 0, locals := 42 } : Room)
noncomputable def qX11_passes (z : Nat → Nat → Int32) (x1 : Int32) : Option ((Nat → Nat → Int32)) :=
  (jn (fun (z_1 : Nat → Nat → Int32) => bd (qX11_isWrong z_1) fun r_2 => if r_2 = 0 then bd (qX11_token z_1) fun z_3 => some z_3 else some z_1) fun j9 => if x1 = 0 then bd (qX11_fails z 1) fun z_4 => (j9 z_4) else (j9 z))

set_option maxHeartbeats 4000000 in
set_option maxRecDepth 100000 in
theorem mX11_passes (l : Launch) (D : va_G) (T : Nat → ClassId) (aM : Nat → Nat) (z : Nat → Nat → Int32) (x1 : Int32) {zR : Nat → Nat → Int32} (hres : qX11_passes z x1 = some (zR)) : Ct l yX11_passes (Cond.code yX11_passes cX11_passes 2 none :: kAll) rmX11_passes D T [.ref (aM 0), .int x1] (gM T aM z) none (gM T aM zR) := by
  refine Ct.of (cc := cX11_passes) (maxL := 2) (ret := none) (by decide +kernel) rfl (Nat.le_of_ble_eq_true rfl) ?_
  intro pr en st mi ag bl me co A ls F hr hlk hnm G hl
  have hl : lv_has ls 2 [(0, .ref (aM 0)), (1, .int x1)] := hl
  have h := hres
  unfold qX11_passes at h
  refine lv_iload_n F.1 F.2.1 dX11_passes_0 rfl (lv_at hl 1 rfl) ?_
  obtain ⟨j9, hj9, h⟩ := op_j h
  have J9 : ∀ (z_1 : Nat → Nat → Int32) (H : Heap) (locs : List Loc) (ls : Array Slot), j9 z_1 = some (zR) → Rg D T A st (gM T aM z_1) H locs → lv_has ls 2 [(0, .ref (aM 0))] → W pr l en rmX11_passes st mi ag bl me co H locs 0 0 (MQ bl (kQ none D (gM T aM zR) A) ag st rmX11_passes.cells rmX11_passes.slots A) (F0 mi 9 ls []) := by
    intro z_1 H locs ls h G hl
    rw [hj9] at h
    refine lv_aload_n F.1 F.2.1 dX11_passes_9 rfl (lv_at hl 0 rfl) ?_
    obtain ⟨r_2, hc, h⟩ := op_b h
    refine k_callV (rv := (some (.int r_2))) (Wc := (gM T aM z_1)) (W2 := (gM T aM z_1)) (Wn := (gM T aM z_1)) (As := []) (rest := []) F G (mX11_isWrong l D T aM z_1 hc) (cwV 0 F.2.2.2.2 (kg_c kl833 (kg_c kl834 (kg_c kl835 (kg_c kl788 (kg_c kl830 kg_a))))) rfl rfl rfl (by decide +kernel) ⟨Nat.le_of_ble_eq_true rfl, Nat.le_of_ble_eq_true rfl⟩) 0 rfl (q := (RX11, TX11, 35)) rfl rfl (kCut_F G) rfl hl.1 rfl (Nat.le_of_ble_eq_true rfl) dX11_passes_10 ⟨Nat.le_of_ble_eq_true rfl, Nat.le_of_ble_eq_true rfl⟩ (cN := 0) (sN := 0) ⟨rfl, rfl⟩ (fun H locs G => ?_)
    refine lv_if_ne (tgt := 20) F.1 F.2.1 dX11_passes_13 (by decide) (fun c => ?_) (fun c => ?_)
    · have h := op_f h c
      obtain rfl := op_1 h
      exact k_vret F hr hlk G dX11_passes_20
    · have h := op_t h c
      refine lv_aload_n F.1 F.2.1 dX11_passes_16 rfl (lv_at hl 0 rfl) ?_
      obtain ⟨z_3, hc, h⟩ := op_b h
      refine k_callV (rv := none) (Wc := (gM T aM z_1)) (W2 := (gM T aM z_3)) (Wn := (gM T aM z_3)) (As := []) (rest := []) F G (mX11_token l D T aM z_1 hc) (cwV 0 F.2.2.2.2 (kg_c kl843 (kg_c kl844 (kg_c kl845 (kg_c kl788 (kg_c kl819 kg_a))))) rfl rfl rfl (by decide +kernel) ⟨Nat.le_of_ble_eq_true rfl, Nat.le_of_ble_eq_true rfl⟩) 0 rfl (q := (RX11, TX11, 35)) rfl rfl (kCut_F G) rfl hl.1 rfl (Nat.le_of_ble_eq_true rfl) dX11_passes_17 ⟨Nat.le_of_ble_eq_true rfl, Nat.le_of_ble_eq_true rfl⟩ (cN := 0) (sN := 0) ⟨rfl, rfl⟩ (fun H locs G => ?_)
      obtain rfl := op_1 h
      exact k_vret F hr hlk G dX11_passes_20
  clear hj9
  refine lv_if_ne (tgt := 9) F.1 F.2.1 dX11_passes_1 (by decide) (fun c => ?_) (fun c => ?_)
  · have h := op_f h c
    exact J9 z _ _ _ h G (lv_sub hl [0] rfl)
  · have h := op_t h c
    refine lv_aload_n F.1 F.2.1 dX11_passes_4 rfl (lv_at hl 0 rfl) ?_
    refine lv_iconst (v := 1) F.1 F.2.1 dX11_passes_5 (by decide) ?_
    obtain ⟨z_4, hc, h⟩ := op_b h
    refine k_callV (rv := none) (Wc := (gM T aM z)) (W2 := (gM T aM z_4)) (Wn := (gM T aM z_4)) (As := [.int 1]) (rest := []) F G (mX11_fails l D T aM z 1 hc) (cwV 1 F.2.2.2.2 (kg_c kl840 (kg_c kl841 (kg_c kl842 (kg_c kl788 (kg_c kl832 kg_a))))) rfl rfl rfl (by decide +kernel) ⟨Nat.le_of_ble_eq_true rfl, Nat.le_of_ble_eq_true rfl⟩) 0 rfl (q := (RX11, TX11, 35)) rfl rfl (kCut_F G) rfl hl.1 rfl (Nat.le_of_ble_eq_true rfl) dX11_passes_6 ⟨Nat.le_of_ble_eq_true rfl, Nat.le_of_ble_eq_true rfl⟩ (cN := 0) (sN := 0) ⟨rfl, rfl⟩ (fun H locs G => ?_)
    exact J9 z_4 _ _ _ h G (lv_sub hl [0] rfl)
abbrev rmX11_semicolon : Room := ({ frames := 3, cells := 0, slots := 0, locals := 63 } : Room)
noncomputable def qX11_semicolon (z : Nat → Nat → Int32) : Option ((Nat → Nat → Int32)) :=
  (jn (fun (y_1 : Int32) => bd (qX11_passes z y_1) fun z_2 => some z_2) fun j14 => if (z 27 0) = 3 then (j14 1) else (j14 0))

set_option maxHeartbeats 4000000 in
set_option maxRecDepth 100000 in
theorem mX11_semicolon (l : Launch) (D : va_G) (T : Nat → ClassId) (aM : Nat → Nat) (z : Nat → Nat → Int32) {zR : Nat → Nat → Int32} (hres : qX11_semicolon z = some (zR)) : Ct l yX11_semicolon (Cond.code yX11_semicolon cX11_semicolon 1 none :: kAll) rmX11_semicolon D T [.ref (aM 0)] (gM T aM z) none (gM T aM zR) := by
  refine Ct.of (cc := cX11_semicolon) (maxL := 1) (ret := none) (by decide +kernel) rfl (Nat.le_of_ble_eq_true rfl) ?_
  intro pr en st mi ag bl me co A ls F hr hlk hnm G hl
  have hl : lv_has ls 1 [(0, .ref (aM 0))] := hl
  have h := hres
  unfold qX11_semicolon at h
  refine lv_aload_n F.1 F.2.1 dX11_semicolon_0 rfl (lv_at hl 0 rfl) ?_
  refine lv_aload_n F.1 F.2.1 dX11_semicolon_1 rfl (lv_at hl 0 rfl) ?_
  refine k_get F G 0 rfl (N := 35) (Tt := TX11) rfl kf11 27 (by decide) kl822 (v := .int (z 27 0)) rfl dX11_semicolon_2 ?_
  refine lv_iconst (v := 3) F.1 F.2.1 dX11_semicolon_5 (by decide) ?_
  obtain ⟨j14, hj14, h⟩ := op_j h
  have J14 : ∀ (y_1 : Int32) (H : Heap) (locs : List Loc) (ls : Array Slot), j14 y_1 = some (zR) → Rg D T A st (gM T aM z) H locs → lv_has ls 1 [] → W pr l en rmX11_semicolon st mi ag bl me co H locs 0 0 (MQ bl (kQ none D (gM T aM zR) A) ag st rmX11_semicolon.cells rmX11_semicolon.slots A) (F0 mi 14 ls [.int y_1, .ref (aM 0)]) := by
    intro y_1 H locs ls h G hl
    rw [hj14] at h
    obtain ⟨z_2, hc, h⟩ := op_b h
    refine k_callV (rv := none) (Wc := (gM T aM z)) (W2 := (gM T aM z_2)) (Wn := (gM T aM z_2)) (As := [.int y_1]) (rest := []) F G (mX11_passes l D T aM z y_1 hc) (cwV 1 F.2.2.2.2 (kg_c kl847 (kg_c kl848 (kg_c kl849 (kg_c kl788 (kg_c kl839 kg_a))))) rfl rfl rfl (by decide +kernel) ⟨Nat.le_of_ble_eq_true rfl, Nat.le_of_ble_eq_true rfl⟩) 0 rfl (q := (RX11, TX11, 35)) rfl rfl (kCut_F G) rfl hl.1 rfl (Nat.le_of_ble_eq_true rfl) dX11_semicolon_14 ⟨Nat.le_of_ble_eq_true rfl, Nat.le_of_ble_eq_true rfl⟩ (cN := 0) (sN := 0) ⟨rfl, rfl⟩ (fun H locs G => ?_)
    obtain rfl := op_1 h
    exact k_vret F hr hlk G dX11_semicolon_17
  clear hj14
  refine lv_icmp_ne (tgt := 13) F.1 F.2.1 dX11_semicolon_6 (by decide) (fun c => ?_) (fun c => ?_)
  · have h := op_f h c
    refine lv_iconst (v := 0) F.1 F.2.1 dX11_semicolon_13 (by decide) ?_
    exact J14 0 _ _ _ h G (lv_sub hl [] rfl)
  · have h := op_t h c
    refine lv_iconst (v := 1) F.1 F.2.1 dX11_semicolon_9 (by decide) ?_
    refine lv_goto (tgt := 14) F.1 F.2.1 dX11_semicolon_10 (by decide) ?_
    exact J14 1 _ _ _ h G (lv_sub hl [] rfl)
abbrev rmX11_figure : Room := ({ frames := 2, cells := 0, slots := 0, locals := 42 } : Room)
noncomputable def qX11_figure_L52 (z_8 : Nat → Nat → Int32) (x1_4 : Int32) (x2_5 : Int32) (K : Int32 → Option (Int32 × (Nat → Nat → Int32))) : Nat → Int32 → Int32 → Option (Int32 × (Nat → Nat → Int32))
  | 0, _, _ => none
  | n + 1, x3_6, x4_7 =>
    if (z_8 25 0) ≤ x4_7 then (K x3_6) else bd (qX11_byteAt z_8 x4_7) fun r_10 => (qX11_figure_L52 z_8 x1_4 x2_5 K n (((10 * x3_6) + r_10) - 48) (x4_7 + 1))

noncomputable def qX11_figure (z : Nat → Nat → Int32) (x1 : Int32) (x2 : Int32) : Option (Int32 × (Nat → Nat → Int32)) :=
  bd (qX11_isWrong z) fun r_1 => if r_1 = 0 then (jn (fun (z_2 : Nat → Nat → Int32) => bd (qX11_isWrong z_2) fun r_3 => if r_3 = 0 then (qX11_figure_L52 z_2 x1 x2 (fun (x3_9 : Int32) => bd (qX11_isIn x3_9.toInt64 x1.toInt64 x2.toInt64) fun r_11 => (jn (fun (z_12 : Nat → Nat → Int32) => bd (qX11_isWrong z_12) fun r_13 => if r_13 = 0 then bd (qX11_token z_12) fun z_14 => some (x3_9, z_14) else some (x3_9, z_12)) fun j99 => if r_11 = 0 then bd (qX11_fails z_2 2) fun z_15 => (j99 z_15) else (j99 z_2))) fu 0 (z_2 26 0) ) else some (x1, z_2)) fun j35 => jn (fun (_ : Unit) => bd (qX11_fails z 1) fun z_16 => (j35 z_16)) fun j30 => if (z 27 0) = 2 then if ((z 25 0) - (z 26 0)) ≤ 4 then (j35 z) else (j30 ()) else (j30 ())) else some (x1, z)

set_option maxHeartbeats 4000000 in
set_option maxRecDepth 100000 in
theorem mX11_figure (l : Launch) (D : va_G) (T : Nat → ClassId) (aM : Nat → Nat) (z : Nat → Nat → Int32) (x1 : Int32) (x2 : Int32) {rR : Int32} {zR : Nat → Nat → Int32} (hres : qX11_figure z x1 x2 = some (rR, zR)) : Ct l yX11_figure (Cond.code yX11_figure cX11_figure 5 (some .int) :: kAll) rmX11_figure D T [.ref (aM 0), .int x1, .int x2] (gM T aM z) (some (.int rR)) (gM T aM zR) := by
  refine Ct.of (cc := cX11_figure) (maxL := 5) (ret := (some .int)) (by decide +kernel) rfl (Nat.le_of_ble_eq_true rfl) ?_
  intro pr en st mi ag bl me co A ls F hr hlk hnm G hl
  have hl : lv_has ls 5 [(0, .ref (aM 0)), (1, .int x1), (2, .int x2)] := hl
  have h := hres
  unfold qX11_figure at h
  refine lv_aload_n F.1 F.2.1 dX11_figure_0 rfl (lv_at hl 0 rfl) ?_
  obtain ⟨r_1, hc, h⟩ := op_b h
  refine k_callV (rv := (some (.int r_1))) (Wc := (gM T aM z)) (W2 := (gM T aM z)) (Wn := (gM T aM z)) (As := []) (rest := []) F G (mX11_isWrong l D T aM z hc) (cwV 0 F.2.2.2.2 (kg_c kl833 (kg_c kl834 (kg_c kl835 (kg_c kl788 (kg_c kl830 kg_a))))) rfl rfl rfl (by decide +kernel) ⟨Nat.le_of_ble_eq_true rfl, Nat.le_of_ble_eq_true rfl⟩) 0 rfl (q := (RX11, TX11, 35)) rfl rfl (kCut_F G) rfl hl.1 rfl (Nat.le_of_ble_eq_true rfl) dX11_figure_1 ⟨Nat.le_of_ble_eq_true rfl, Nat.le_of_ble_eq_true rfl⟩ (cN := 0) (sN := 0) ⟨rfl, rfl⟩ (fun H locs G => ?_)
  refine lv_if_eq (tgt := 9) F.1 F.2.1 dX11_figure_4 (by decide) (fun c => ?_) (fun c => ?_)
  · have h := op_t h c
    refine lv_aload_n F.1 F.2.1 dX11_figure_9 rfl (lv_at hl 0 rfl) ?_
    refine k_get F G 0 rfl (N := 35) (Tt := TX11) rfl kf11 27 (by decide) kl822 (v := .int (z 27 0)) rfl dX11_figure_10 ?_
    refine lv_iconst (v := 2) F.1 F.2.1 dX11_figure_13 (by decide) ?_
    obtain ⟨j35, hj35, h⟩ := op_j h
    have J35 : ∀ (z_2 : Nat → Nat → Int32) (H : Heap) (locs : List Loc) (ls : Array Slot), j35 z_2 = some (rR, zR) → Rg D T A st (gM T aM z_2) H locs → lv_has ls 5 [(0, .ref (aM 0)), (1, .int x1), (2, .int x2)] → W pr l en rmX11_figure st mi ag bl me co H locs 0 0 (MQ bl (kQ (some (.int rR)) D (gM T aM zR) A) ag st rmX11_figure.cells rmX11_figure.slots A) (F0 mi 35 ls []) := by
      intro z_2 H locs ls h G hl
      rw [hj35] at h
      refine lv_aload_n F.1 F.2.1 dX11_figure_35 rfl (lv_at hl 0 rfl) ?_
      obtain ⟨r_3, hc, h⟩ := op_b h
      refine k_callV (rv := (some (.int r_3))) (Wc := (gM T aM z_2)) (W2 := (gM T aM z_2)) (Wn := (gM T aM z_2)) (As := []) (rest := []) F G (mX11_isWrong l D T aM z_2 hc) (cwV 0 F.2.2.2.2 (kg_c kl833 (kg_c kl834 (kg_c kl835 (kg_c kl788 (kg_c kl830 kg_a))))) rfl rfl rfl (by decide +kernel) ⟨Nat.le_of_ble_eq_true rfl, Nat.le_of_ble_eq_true rfl⟩) 0 rfl (q := (RX11, TX11, 35)) rfl rfl (kCut_F G) rfl hl.1 rfl (Nat.le_of_ble_eq_true rfl) dX11_figure_36 ⟨Nat.le_of_ble_eq_true rfl, Nat.le_of_ble_eq_true rfl⟩ (cN := 0) (sN := 0) ⟨rfl, rfl⟩ (fun H locs G => ?_)
      refine lv_if_eq (tgt := 44) F.1 F.2.1 dX11_figure_39 (by decide) (fun c => ?_) (fun c => ?_)
      · have h := op_t h c
        refine lv_iconst (v := 0) F.1 F.2.1 dX11_figure_44 (by decide) ?_
        refine lv_istore_n (lv' := [(3, .int 0), (0, .ref (aM 0)), (1, .int x1), (2, .int x2)]) F.1 F.2.1 dX11_figure_45 rfl hl (by decide) rfl (fun ls hl => ?_)
        refine lv_aload_n F.1 F.2.1 dX11_figure_46 rfl (lv_at hl 1 rfl) ?_
        refine k_get F G 0 rfl (N := 35) (Tt := TX11) rfl kf11 26 (by decide) kl821 (v := .int (z_2 26 0)) rfl dX11_figure_47 ?_
        refine lv_istore (lv' := [(4, .int (z_2 26 0)), (3, .int 0), (0, .ref (aM 0)), (1, .int x1), (2, .int x2)]) F.1 F.2.1 dX11_figure_50 hl (by decide) rfl (fun ls hl => ?_)
        have L52 : ∀ (z_8 : Nat → Nat → Int32) (x1_4 : Int32) (x2_5 : Int32) (K : Int32 → Option (Int32 × (Nat → Nat → Int32))) (hK : ∀ (x3_9 : Int32) (H : Heap) (locs : List Loc) (ls : Array Slot), K x3_9 = some (rR, zR) → Rg D T A st (gM T aM z_8) H locs → lv_has ls 5 [(0, .ref (aM 0)), (1, .int x1_4), (2, .int x2_5), (3, .int x3_9)] → W pr l en rmX11_figure st mi ag bl me co H locs 0 0 (MQ bl (kQ (some (.int rR)) D (gM T aM zR) A) ag st rmX11_figure.cells rmX11_figure.slots A) (F0 mi 82 ls [])) (n : Nat) (x3_6 : Int32) (x4_7 : Int32) (H : Heap) (locs : List Loc) (ls : Array Slot), qX11_figure_L52 z_8 x1_4 x2_5 K n x3_6 x4_7 = some (rR, zR) → Rg D T A st (gM T aM z_8) H locs → lv_has ls 5 [(0, .ref (aM 0)), (1, .int x1_4), (2, .int x2_5), (3, .int x3_6), (4, .int x4_7)] → W pr l en rmX11_figure st mi ag bl me co H locs 0 0 (MQ bl (kQ (some (.int rR)) D (gM T aM zR) A) ag st rmX11_figure.cells rmX11_figure.slots A) (F0 mi 52 ls []) := by
          intro z_8 x1_4 x2_5 K hK n
          induction n with
          | zero => intro x3_6 x4_7 H locs ls h; exact op_n h
          | succ n ih =>
            intro x3_6 x4_7 H locs ls h G hl
            rw [qX11_figure_L52] at h
            refine lv_iload F.1 F.2.1 dX11_figure_52 (lv_at hl 4 rfl) ?_
            refine lv_aload_n F.1 F.2.1 dX11_figure_54 rfl (lv_at hl 0 rfl) ?_
            refine k_get F G 0 rfl (N := 35) (Tt := TX11) rfl kf11 25 (by decide) kl820 (v := .int (z_8 25 0)) rfl dX11_figure_55 ?_
            refine lv_icmp_ge (tgt := 82) F.1 F.2.1 dX11_figure_58 (by decide) (fun c => ?_) (fun c => ?_)
            · have h := op_t h c
              exact hK x3_6 _ _ _ h G (lv_sub hl [0, 1, 2, 3] rfl)
            · have h := op_f h c
              refine lv_bipush (v := 10) F.1 F.2.1 dX11_figure_61 (by decide) ?_
              refine lv_iload_n F.1 F.2.1 dX11_figure_63 rfl (lv_at hl 3 rfl) ?_
              refine lv_imul F.1 F.2.1 dX11_figure_64 ?_
              refine lv_aload_n F.1 F.2.1 dX11_figure_65 rfl (lv_at hl 0 rfl) ?_
              refine lv_iload F.1 F.2.1 dX11_figure_66 (lv_at hl 4 rfl) ?_
              obtain ⟨r_10, hc, h⟩ := op_b h
              refine k_callV (rv := (some (.int r_10))) (Wc := (gM T aM z_8)) (W2 := (gM T aM z_8)) (Wn := (gM T aM z_8)) (As := [.int x4_7]) (rest := [.int (10 * x3_6)]) F G (mX11_byteAt l D T aM z_8 x4_7 hc) (cwV 1 F.2.2.2.2 (kg_c kl823 (kg_c kl824 (kg_c kl825 (kg_c kl788 (kg_c kl815 kg_a))))) rfl rfl rfl (by decide +kernel) ⟨Nat.le_of_ble_eq_true rfl, Nat.le_of_ble_eq_true rfl⟩) 0 rfl (q := (RX11, TX11, 35)) rfl rfl (kCut_F G) rfl hl.1 rfl (Nat.le_of_ble_eq_true rfl) dX11_figure_68 ⟨Nat.le_of_ble_eq_true rfl, Nat.le_of_ble_eq_true rfl⟩ (cN := 0) (sN := 0) ⟨rfl, rfl⟩ (fun H locs G => ?_)
              refine lv_iadd F.1 F.2.1 dX11_figure_71 ?_
              refine lv_bipush (v := 48) F.1 F.2.1 dX11_figure_72 (by decide) ?_
              refine lv_isub F.1 F.2.1 dX11_figure_74 ?_
              refine lv_istore_n (lv' := [(3, .int (((10 * x3_6) + r_10) - 48)), (0, .ref (aM 0)), (1, .int x1_4), (2, .int x2_5), (4, .int x4_7)]) F.1 F.2.1 dX11_figure_75 rfl hl (by decide) rfl (fun ls hl => ?_)
              refine lv_iinc (v := (x4_7 + 1)) (lv' := [(4, .int (x4_7 + 1)), (3, .int (((10 * x3_6) + r_10) - 48)), (0, .ref (aM 0)), (1, .int x1_4), (2, .int x2_5)]) F.1 F.2.1 dX11_figure_76 hl (k := 4) rfl rfl (by decide) rfl (fun ls hl => ?_)
              refine lv_goto (tgt := 52) F.1 F.2.1 dX11_figure_79 (by decide) ?_
              exact ih (((10 * x3_6) + r_10) - 48) (x4_7 + 1) _ _ _ h G (lv_sub hl [2, 3, 4, 1, 0] rfl)
        refine L52 z_2 x1 x2 _ (fun x3_9 H locs ls h G hl => ?_) fu 0 (z_2 26 0)  _ _ _ h G (lv_sub hl [2, 3, 4, 1, 0] rfl)
        clear L52
        refine lv_iload_n F.1 F.2.1 dX11_figure_82 rfl (lv_at hl 3 rfl) ?_
        refine lv_i2l (v := x3_9.toInt64) F.1 F.2.1 dX11_figure_83 rfl ?_
        refine lv_iload_n F.1 F.2.1 dX11_figure_84 rfl (lv_at hl 1 rfl) ?_
        refine lv_i2l (v := x1.toInt64) F.1 F.2.1 dX11_figure_85 rfl ?_
        refine lv_iload_n F.1 F.2.1 dX11_figure_86 rfl (lv_at hl 2 rfl) ?_
        refine lv_i2l (v := x2.toInt64) F.1 F.2.1 dX11_figure_87 rfl ?_
        obtain ⟨r_11, hc, h⟩ := op_b h
        refine k_callS (rv := (some (.int r_11))) (Wc := ([] : va_W)) (W2 := ([] : va_W)) (Wn := (gM T aM z_2)) (As := [.long x3_9.toInt64, .long x1.toInt64, .long x2.toInt64]) (rest := []) F G (mX11_isIn l D T x3_9.toInt64 x1.toInt64 x2.toInt64 hc) (va_cwS 3 F.2.2.2.2 (kg_c kl813 (kg_c kl814 (kg_c kl788 (kg_c kl805 kg_a)))) rfl rfl rfl (by decide +kernel) ⟨Nat.le_of_ble_eq_true rfl, Nat.le_of_ble_eq_true rfl⟩) (kCut_0 G) rfl hl.1 rfl (Nat.le_of_ble_eq_true rfl) dX11_figure_88 ⟨Nat.le_of_ble_eq_true rfl, Nat.le_of_ble_eq_true rfl⟩ (cN := 0) (sN := 0) ⟨rfl, rfl⟩ (fun H locs G => ?_)
        obtain ⟨j99, hj99, h⟩ := op_j h
        have J99 : ∀ (z_12 : Nat → Nat → Int32) (H : Heap) (locs : List Loc) (ls : Array Slot), j99 z_12 = some (rR, zR) → Rg D T A st (gM T aM z_12) H locs → lv_has ls 5 [(0, .ref (aM 0)), (3, .int x3_9)] → W pr l en rmX11_figure st mi ag bl me co H locs 0 0 (MQ bl (kQ (some (.int rR)) D (gM T aM zR) A) ag st rmX11_figure.cells rmX11_figure.slots A) (F0 mi 99 ls []) := by
          intro z_12 H locs ls h G hl
          rw [hj99] at h
          refine lv_aload_n F.1 F.2.1 dX11_figure_99 rfl (lv_at hl 0 rfl) ?_
          obtain ⟨r_13, hc, h⟩ := op_b h
          refine k_callV (rv := (some (.int r_13))) (Wc := (gM T aM z_12)) (W2 := (gM T aM z_12)) (Wn := (gM T aM z_12)) (As := []) (rest := []) F G (mX11_isWrong l D T aM z_12 hc) (cwV 0 F.2.2.2.2 (kg_c kl833 (kg_c kl834 (kg_c kl835 (kg_c kl788 (kg_c kl830 kg_a))))) rfl rfl rfl (by decide +kernel) ⟨Nat.le_of_ble_eq_true rfl, Nat.le_of_ble_eq_true rfl⟩) 0 rfl (q := (RX11, TX11, 35)) rfl rfl (kCut_F G) rfl hl.1 rfl (Nat.le_of_ble_eq_true rfl) dX11_figure_100 ⟨Nat.le_of_ble_eq_true rfl, Nat.le_of_ble_eq_true rfl⟩ (cN := 0) (sN := 0) ⟨rfl, rfl⟩ (fun H locs G => ?_)
          refine lv_if_ne (tgt := 110) F.1 F.2.1 dX11_figure_103 (by decide) (fun c => ?_) (fun c => ?_)
          · have h := op_f h c
            refine lv_iload_n F.1 F.2.1 dX11_figure_110 rfl (lv_at hl 1 rfl) ?_
            obtain ⟨rfl, rfl⟩ := op_2 h
            exact k_iret F hr hlk G dX11_figure_111
          · have h := op_t h c
            refine lv_aload_n F.1 F.2.1 dX11_figure_106 rfl (lv_at hl 0 rfl) ?_
            obtain ⟨z_14, hc, h⟩ := op_b h
            refine k_callV (rv := none) (Wc := (gM T aM z_12)) (W2 := (gM T aM z_14)) (Wn := (gM T aM z_14)) (As := []) (rest := []) F G (mX11_token l D T aM z_12 hc) (cwV 0 F.2.2.2.2 (kg_c kl843 (kg_c kl844 (kg_c kl845 (kg_c kl788 (kg_c kl819 kg_a))))) rfl rfl rfl (by decide +kernel) ⟨Nat.le_of_ble_eq_true rfl, Nat.le_of_ble_eq_true rfl⟩) 0 rfl (q := (RX11, TX11, 35)) rfl rfl (kCut_F G) rfl hl.1 rfl (Nat.le_of_ble_eq_true rfl) dX11_figure_107 ⟨Nat.le_of_ble_eq_true rfl, Nat.le_of_ble_eq_true rfl⟩ (cN := 0) (sN := 0) ⟨rfl, rfl⟩ (fun H locs G => ?_)
            refine lv_iload_n F.1 F.2.1 dX11_figure_110 rfl (lv_at hl 1 rfl) ?_
            obtain ⟨rfl, rfl⟩ := op_2 h
            exact k_iret F hr hlk G dX11_figure_111
        clear hj99
        refine lv_if_ne (tgt := 99) F.1 F.2.1 dX11_figure_91 (by decide) (fun c => ?_) (fun c => ?_)
        · have h := op_f h c
          exact J99 z_2 _ _ _ h G (lv_sub hl [0, 3] rfl)
        · have h := op_t h c
          refine lv_aload_n F.1 F.2.1 dX11_figure_94 rfl (lv_at hl 0 rfl) ?_
          refine lv_iconst (v := 2) F.1 F.2.1 dX11_figure_95 (by decide) ?_
          obtain ⟨z_15, hc, h⟩ := op_b h
          refine k_callV (rv := none) (Wc := (gM T aM z_2)) (W2 := (gM T aM z_15)) (Wn := (gM T aM z_15)) (As := [.int 2]) (rest := []) F G (mX11_fails l D T aM z_2 2 hc) (cwV 1 F.2.2.2.2 (kg_c kl840 (kg_c kl841 (kg_c kl842 (kg_c kl788 (kg_c kl832 kg_a))))) rfl rfl rfl (by decide +kernel) ⟨Nat.le_of_ble_eq_true rfl, Nat.le_of_ble_eq_true rfl⟩) 0 rfl (q := (RX11, TX11, 35)) rfl rfl (kCut_F G) rfl hl.1 rfl (Nat.le_of_ble_eq_true rfl) dX11_figure_96 ⟨Nat.le_of_ble_eq_true rfl, Nat.le_of_ble_eq_true rfl⟩ (cN := 0) (sN := 0) ⟨rfl, rfl⟩ (fun H locs G => ?_)
          exact J99 z_15 _ _ _ h G (lv_sub hl [0, 3] rfl)
      · have h := op_f h c
        refine lv_iload_n F.1 F.2.1 dX11_figure_42 rfl (lv_at hl 1 rfl) ?_
        obtain ⟨rfl, rfl⟩ := op_2 h
        exact k_iret F hr hlk G dX11_figure_43
    clear hj35
    obtain ⟨j30, hj30, h⟩ := op_j h
    have J30 : ∀ (H : Heap) (locs : List Loc) (ls : Array Slot), j30 () = some (rR, zR) → Rg D T A st (gM T aM z) H locs → lv_has ls 5 [(0, .ref (aM 0)), (1, .int x1), (2, .int x2)] → W pr l en rmX11_figure st mi ag bl me co H locs 0 0 (MQ bl (kQ (some (.int rR)) D (gM T aM zR) A) ag st rmX11_figure.cells rmX11_figure.slots A) (F0 mi 30 ls []) := by
      intro H locs ls h G hl
      rw [hj30] at h
      refine lv_aload_n F.1 F.2.1 dX11_figure_30 rfl (lv_at hl 0 rfl) ?_
      refine lv_iconst (v := 1) F.1 F.2.1 dX11_figure_31 (by decide) ?_
      obtain ⟨z_16, hc, h⟩ := op_b h
      refine k_callV (rv := none) (Wc := (gM T aM z)) (W2 := (gM T aM z_16)) (Wn := (gM T aM z_16)) (As := [.int 1]) (rest := []) F G (mX11_fails l D T aM z 1 hc) (cwV 1 F.2.2.2.2 (kg_c kl840 (kg_c kl841 (kg_c kl842 (kg_c kl788 (kg_c kl832 kg_a))))) rfl rfl rfl (by decide +kernel) ⟨Nat.le_of_ble_eq_true rfl, Nat.le_of_ble_eq_true rfl⟩) 0 rfl (q := (RX11, TX11, 35)) rfl rfl (kCut_F G) rfl hl.1 rfl (Nat.le_of_ble_eq_true rfl) dX11_figure_32 ⟨Nat.le_of_ble_eq_true rfl, Nat.le_of_ble_eq_true rfl⟩ (cN := 0) (sN := 0) ⟨rfl, rfl⟩ (fun H locs G => ?_)
      exact J35 z_16 _ _ _ h G hl
    clear hj30
    refine lv_icmp_ne (tgt := 30) F.1 F.2.1 dX11_figure_14 (by decide) (fun c => ?_) (fun c => ?_)
    · have h := op_f h c
      exact J30 _ _ _ h G hl
    · have h := op_t h c
      refine lv_aload_n F.1 F.2.1 dX11_figure_17 rfl (lv_at hl 0 rfl) ?_
      refine k_get F G 0 rfl (N := 35) (Tt := TX11) rfl kf11 25 (by decide) kl820 (v := .int (z 25 0)) rfl dX11_figure_18 ?_
      refine lv_aload_n F.1 F.2.1 dX11_figure_21 rfl (lv_at hl 0 rfl) ?_
      refine k_get F G 0 rfl (N := 35) (Tt := TX11) rfl kf11 26 (by decide) kl821 (v := .int (z 26 0)) rfl dX11_figure_22 ?_
      refine lv_isub F.1 F.2.1 dX11_figure_25 ?_
      refine lv_iconst (v := 4) F.1 F.2.1 dX11_figure_26 (by decide) ?_
      refine lv_icmp_le (tgt := 35) F.1 F.2.1 dX11_figure_27 (by decide) (fun c => ?_) (fun c => ?_)
      · have h := op_t h c
        exact J35 z _ _ _ h G hl
      · have h := op_f h c
        exact J30 _ _ _ h G hl
  · have h := op_f h c
    refine lv_iload_n F.1 F.2.1 dX11_figure_7 rfl (lv_at hl 1 rfl) ?_
    obtain ⟨rfl, rfl⟩ := op_2 h
    exact k_iret F hr hlk G dX11_figure_8
abbrev rmX11_isName : Room := ({ frames := 1, cells := 0, slots := 0, locals := 20 } : Room)
noncomputable def qX11_isName (z : Nat → Nat → Int32) : Option (Int32) :=
  bd (qX11_isWrong z) fun r_1 => if r_1 = 0 then if (z 27 0) = 1 then if 8 < ((z 25 0) - (z 26 0)) then some 0 else some 1 else some 0 else some 0

set_option maxHeartbeats 4000000 in
set_option maxRecDepth 100000 in
theorem mX11_isName (l : Launch) (D : va_G) (T : Nat → ClassId) (aM : Nat → Nat) (z : Nat → Nat → Int32) {rR : Int32} (hres : qX11_isName z = some (rR)) : Ct l yX11_isName (Cond.code yX11_isName cX11_isName 1 (some .boolean) :: kAll) rmX11_isName D T [.ref (aM 0)] (gM T aM z) (some (.int rR)) (gM T aM z) := by
  refine Ct.of (cc := cX11_isName) (maxL := 1) (ret := (some .boolean)) (by decide +kernel) rfl (Nat.le_of_ble_eq_true rfl) ?_
  intro pr en st mi ag bl me co A ls F hr hlk hnm G hl
  have hl : lv_has ls 1 [(0, .ref (aM 0))] := hl
  have h := hres
  unfold qX11_isName at h
  refine lv_aload_n F.1 F.2.1 dX11_isName_0 rfl (lv_at hl 0 rfl) ?_
  obtain ⟨r_1, hc, h⟩ := op_b h
  refine k_callV (rv := (some (.int r_1))) (Wc := (gM T aM z)) (W2 := (gM T aM z)) (Wn := (gM T aM z)) (As := []) (rest := []) F G (mX11_isWrong l D T aM z hc) (cwV 0 F.2.2.2.2 (kg_c kl833 (kg_c kl834 (kg_c kl835 (kg_c kl788 (kg_c kl830 kg_a))))) rfl rfl rfl (by decide +kernel) ⟨Nat.le_of_ble_eq_true rfl, Nat.le_of_ble_eq_true rfl⟩) 0 rfl (q := (RX11, TX11, 35)) rfl rfl (kCut_F G) rfl hl.1 rfl (Nat.le_of_ble_eq_true rfl) dX11_isName_1 ⟨Nat.le_of_ble_eq_true rfl, Nat.le_of_ble_eq_true rfl⟩ (cN := 0) (sN := 0) ⟨rfl, rfl⟩ (fun H locs G => ?_)
  refine lv_if_ne (tgt := 33) F.1 F.2.1 dX11_isName_4 (by decide) (fun c => ?_) (fun c => ?_)
  · have h := op_f h c
    refine lv_iconst (v := 0) F.1 F.2.1 dX11_isName_33 (by decide) ?_
    obtain rfl := op_1 h
    exact k_zret F hr rfl hlk G dX11_isName_34
  · have h := op_t h c
    refine lv_aload_n F.1 F.2.1 dX11_isName_7 rfl (lv_at hl 0 rfl) ?_
    refine k_get F G 0 rfl (N := 35) (Tt := TX11) rfl kf11 27 (by decide) kl822 (v := .int (z 27 0)) rfl dX11_isName_8 ?_
    refine lv_iconst (v := 1) F.1 F.2.1 dX11_isName_11 (by decide) ?_
    refine lv_icmp_ne (tgt := 33) F.1 F.2.1 dX11_isName_12 (by decide) (fun c => ?_) (fun c => ?_)
    · have h := op_f h c
      refine lv_iconst (v := 0) F.1 F.2.1 dX11_isName_33 (by decide) ?_
      obtain rfl := op_1 h
      exact k_zret F hr rfl hlk G dX11_isName_34
    · have h := op_t h c
      refine lv_aload_n F.1 F.2.1 dX11_isName_15 rfl (lv_at hl 0 rfl) ?_
      refine k_get F G 0 rfl (N := 35) (Tt := TX11) rfl kf11 25 (by decide) kl820 (v := .int (z 25 0)) rfl dX11_isName_16 ?_
      refine lv_aload_n F.1 F.2.1 dX11_isName_19 rfl (lv_at hl 0 rfl) ?_
      refine k_get F G 0 rfl (N := 35) (Tt := TX11) rfl kf11 26 (by decide) kl821 (v := .int (z 26 0)) rfl dX11_isName_20 ?_
      refine lv_isub F.1 F.2.1 dX11_isName_23 ?_
      refine lv_bipush (v := 8) F.1 F.2.1 dX11_isName_24 (by decide) ?_
      refine lv_icmp_gt (tgt := 33) F.1 F.2.1 dX11_isName_26 (by decide) (fun c => ?_) (fun c => ?_)
      · have h := op_t h c
        refine lv_iconst (v := 0) F.1 F.2.1 dX11_isName_33 (by decide) ?_
        obtain rfl := op_1 h
        exact k_zret F hr rfl hlk G dX11_isName_34
      · have h := op_f h c
        refine lv_iconst (v := 1) F.1 F.2.1 dX11_isName_29 (by decide) ?_
        refine lv_goto (tgt := 34) F.1 F.2.1 dX11_isName_30 (by decide) ?_
        obtain rfl := op_1 h
        exact k_zret F hr rfl hlk G dX11_isName_34
abbrev rmX11_looksUp : Room := ({ frames := 2, cells := 0, slots := 0, locals := 41 } : Room)
noncomputable def qX11_looksUp (z : Nat → Nat → Int32) : Option (Int32 × (Nat → Nat → Int32)) :=
  bd (qX11_isName z) fun r_1 => (jn (fun (z_2 : Nat → Nat → Int32) => bd (qX11_isWrong z_2) fun r_3 => if r_3 = 0 then bd (qX11_whichOf 96 900 (z_2 22) (z_2 16) (z_2 30 0) (z_2 26 0) (z_2 25 0)) fun r_4 => some (r_4, z_2) else some (0, z_2)) fun j12 => if r_1 = 0 then bd (qX11_fails z 1) fun z_5 => (j12 z_5) else (j12 z))

set_option maxHeartbeats 4000000 in
set_option maxRecDepth 100000 in
theorem mX11_looksUp (l : Launch) (D : va_G) (T : Nat → ClassId) (aM : Nat → Nat) (z : Nat → Nat → Int32) {rR : Int32} {zR : Nat → Nat → Int32} (hres : qX11_looksUp z = some (rR, zR)) : Ct l yX11_looksUp (Cond.code yX11_looksUp cX11_looksUp 1 (some .int) :: kAll) rmX11_looksUp D T [.ref (aM 0)] (gM T aM z) (some (.int rR)) (gM T aM zR) := by
  refine Ct.of (cc := cX11_looksUp) (maxL := 1) (ret := (some .int)) (by decide +kernel) rfl (Nat.le_of_ble_eq_true rfl) ?_
  intro pr en st mi ag bl me co A ls F hr hlk hnm G hl
  have hl : lv_has ls 1 [(0, .ref (aM 0))] := hl
  have h := hres
  unfold qX11_looksUp at h
  refine lv_aload_n F.1 F.2.1 dX11_looksUp_0 rfl (lv_at hl 0 rfl) ?_
  obtain ⟨r_1, hc, h⟩ := op_b h
  refine k_callV (rv := (some (.int r_1))) (Wc := (gM T aM z)) (W2 := (gM T aM z)) (Wn := (gM T aM z)) (As := []) (rest := []) F G (mX11_isName l D T aM z hc) (cwV 0 F.2.2.2.2 (kg_c kl854 (kg_c kl855 (kg_c kl856 (kg_c kl788 (kg_c kl852 kg_a))))) rfl rfl rfl (by decide +kernel) ⟨Nat.le_of_ble_eq_true rfl, Nat.le_of_ble_eq_true rfl⟩) 0 rfl (q := (RX11, TX11, 35)) rfl rfl (kCut_F G) rfl hl.1 rfl (Nat.le_of_ble_eq_true rfl) dX11_looksUp_1 ⟨Nat.le_of_ble_eq_true rfl, Nat.le_of_ble_eq_true rfl⟩ (cN := 0) (sN := 0) ⟨rfl, rfl⟩ (fun H locs G => ?_)
  obtain ⟨j12, hj12, h⟩ := op_j h
  have J12 : ∀ (z_2 : Nat → Nat → Int32) (H : Heap) (locs : List Loc) (ls : Array Slot), j12 z_2 = some (rR, zR) → Rg D T A st (gM T aM z_2) H locs → lv_has ls 1 [(0, .ref (aM 0))] → W pr l en rmX11_looksUp st mi ag bl me co H locs 0 0 (MQ bl (kQ (some (.int rR)) D (gM T aM zR) A) ag st rmX11_looksUp.cells rmX11_looksUp.slots A) (F0 mi 12 ls []) := by
    intro z_2 H locs ls h G hl
    rw [hj12] at h
    refine lv_aload_n F.1 F.2.1 dX11_looksUp_12 rfl (lv_at hl 0 rfl) ?_
    obtain ⟨r_3, hc, h⟩ := op_b h
    refine k_callV (rv := (some (.int r_3))) (Wc := (gM T aM z_2)) (W2 := (gM T aM z_2)) (Wn := (gM T aM z_2)) (As := []) (rest := []) F G (mX11_isWrong l D T aM z_2 hc) (cwV 0 F.2.2.2.2 (kg_c kl833 (kg_c kl834 (kg_c kl835 (kg_c kl788 (kg_c kl830 kg_a))))) rfl rfl rfl (by decide +kernel) ⟨Nat.le_of_ble_eq_true rfl, Nat.le_of_ble_eq_true rfl⟩) 0 rfl (q := (RX11, TX11, 35)) rfl rfl (kCut_F G) rfl hl.1 rfl (Nat.le_of_ble_eq_true rfl) dX11_looksUp_13 ⟨Nat.le_of_ble_eq_true rfl, Nat.le_of_ble_eq_true rfl⟩ (cN := 0) (sN := 0) ⟨rfl, rfl⟩ (fun H locs G => ?_)
    refine lv_if_eq (tgt := 23) F.1 F.2.1 dX11_looksUp_16 (by decide) (fun c => ?_) (fun c => ?_)
    · have h := op_t h c
      refine lv_aload_n F.1 F.2.1 dX11_looksUp_23 rfl (lv_at hl 0 rfl) ?_
      refine k_get F G 0 rfl (N := 35) (Tt := TX11) rfl kf11 22 (by decide) kl782 (v := .ref (aM 17)) rfl dX11_looksUp_24 ?_
      refine lv_aload_n F.1 F.2.1 dX11_looksUp_27 rfl (lv_at hl 0 rfl) ?_
      refine k_get F G 0 rfl (N := 35) (Tt := TX11) rfl kf11 30 (by decide) kl762 (v := .int (z_2 30 0)) rfl dX11_looksUp_28 ?_
      refine lv_aload_n F.1 F.2.1 dX11_looksUp_31 rfl (lv_at hl 0 rfl) ?_
      refine k_get F G 0 rfl (N := 35) (Tt := TX11) rfl kf11 16 (by decide) kl795 (v := .ref (aM 11)) rfl dX11_looksUp_32 ?_
      refine lv_aload_n F.1 F.2.1 dX11_looksUp_35 rfl (lv_at hl 0 rfl) ?_
      refine k_get F G 0 rfl (N := 35) (Tt := TX11) rfl kf11 26 (by decide) kl821 (v := .int (z_2 26 0)) rfl dX11_looksUp_36 ?_
      refine lv_aload_n F.1 F.2.1 dX11_looksUp_39 rfl (lv_at hl 0 rfl) ?_
      refine k_get F G 0 rfl (N := 35) (Tt := TX11) rfl kf11 25 (by decide) kl820 (v := .int (z_2 25 0)) rfl dX11_looksUp_40 ?_
      obtain ⟨r_4, hc, h⟩ := op_b h
      refine k_callS (rv := (some (.int r_4))) (Wc := (gFW T (aM 17) (aM 11) 96 900 (z_2 22) (z_2 16))) (W2 := (gFW T (aM 17) (aM 11) 96 900 (z_2 22) (z_2 16))) (Wn := (gM T aM z_2)) (As := [.ref (aM 17), .int (z_2 30 0), .ref (aM 11), .int (z_2 26 0), .int (z_2 25 0)]) (rest := []) F G (mX11_whichOf l D T (aM 17) (aM 11) 96 900 (z_2 22) (z_2 16) (z_2 30 0) (z_2 26 0) (z_2 25 0) hc) (va_cwS 5 F.2.2.2.2 (kg_c kl857 (kg_c kl858 (kg_c kl788 (kg_c kl851 kg_a)))) rfl rfl rfl (by decide +kernel) ⟨Nat.le_of_ble_eq_true rfl, Nat.le_of_ble_eq_true rfl⟩) (kCut_R G [17, 11] rfl rfl) rfl hl.1 rfl (Nat.le_of_ble_eq_true rfl) dX11_looksUp_43 ⟨Nat.le_of_ble_eq_true rfl, Nat.le_of_ble_eq_true rfl⟩ (cN := 0) (sN := 0) ⟨rfl, rfl⟩ (fun H locs G => ?_)
      obtain ⟨rfl, rfl⟩ := op_2 h
      exact k_iret F hr hlk G dX11_looksUp_46
    · have h := op_f h c
      refine lv_iconst (v := 0) F.1 F.2.1 dX11_looksUp_19 (by decide) ?_
      refine lv_goto (tgt := 46) F.1 F.2.1 dX11_looksUp_20 (by decide) ?_
      obtain ⟨rfl, rfl⟩ := op_2 h
      exact k_iret F hr hlk G dX11_looksUp_46
  clear hj12
  refine lv_if_ne (tgt := 12) F.1 F.2.1 dX11_looksUp_4 (by decide) (fun c => ?_) (fun c => ?_)
  · have h := op_f h c
    exact J12 z _ _ _ h G hl
  · have h := op_t h c
    refine lv_aload_n F.1 F.2.1 dX11_looksUp_7 rfl (lv_at hl 0 rfl) ?_
    refine lv_iconst (v := 1) F.1 F.2.1 dX11_looksUp_8 (by decide) ?_
    obtain ⟨z_5, hc, h⟩ := op_b h
    refine k_callV (rv := none) (Wc := (gM T aM z)) (W2 := (gM T aM z_5)) (Wn := (gM T aM z_5)) (As := [.int 1]) (rest := []) F G (mX11_fails l D T aM z 1 hc) (cwV 1 F.2.2.2.2 (kg_c kl840 (kg_c kl841 (kg_c kl842 (kg_c kl788 (kg_c kl832 kg_a))))) rfl rfl rfl (by decide +kernel) ⟨Nat.le_of_ble_eq_true rfl, Nat.le_of_ble_eq_true rfl⟩) 0 rfl (q := (RX11, TX11, 35)) rfl rfl (kCut_F G) rfl hl.1 rfl (Nat.le_of_ble_eq_true rfl) dX11_looksUp_9 ⟨Nat.le_of_ble_eq_true rfl, Nat.le_of_ble_eq_true rfl⟩ (cN := 0) (sN := 0) ⟨rfl, rfl⟩ (fun H locs G => ?_)
    exact J12 z_5 _ _ _ h G hl
abbrev rmX11_once : Room := ({ frames := 2, cells := 0, slots := 0, locals := 42 } : Room)
noncomputable def qX11_once (z : Nat → Nat → Int32) (x1 : Int32) : Option ((Nat → Nat → Int32)) :=
  (jn (fun (z_1 : Nat → Nat → Int32) => bd (qX11_isWrong z_1) fun r_2 => if r_2 = 0 then (bs (va_up z_1 34 (fun _ => ((z_1 34 0) ||| (1 <<< (x1 &&& 31))))) fun z_3 => bd (qX11_token z_3) fun z_4 => some z_4) else some z_1) fun j17 => if (((z 34 0) >>> (x1 &&& 31)) &&& 1) = 1 then bd (qX11_fails z 5) fun z_5 => (j17 z_5) else (j17 z))

set_option maxHeartbeats 4000000 in
set_option maxRecDepth 100000 in
theorem mX11_once (l : Launch) (D : va_G) (T : Nat → ClassId) (aM : Nat → Nat) (z : Nat → Nat → Int32) (x1 : Int32) {zR : Nat → Nat → Int32} (hres : qX11_once z x1 = some (zR)) : Ct l yX11_once (Cond.code yX11_once cX11_once 2 none :: kAll) rmX11_once D T [.ref (aM 0), .int x1] (gM T aM z) none (gM T aM zR) := by
  refine Ct.of (cc := cX11_once) (maxL := 2) (ret := none) (by decide +kernel) rfl (Nat.le_of_ble_eq_true rfl) ?_
  intro pr en st mi ag bl me co A ls F hr hlk hnm G hl
  have hl : lv_has ls 2 [(0, .ref (aM 0)), (1, .int x1)] := hl
  have h := hres
  unfold qX11_once at h
  refine lv_aload_n F.1 F.2.1 dX11_once_0 rfl (lv_at hl 0 rfl) ?_
  refine k_get F G 0 rfl (N := 35) (Tt := TX11) rfl kf11 34 (by decide) kl766 (v := .int (z 34 0)) rfl dX11_once_1 ?_
  refine lv_iload_n F.1 F.2.1 dX11_once_4 rfl (lv_at hl 1 rfl) ?_
  refine lv_ishr F.1 F.2.1 dX11_once_5 ?_
  refine lv_iconst (v := 1) F.1 F.2.1 dX11_once_6 (by decide) ?_
  refine lv_iand F.1 F.2.1 dX11_once_7 ?_
  refine lv_iconst (v := 1) F.1 F.2.1 dX11_once_8 (by decide) ?_
  obtain ⟨j17, hj17, h⟩ := op_j h
  have J17 : ∀ (z_1 : Nat → Nat → Int32) (H : Heap) (locs : List Loc) (ls : Array Slot), j17 z_1 = some (zR) → Rg D T A st (gM T aM z_1) H locs → lv_has ls 2 [(0, .ref (aM 0)), (1, .int x1)] → W pr l en rmX11_once st mi ag bl me co H locs 0 0 (MQ bl (kQ none D (gM T aM zR) A) ag st rmX11_once.cells rmX11_once.slots A) (F0 mi 17 ls []) := by
    intro z_1 H locs ls h G hl
    rw [hj17] at h
    refine lv_aload_n F.1 F.2.1 dX11_once_17 rfl (lv_at hl 0 rfl) ?_
    obtain ⟨r_2, hc, h⟩ := op_b h
    refine k_callV (rv := (some (.int r_2))) (Wc := (gM T aM z_1)) (W2 := (gM T aM z_1)) (Wn := (gM T aM z_1)) (As := []) (rest := []) F G (mX11_isWrong l D T aM z_1 hc) (cwV 0 F.2.2.2.2 (kg_c kl833 (kg_c kl834 (kg_c kl835 (kg_c kl788 (kg_c kl830 kg_a))))) rfl rfl rfl (by decide +kernel) ⟨Nat.le_of_ble_eq_true rfl, Nat.le_of_ble_eq_true rfl⟩) 0 rfl (q := (RX11, TX11, 35)) rfl rfl (kCut_F G) rfl hl.1 rfl (Nat.le_of_ble_eq_true rfl) dX11_once_18 ⟨Nat.le_of_ble_eq_true rfl, Nat.le_of_ble_eq_true rfl⟩ (cN := 0) (sN := 0) ⟨rfl, rfl⟩ (fun H locs G => ?_)
    refine lv_if_eq (tgt := 25) F.1 F.2.1 dX11_once_21 (by decide) (fun c => ?_) (fun c => ?_)
    · have h := op_t h c
      refine lv_aload_n F.1 F.2.1 dX11_once_25 rfl (lv_at hl 0 rfl) ?_
      refine lv_dup F.1 F.2.1 dX11_once_26 rfl ?_
      refine k_get F G 0 rfl (N := 35) (Tt := TX11) rfl kf11 34 (by decide) kl766 (v := .int (z_1 34 0)) rfl dX11_once_27 ?_
      refine lv_iconst (v := 1) F.1 F.2.1 dX11_once_30 (by decide) ?_
      refine lv_iload_n F.1 F.2.1 dX11_once_31 rfl (lv_at hl 1 rfl) ?_
      refine lv_ishl F.1 F.2.1 dX11_once_32 ?_
      refine lv_ior F.1 F.2.1 dX11_once_33 ?_
      obtain ⟨z_3, e9, h⟩ := op_st h
      refine k_put F G 0 rfl (N := 35) (Tt := TX11) rfl kf11 tyX11_ok nmX11 34 (by decide) kl766 rfl (v := .int ((z_1 34 0) ||| (1 <<< (x1 &&& 31)))) rfl rfl (Nat.le_of_ble_eq_true rfl) dX11_once_34 (Wn := (gM T aM z_3)) (by subst e9; rfl) (fun H locs G => ?_)
      clear e9
      refine lv_aload_n F.1 F.2.1 dX11_once_37 rfl (lv_at hl 0 rfl) ?_
      obtain ⟨z_4, hc, h⟩ := op_b h
      refine k_callV (rv := none) (Wc := (gM T aM z_3)) (W2 := (gM T aM z_4)) (Wn := (gM T aM z_4)) (As := []) (rest := []) F G (mX11_token l D T aM z_3 hc) (cwV 0 F.2.2.2.2 (kg_c kl843 (kg_c kl844 (kg_c kl845 (kg_c kl788 (kg_c kl819 kg_a))))) rfl rfl rfl (by decide +kernel) ⟨Nat.le_of_ble_eq_true rfl, Nat.le_of_ble_eq_true rfl⟩) 0 rfl (q := (RX11, TX11, 35)) rfl rfl (kCut_F G) rfl hl.1 rfl (Nat.le_of_ble_eq_true rfl) dX11_once_38 ⟨Nat.le_of_ble_eq_true rfl, Nat.le_of_ble_eq_true rfl⟩ (cN := 0) (sN := 0) ⟨rfl, rfl⟩ (fun H locs G => ?_)
      obtain rfl := op_1 h
      exact k_vret F hr hlk G dX11_once_41
    · have h := op_f h c
      obtain rfl := op_1 h
      exact k_vret F hr hlk G dX11_once_24
  clear hj17
  refine lv_icmp_ne (tgt := 17) F.1 F.2.1 dX11_once_9 (by decide) (fun c => ?_) (fun c => ?_)
  · have h := op_f h c
    exact J17 z _ _ _ h G hl
  · have h := op_t h c
    refine lv_aload_n F.1 F.2.1 dX11_once_12 rfl (lv_at hl 0 rfl) ?_
    refine lv_iconst (v := 5) F.1 F.2.1 dX11_once_13 (by decide) ?_
    obtain ⟨z_5, hc, h⟩ := op_b h
    refine k_callV (rv := none) (Wc := (gM T aM z)) (W2 := (gM T aM z_5)) (Wn := (gM T aM z_5)) (As := [.int 5]) (rest := []) F G (mX11_fails l D T aM z 5 hc) (cwV 1 F.2.2.2.2 (kg_c kl840 (kg_c kl841 (kg_c kl842 (kg_c kl788 (kg_c kl832 kg_a))))) rfl rfl rfl (by decide +kernel) ⟨Nat.le_of_ble_eq_true rfl, Nat.le_of_ble_eq_true rfl⟩) 0 rfl (q := (RX11, TX11, 35)) rfl rfl (kCut_F G) rfl hl.1 rfl (Nat.le_of_ble_eq_true rfl) dX11_once_14 ⟨Nat.le_of_ble_eq_true rfl, Nat.le_of_ble_eq_true rfl⟩ (cN := 0) (sN := 0) ⟨rfl, rfl⟩ (fun H locs G => ?_)
    exact J17 z_5 _ _ _ h G hl
abbrev rmX11_outletLine : Room := ({ frames := 4, cells := 0, slots := 0, locals := 83 } : Room)
noncomputable def qX11_outletLine_L58 (K : (Nat → Nat → Int32) → Option ((Nat → Nat → Int32))) : Nat → Int32 → (Nat → Nat → Int32) → Option ((Nat → Nat → Int32))
  | 0, _, _ => none
  | n + 1, x2_9, z_10 =>
    if 8 ≤ x2_9 then (K z_10) else (jn (fun (y_12 : Int32) => gd (vp_in ((8 * (z_10 30 0)) + x2_9) 96) (bs (va_up z_10 22 (upd (z_10 22) ((8 * (z_10 30 0)) + x2_9).toNatClampNeg y_12)) fun z_13 => (qX11_outletLine_L58 K n (x2_9 + 1) z_13))) fun j105 => if (z_10 25 0) ≤ ((z_10 26 0) + x2_9) then (j105 0) else gd (vp_in ((z_10 26 0) + x2_9) 900) ((j105 ((z_10 16) ((z_10 26 0) + x2_9).toNatClampNeg))))

noncomputable def qX11_outletLine (z : Nat → Nat → Int32) : Option ((Nat → Nat → Int32)) :=
  (jn (fun (z_1 : Nat → Nat → Int32) => bd (qX11_isWrong z_1) fun r_2 => if r_2 = 0 then bd (qX11_token z_1) fun z_3 => bd2 (qX11_looksUp z_3) fun r_4 z_5 => bd (qX11_isWrong z_5) fun r_6 => (jn (fun (z_7 : Nat → Nat → Int32) => bd (qX11_isWrong z_7) fun r_8 => if r_8 = 0 then (qX11_outletLine_L58   (fun (z_11 : Nat → Nat → Int32) => bd (qX11_token z_11) fun z_14 => bd2 (qX11_figure z_14 0 999) fun r_15 z_16 => gd (vp_in (4 * (z_14 30 0)) 48) (bs (va_up z_16 18 (upd (z_16 18) (4 * (z_14 30 0)).toNatClampNeg r_15)) fun z_17 => gd (vp_in (4 * (z_14 30 0)) 48) (bd2 (qX11_figure z_17 ((z_17 18) (4 * (z_14 30 0)).toNatClampNeg) 1999) fun r_18 z_19 => gd (vp_in ((4 * (z_14 30 0)) + 1) 48) (bs (va_up z_19 18 (upd (z_19 18) ((4 * (z_14 30 0)) + 1).toNatClampNeg r_18)) fun z_20 => gd (vp_in (4 * (z_14 30 0)) 48) (gd (vp_in ((4 * (z_14 30 0)) + 1) 48) (bd2 (qX11_figure z_20 ((z_20 18) (4 * (z_14 30 0)).toNatClampNeg) ((z_20 18) ((4 * (z_14 30 0)) + 1).toNatClampNeg)) fun r_21 z_22 => gd (vp_in ((4 * (z_14 30 0)) + 2) 48) (bs (va_up z_22 18 (upd (z_22 18) ((4 * (z_14 30 0)) + 2).toNatClampNeg r_21)) fun z_23 => bd2 (qX11_figure z_23 1 20) fun r_24 z_25 => gd (vp_in ((4 * (z_14 30 0)) + 3) 48) (bs (va_up z_25 18 (upd (z_25 18) ((4 * (z_14 30 0)) + 3).toNatClampNeg r_24)) fun z_26 => bd (qX11_at (z_26 30 0) 0) fun r_27 => bd2 (qX11_figure z_26 0 9) fun r_28 z_29 => gd (vp_in r_27 411) (bs (va_up z_29 17 (upd (z_29 17) r_27.toNatClampNeg r_28)) fun z_30 => bd (qX11_semicolon z_30) fun z_31 => bd (qX11_at (z_31 30 0) 1) fun r_32 => gd (vp_in r_32 411) (bs (va_up z_31 17 (upd (z_31 17) r_32.toNatClampNeg 1)) fun z_33 => gd (vp_in (z_33 30 0) 12) (bs (va_up z_33 19 (upd (z_33 19) (z_33 30 0).toNatClampNeg 0)) fun z_34 => (bs (va_up z_34 30 (fun _ => ((z_34 30 0) + 1))) fun z_35 => some z_35)))))))))))) fu 0 z_7) else some z_7) fun j48 => if r_6 = 0 then if r_4 = (-1) then (j48 z_5) else bd (qX11_fails z_5 3) fun z_36 => (j48 z_36) else (j48 z_5)) else some z_1) fun j14 => if (z 30 0) = 12 then bd (qX11_fails z 5) fun z_37 => (j14 z_37) else (j14 z))

set_option maxHeartbeats 4000000 in
set_option maxRecDepth 100000 in
theorem mX11_outletLine (l : Launch) (D : va_G) (T : Nat → ClassId) (aM : Nat → Nat) (z : Nat → Nat → Int32) {zR : Nat → Nat → Int32} (hres : qX11_outletLine z = some (zR)) : Ct l yX11_outletLine (Cond.code yX11_outletLine cX11_outletLine 3 none :: kAll) rmX11_outletLine D T [.ref (aM 0)] (gM T aM z) none (gM T aM zR) := by
  refine Ct.of (cc := cX11_outletLine) (maxL := 3) (ret := none) (by decide +kernel) rfl (Nat.le_of_ble_eq_true rfl) ?_
  intro pr en st mi ag bl me co A ls F hr hlk hnm G hl
  have hl : lv_has ls 3 [(0, .ref (aM 0))] := hl
  have h := hres
  unfold qX11_outletLine at h
  refine lv_aload_n F.1 F.2.1 dX11_outletLine_0 rfl (lv_at hl 0 rfl) ?_
  refine k_get F G 0 rfl (N := 35) (Tt := TX11) rfl kf11 30 (by decide) kl762 (v := .int (z 30 0)) rfl dX11_outletLine_1 ?_
  refine lv_bipush (v := 12) F.1 F.2.1 dX11_outletLine_4 (by decide) ?_
  obtain ⟨j14, hj14, h⟩ := op_j h
  have J14 : ∀ (z_1 : Nat → Nat → Int32) (H : Heap) (locs : List Loc) (ls : Array Slot), j14 z_1 = some (zR) → Rg D T A st (gM T aM z_1) H locs → lv_has ls 3 [(0, .ref (aM 0))] → W pr l en rmX11_outletLine st mi ag bl me co H locs 0 0 (MQ bl (kQ none D (gM T aM zR) A) ag st rmX11_outletLine.cells rmX11_outletLine.slots A) (F0 mi 14 ls []) := by
    intro z_1 H locs ls h G hl
    rw [hj14] at h
    refine lv_aload_n F.1 F.2.1 dX11_outletLine_14 rfl (lv_at hl 0 rfl) ?_
    obtain ⟨r_2, hc, h⟩ := op_b h
    refine k_callV (rv := (some (.int r_2))) (Wc := (gM T aM z_1)) (W2 := (gM T aM z_1)) (Wn := (gM T aM z_1)) (As := []) (rest := []) F G (mX11_isWrong l D T aM z_1 hc) (cwV 0 F.2.2.2.2 (kg_c kl833 (kg_c kl834 (kg_c kl835 (kg_c kl788 (kg_c kl830 kg_a))))) rfl rfl rfl (by decide +kernel) ⟨Nat.le_of_ble_eq_true rfl, Nat.le_of_ble_eq_true rfl⟩) 0 rfl (q := (RX11, TX11, 35)) rfl rfl (kCut_F G) rfl hl.1 rfl (Nat.le_of_ble_eq_true rfl) dX11_outletLine_15 ⟨Nat.le_of_ble_eq_true rfl, Nat.le_of_ble_eq_true rfl⟩ (cN := 0) (sN := 0) ⟨rfl, rfl⟩ (fun H locs G => ?_)
    refine lv_if_eq (tgt := 22) F.1 F.2.1 dX11_outletLine_18 (by decide) (fun c => ?_) (fun c => ?_)
    · have h := op_t h c
      refine lv_aload_n F.1 F.2.1 dX11_outletLine_22 rfl (lv_at hl 0 rfl) ?_
      obtain ⟨z_3, hc, h⟩ := op_b h
      refine k_callV (rv := none) (Wc := (gM T aM z_1)) (W2 := (gM T aM z_3)) (Wn := (gM T aM z_3)) (As := []) (rest := []) F G (mX11_token l D T aM z_1 hc) (cwV 0 F.2.2.2.2 (kg_c kl843 (kg_c kl844 (kg_c kl845 (kg_c kl788 (kg_c kl819 kg_a))))) rfl rfl rfl (by decide +kernel) ⟨Nat.le_of_ble_eq_true rfl, Nat.le_of_ble_eq_true rfl⟩) 0 rfl (q := (RX11, TX11, 35)) rfl rfl (kCut_F G) rfl hl.1 rfl (Nat.le_of_ble_eq_true rfl) dX11_outletLine_23 ⟨Nat.le_of_ble_eq_true rfl, Nat.le_of_ble_eq_true rfl⟩ (cN := 0) (sN := 0) ⟨rfl, rfl⟩ (fun H locs G => ?_)
      refine lv_aload_n F.1 F.2.1 dX11_outletLine_26 rfl (lv_at hl 0 rfl) ?_
      obtain ⟨r_4, z_5, hc, h⟩ := op_b2 h
      refine k_callV (rv := (some (.int r_4))) (Wc := (gM T aM z_3)) (W2 := (gM T aM z_5)) (Wn := (gM T aM z_5)) (As := []) (rest := []) F G (mX11_looksUp l D T aM z_3 hc) (cwV 0 F.2.2.2.2 (kg_c kl861 (kg_c kl862 (kg_c kl863 (kg_c kl788 (kg_c kl853 kg_a))))) rfl rfl rfl (by decide +kernel) ⟨Nat.le_of_ble_eq_true rfl, Nat.le_of_ble_eq_true rfl⟩) 0 rfl (q := (RX11, TX11, 35)) rfl rfl (kCut_F G) rfl hl.1 rfl (Nat.le_of_ble_eq_true rfl) dX11_outletLine_27 ⟨Nat.le_of_ble_eq_true rfl, Nat.le_of_ble_eq_true rfl⟩ (cN := 0) (sN := 0) ⟨rfl, rfl⟩ (fun H locs G => ?_)
      refine lv_istore_n (lv' := [(1, .int r_4), (0, .ref (aM 0))]) F.1 F.2.1 dX11_outletLine_30 rfl hl (by decide) rfl (fun ls hl => ?_)
      refine lv_aload_n F.1 F.2.1 dX11_outletLine_31 rfl (lv_at hl 1 rfl) ?_
      obtain ⟨r_6, hc, h⟩ := op_b h
      refine k_callV (rv := (some (.int r_6))) (Wc := (gM T aM z_5)) (W2 := (gM T aM z_5)) (Wn := (gM T aM z_5)) (As := []) (rest := []) F G (mX11_isWrong l D T aM z_5 hc) (cwV 0 F.2.2.2.2 (kg_c kl833 (kg_c kl834 (kg_c kl835 (kg_c kl788 (kg_c kl830 kg_a))))) rfl rfl rfl (by decide +kernel) ⟨Nat.le_of_ble_eq_true rfl, Nat.le_of_ble_eq_true rfl⟩) 0 rfl (q := (RX11, TX11, 35)) rfl rfl (kCut_F G) rfl hl.1 rfl (Nat.le_of_ble_eq_true rfl) dX11_outletLine_32 ⟨Nat.le_of_ble_eq_true rfl, Nat.le_of_ble_eq_true rfl⟩ (cN := 0) (sN := 0) ⟨rfl, rfl⟩ (fun H locs G => ?_)
      obtain ⟨j48, hj48, h⟩ := op_j h
      have J48 : ∀ (z_7 : Nat → Nat → Int32) (H : Heap) (locs : List Loc) (ls : Array Slot), j48 z_7 = some (zR) → Rg D T A st (gM T aM z_7) H locs → lv_has ls 3 [(0, .ref (aM 0))] → W pr l en rmX11_outletLine st mi ag bl me co H locs 0 0 (MQ bl (kQ none D (gM T aM zR) A) ag st rmX11_outletLine.cells rmX11_outletLine.slots A) (F0 mi 48 ls []) := by
        intro z_7 H locs ls h G hl
        rw [hj48] at h
        refine lv_aload_n F.1 F.2.1 dX11_outletLine_48 rfl (lv_at hl 0 rfl) ?_
        obtain ⟨r_8, hc, h⟩ := op_b h
        refine k_callV (rv := (some (.int r_8))) (Wc := (gM T aM z_7)) (W2 := (gM T aM z_7)) (Wn := (gM T aM z_7)) (As := []) (rest := []) F G (mX11_isWrong l D T aM z_7 hc) (cwV 0 F.2.2.2.2 (kg_c kl833 (kg_c kl834 (kg_c kl835 (kg_c kl788 (kg_c kl830 kg_a))))) rfl rfl rfl (by decide +kernel) ⟨Nat.le_of_ble_eq_true rfl, Nat.le_of_ble_eq_true rfl⟩) 0 rfl (q := (RX11, TX11, 35)) rfl rfl (kCut_F G) rfl hl.1 rfl (Nat.le_of_ble_eq_true rfl) dX11_outletLine_49 ⟨Nat.le_of_ble_eq_true rfl, Nat.le_of_ble_eq_true rfl⟩ (cN := 0) (sN := 0) ⟨rfl, rfl⟩ (fun H locs G => ?_)
        refine lv_if_eq (tgt := 56) F.1 F.2.1 dX11_outletLine_52 (by decide) (fun c => ?_) (fun c => ?_)
        · have h := op_t h c
          refine lv_iconst (v := 0) F.1 F.2.1 dX11_outletLine_56 (by decide) ?_
          refine lv_istore_n (lv' := [(2, .int 0), (0, .ref (aM 0))]) F.1 F.2.1 dX11_outletLine_57 rfl hl (by decide) rfl (fun ls hl => ?_)
          have L58 : ∀ (K : (Nat → Nat → Int32) → Option ((Nat → Nat → Int32))) (hK : ∀ (z_11 : Nat → Nat → Int32) (H : Heap) (locs : List Loc) (ls : Array Slot), K z_11 = some (zR) → Rg D T A st (gM T aM z_11) H locs → lv_has ls 3 [(0, .ref (aM 0))] → W pr l en rmX11_outletLine st mi ag bl me co H locs 0 0 (MQ bl (kQ none D (gM T aM zR) A) ag st rmX11_outletLine.cells rmX11_outletLine.slots A) (F0 mi 112 ls [])) (n : Nat) (x2_9 : Int32) (z_10 : Nat → Nat → Int32) (H : Heap) (locs : List Loc) (ls : Array Slot), qX11_outletLine_L58 K n x2_9 z_10 = some (zR) → Rg D T A st (gM T aM z_10) H locs → lv_has ls 3 [(0, .ref (aM 0)), (2, .int x2_9)] → W pr l en rmX11_outletLine st mi ag bl me co H locs 0 0 (MQ bl (kQ none D (gM T aM zR) A) ag st rmX11_outletLine.cells rmX11_outletLine.slots A) (F0 mi 58 ls []) := by
            intro K hK n
            induction n with
            | zero => intro x2_9 z_10 H locs ls h; exact op_n h
            | succ n ih =>
              intro x2_9 z_10 H locs ls h G hl
              rw [qX11_outletLine_L58] at h
              refine lv_iload_n F.1 F.2.1 dX11_outletLine_58 rfl (lv_at hl 1 rfl) ?_
              refine lv_bipush (v := 8) F.1 F.2.1 dX11_outletLine_59 (by decide) ?_
              refine lv_icmp_ge (tgt := 112) F.1 F.2.1 dX11_outletLine_61 (by decide) (fun c => ?_) (fun c => ?_)
              · have h := op_t h c
                exact hK z_10 _ _ _ h G (lv_sub hl [0] rfl)
              · have h := op_f h c
                refine lv_aload_n F.1 F.2.1 dX11_outletLine_64 rfl (lv_at hl 0 rfl) ?_
                refine k_get F G 0 rfl (N := 35) (Tt := TX11) rfl kf11 22 (by decide) kl782 (v := .ref (aM 17)) rfl dX11_outletLine_65 ?_
                refine lv_bipush (v := 8) F.1 F.2.1 dX11_outletLine_68 (by decide) ?_
                refine lv_aload_n F.1 F.2.1 dX11_outletLine_70 rfl (lv_at hl 0 rfl) ?_
                refine k_get F G 0 rfl (N := 35) (Tt := TX11) rfl kf11 30 (by decide) kl762 (v := .int (z_10 30 0)) rfl dX11_outletLine_71 ?_
                refine lv_imul F.1 F.2.1 dX11_outletLine_74 ?_
                refine lv_iload_n F.1 F.2.1 dX11_outletLine_75 rfl (lv_at hl 1 rfl) ?_
                refine lv_iadd F.1 F.2.1 dX11_outletLine_76 ?_
                refine lv_aload_n F.1 F.2.1 dX11_outletLine_77 rfl (lv_at hl 0 rfl) ?_
                refine k_get F G 0 rfl (N := 35) (Tt := TX11) rfl kf11 26 (by decide) kl821 (v := .int (z_10 26 0)) rfl dX11_outletLine_78 ?_
                refine lv_iload_n F.1 F.2.1 dX11_outletLine_81 rfl (lv_at hl 1 rfl) ?_
                refine lv_iadd F.1 F.2.1 dX11_outletLine_82 ?_
                refine lv_aload_n F.1 F.2.1 dX11_outletLine_83 rfl (lv_at hl 0 rfl) ?_
                refine k_get F G 0 rfl (N := 35) (Tt := TX11) rfl kf11 25 (by decide) kl820 (v := .int (z_10 25 0)) rfl dX11_outletLine_84 ?_
                obtain ⟨j105, hj105, h⟩ := op_j h
                have J105 : ∀ (y_12 : Int32) (H : Heap) (locs : List Loc) (ls : Array Slot), j105 y_12 = some (zR) → Rg D T A st (gM T aM z_10) H locs → lv_has ls 3 [(0, .ref (aM 0)), (2, .int x2_9)] → W pr l en rmX11_outletLine st mi ag bl me co H locs 0 0 (MQ bl (kQ none D (gM T aM zR) A) ag st rmX11_outletLine.cells rmX11_outletLine.slots A) (F0 mi 105 ls [.int y_12, .int ((8 * (z_10 30 0)) + x2_9), .ref (aM 17)]) := by
                  intro y_12 H locs ls h G hl
                  rw [hj105] at h
                  obtain ⟨c, h⟩ := op_g h
                  obtain ⟨z_13, e9, h⟩ := op_st h
                  refine k_iast F G 17 rfl c dX11_outletLine_105 (Wn := (gM T aM z_13)) (by subst e9; rfl) (fun H locs G => ?_)
                  clear e9
                  refine lv_iinc (v := (x2_9 + 1)) (lv' := [(2, .int (x2_9 + 1)), (0, .ref (aM 0))]) F.1 F.2.1 dX11_outletLine_106 hl (k := 1) rfl rfl (by decide) rfl (fun ls hl => ?_)
                  refine lv_goto (tgt := 58) F.1 F.2.1 dX11_outletLine_109 (by decide) ?_
                  exact ih (x2_9 + 1) z_13 _ _ _ h G (lv_sub hl [1, 0] rfl)
                clear hj105
                refine lv_icmp_ge (tgt := 104) F.1 F.2.1 dX11_outletLine_87 (by decide) (fun c => ?_) (fun c => ?_)
                · have h := op_t h c
                  refine lv_iconst (v := 0) F.1 F.2.1 dX11_outletLine_104 (by decide) ?_
                  exact J105 0 _ _ _ h G hl
                · have h := op_f h c
                  refine lv_aload_n F.1 F.2.1 dX11_outletLine_90 rfl (lv_at hl 0 rfl) ?_
                  refine k_get F G 0 rfl (N := 35) (Tt := TX11) rfl kf11 16 (by decide) kl795 (v := .ref (aM 11)) rfl dX11_outletLine_91 ?_
                  refine lv_aload_n F.1 F.2.1 dX11_outletLine_94 rfl (lv_at hl 0 rfl) ?_
                  refine k_get F G 0 rfl (N := 35) (Tt := TX11) rfl kf11 26 (by decide) kl821 (v := .int (z_10 26 0)) rfl dX11_outletLine_95 ?_
                  refine lv_iload_n F.1 F.2.1 dX11_outletLine_98 rfl (lv_at hl 1 rfl) ?_
                  refine lv_iadd F.1 F.2.1 dX11_outletLine_99 ?_
                  obtain ⟨c, h⟩ := op_g h
                  refine k_iald F G 11 rfl c dX11_outletLine_100 ?_
                  refine lv_goto (tgt := 105) F.1 F.2.1 dX11_outletLine_101 (by decide) ?_
                  exact J105 ((z_10 16) ((z_10 26 0) + x2_9).toNatClampNeg) _ _ _ h G hl
          refine L58   _ (fun z_11 H locs ls h G hl => ?_) fu 0 z_7 _ _ _ h G (lv_sub hl [1, 0] rfl)
          clear L58
          refine lv_aload_n F.1 F.2.1 dX11_outletLine_112 rfl (lv_at hl 0 rfl) ?_
          obtain ⟨z_14, hc, h⟩ := op_b h
          refine k_callV (rv := none) (Wc := (gM T aM z_11)) (W2 := (gM T aM z_14)) (Wn := (gM T aM z_14)) (As := []) (rest := []) F G (mX11_token l D T aM z_11 hc) (cwV 0 F.2.2.2.2 (kg_c kl843 (kg_c kl844 (kg_c kl845 (kg_c kl788 (kg_c kl819 kg_a))))) rfl rfl rfl (by decide +kernel) ⟨Nat.le_of_ble_eq_true rfl, Nat.le_of_ble_eq_true rfl⟩) 0 rfl (q := (RX11, TX11, 35)) rfl rfl (kCut_F G) rfl hl.1 rfl (Nat.le_of_ble_eq_true rfl) dX11_outletLine_113 ⟨Nat.le_of_ble_eq_true rfl, Nat.le_of_ble_eq_true rfl⟩ (cN := 0) (sN := 0) ⟨rfl, rfl⟩ (fun H locs G => ?_)
          refine lv_iconst (v := 4) F.1 F.2.1 dX11_outletLine_116 (by decide) ?_
          refine lv_aload_n F.1 F.2.1 dX11_outletLine_117 rfl (lv_at hl 0 rfl) ?_
          refine k_get F G 0 rfl (N := 35) (Tt := TX11) rfl kf11 30 (by decide) kl762 (v := .int (z_14 30 0)) rfl dX11_outletLine_118 ?_
          refine lv_imul F.1 F.2.1 dX11_outletLine_121 ?_
          refine lv_istore_n (lv' := [(2, .int (4 * (z_14 30 0))), (0, .ref (aM 0))]) F.1 F.2.1 dX11_outletLine_122 rfl hl (by decide) rfl (fun ls hl => ?_)
          refine lv_aload_n F.1 F.2.1 dX11_outletLine_123 rfl (lv_at hl 1 rfl) ?_
          refine k_get F G 0 rfl (N := 35) (Tt := TX11) rfl kf11 18 (by decide) kl774 (v := .ref (aM 13)) rfl dX11_outletLine_124 ?_
          refine lv_iload_n F.1 F.2.1 dX11_outletLine_127 rfl (lv_at hl 0 rfl) ?_
          refine lv_aload_n F.1 F.2.1 dX11_outletLine_128 rfl (lv_at hl 1 rfl) ?_
          refine lv_iconst (v := 0) F.1 F.2.1 dX11_outletLine_129 (by decide) ?_
          refine lv_sipush (v := 999) F.1 F.2.1 dX11_outletLine_130 (by decide) ?_
          obtain ⟨r_15, z_16, hc, h⟩ := op_b2 h
          refine k_callV (rv := (some (.int r_15))) (Wc := (gM T aM z_14)) (W2 := (gM T aM z_16)) (Wn := (gM T aM z_16)) (As := [.int 0, .int 999]) (rest := [.int (4 * (z_14 30 0)), .ref (aM 13)]) F G (mX11_figure l D T aM z_14 0 999 hc) (cwV 2 F.2.2.2.2 (kg_c kl864 (kg_c kl865 (kg_c kl866 (kg_c kl788 (kg_c kl850 kg_a))))) rfl rfl rfl (by decide +kernel) ⟨Nat.le_of_ble_eq_true rfl, Nat.le_of_ble_eq_true rfl⟩) 0 rfl (q := (RX11, TX11, 35)) rfl rfl (kCut_F G) rfl hl.1 rfl (Nat.le_of_ble_eq_true rfl) dX11_outletLine_133 ⟨Nat.le_of_ble_eq_true rfl, Nat.le_of_ble_eq_true rfl⟩ (cN := 0) (sN := 0) ⟨rfl, rfl⟩ (fun H locs G => ?_)
          obtain ⟨c, h⟩ := op_g h
          obtain ⟨z_17, e9, h⟩ := op_st h
          refine k_iast F G 13 rfl c dX11_outletLine_136 (Wn := (gM T aM z_17)) (by subst e9; rfl) (fun H locs G => ?_)
          clear e9
          refine lv_aload_n F.1 F.2.1 dX11_outletLine_137 rfl (lv_at hl 1 rfl) ?_
          refine k_get F G 0 rfl (N := 35) (Tt := TX11) rfl kf11 18 (by decide) kl774 (v := .ref (aM 13)) rfl dX11_outletLine_138 ?_
          refine lv_iload_n F.1 F.2.1 dX11_outletLine_141 rfl (lv_at hl 0 rfl) ?_
          refine lv_iconst (v := 1) F.1 F.2.1 dX11_outletLine_142 (by decide) ?_
          refine lv_iadd F.1 F.2.1 dX11_outletLine_143 ?_
          refine lv_aload_n F.1 F.2.1 dX11_outletLine_144 rfl (lv_at hl 1 rfl) ?_
          refine lv_aload_n F.1 F.2.1 dX11_outletLine_145 rfl (lv_at hl 1 rfl) ?_
          refine k_get F G 0 rfl (N := 35) (Tt := TX11) rfl kf11 18 (by decide) kl774 (v := .ref (aM 13)) rfl dX11_outletLine_146 ?_
          refine lv_iload_n F.1 F.2.1 dX11_outletLine_149 rfl (lv_at hl 0 rfl) ?_
          obtain ⟨c, h⟩ := op_g h
          refine k_iald F G 13 rfl c dX11_outletLine_150 ?_
          refine lv_sipush (v := 1999) F.1 F.2.1 dX11_outletLine_151 (by decide) ?_
          obtain ⟨r_18, z_19, hc, h⟩ := op_b2 h
          refine k_callV (rv := (some (.int r_18))) (Wc := (gM T aM z_17)) (W2 := (gM T aM z_19)) (Wn := (gM T aM z_19)) (As := [.int ((z_17 18) (4 * (z_14 30 0)).toNatClampNeg), .int 1999]) (rest := [.int ((4 * (z_14 30 0)) + 1), .ref (aM 13)]) F G (mX11_figure l D T aM z_17 ((z_17 18) (4 * (z_14 30 0)).toNatClampNeg) 1999 hc) (cwV 2 F.2.2.2.2 (kg_c kl864 (kg_c kl865 (kg_c kl866 (kg_c kl788 (kg_c kl850 kg_a))))) rfl rfl rfl (by decide +kernel) ⟨Nat.le_of_ble_eq_true rfl, Nat.le_of_ble_eq_true rfl⟩) 0 rfl (q := (RX11, TX11, 35)) rfl rfl (kCut_F G) rfl hl.1 rfl (Nat.le_of_ble_eq_true rfl) dX11_outletLine_154 ⟨Nat.le_of_ble_eq_true rfl, Nat.le_of_ble_eq_true rfl⟩ (cN := 0) (sN := 0) ⟨rfl, rfl⟩ (fun H locs G => ?_)
          obtain ⟨c, h⟩ := op_g h
          obtain ⟨z_20, e9, h⟩ := op_st h
          refine k_iast F G 13 rfl c dX11_outletLine_157 (Wn := (gM T aM z_20)) (by subst e9; rfl) (fun H locs G => ?_)
          clear e9
          refine lv_aload_n F.1 F.2.1 dX11_outletLine_158 rfl (lv_at hl 1 rfl) ?_
          refine k_get F G 0 rfl (N := 35) (Tt := TX11) rfl kf11 18 (by decide) kl774 (v := .ref (aM 13)) rfl dX11_outletLine_159 ?_
          refine lv_iload_n F.1 F.2.1 dX11_outletLine_162 rfl (lv_at hl 0 rfl) ?_
          refine lv_iconst (v := 2) F.1 F.2.1 dX11_outletLine_163 (by decide) ?_
          refine lv_iadd F.1 F.2.1 dX11_outletLine_164 ?_
          refine lv_aload_n F.1 F.2.1 dX11_outletLine_165 rfl (lv_at hl 1 rfl) ?_
          refine lv_aload_n F.1 F.2.1 dX11_outletLine_166 rfl (lv_at hl 1 rfl) ?_
          refine k_get F G 0 rfl (N := 35) (Tt := TX11) rfl kf11 18 (by decide) kl774 (v := .ref (aM 13)) rfl dX11_outletLine_167 ?_
          refine lv_iload_n F.1 F.2.1 dX11_outletLine_170 rfl (lv_at hl 0 rfl) ?_
          obtain ⟨c, h⟩ := op_g h
          refine k_iald F G 13 rfl c dX11_outletLine_171 ?_
          refine lv_aload_n F.1 F.2.1 dX11_outletLine_172 rfl (lv_at hl 1 rfl) ?_
          refine k_get F G 0 rfl (N := 35) (Tt := TX11) rfl kf11 18 (by decide) kl774 (v := .ref (aM 13)) rfl dX11_outletLine_173 ?_
          refine lv_iload_n F.1 F.2.1 dX11_outletLine_176 rfl (lv_at hl 0 rfl) ?_
          refine lv_iconst (v := 1) F.1 F.2.1 dX11_outletLine_177 (by decide) ?_
          refine lv_iadd F.1 F.2.1 dX11_outletLine_178 ?_
          obtain ⟨c, h⟩ := op_g h
          refine k_iald F G 13 rfl c dX11_outletLine_179 ?_
          obtain ⟨r_21, z_22, hc, h⟩ := op_b2 h
          refine k_callV (rv := (some (.int r_21))) (Wc := (gM T aM z_20)) (W2 := (gM T aM z_22)) (Wn := (gM T aM z_22)) (As := [.int ((z_20 18) (4 * (z_14 30 0)).toNatClampNeg), .int ((z_20 18) ((4 * (z_14 30 0)) + 1).toNatClampNeg)]) (rest := [.int ((4 * (z_14 30 0)) + 2), .ref (aM 13)]) F G (mX11_figure l D T aM z_20 ((z_20 18) (4 * (z_14 30 0)).toNatClampNeg) ((z_20 18) ((4 * (z_14 30 0)) + 1).toNatClampNeg) hc) (cwV 2 F.2.2.2.2 (kg_c kl864 (kg_c kl865 (kg_c kl866 (kg_c kl788 (kg_c kl850 kg_a))))) rfl rfl rfl (by decide +kernel) ⟨Nat.le_of_ble_eq_true rfl, Nat.le_of_ble_eq_true rfl⟩) 0 rfl (q := (RX11, TX11, 35)) rfl rfl (kCut_F G) rfl hl.1 rfl (Nat.le_of_ble_eq_true rfl) dX11_outletLine_180 ⟨Nat.le_of_ble_eq_true rfl, Nat.le_of_ble_eq_true rfl⟩ (cN := 0) (sN := 0) ⟨rfl, rfl⟩ (fun H locs G => ?_)
          obtain ⟨c, h⟩ := op_g h
          obtain ⟨z_23, e9, h⟩ := op_st h
          refine k_iast F G 13 rfl c dX11_outletLine_183 (Wn := (gM T aM z_23)) (by subst e9; rfl) (fun H locs G => ?_)
          clear e9
          refine lv_aload_n F.1 F.2.1 dX11_outletLine_184 rfl (lv_at hl 1 rfl) ?_
          refine k_get F G 0 rfl (N := 35) (Tt := TX11) rfl kf11 18 (by decide) kl774 (v := .ref (aM 13)) rfl dX11_outletLine_185 ?_
          refine lv_iload_n F.1 F.2.1 dX11_outletLine_188 rfl (lv_at hl 0 rfl) ?_
          refine lv_iconst (v := 3) F.1 F.2.1 dX11_outletLine_189 (by decide) ?_
          refine lv_iadd F.1 F.2.1 dX11_outletLine_190 ?_
          refine lv_aload_n F.1 F.2.1 dX11_outletLine_191 rfl (lv_at hl 1 rfl) ?_
          refine lv_iconst (v := 1) F.1 F.2.1 dX11_outletLine_192 (by decide) ?_
          refine lv_bipush (v := 20) F.1 F.2.1 dX11_outletLine_193 (by decide) ?_
          obtain ⟨r_24, z_25, hc, h⟩ := op_b2 h
          refine k_callV (rv := (some (.int r_24))) (Wc := (gM T aM z_23)) (W2 := (gM T aM z_25)) (Wn := (gM T aM z_25)) (As := [.int 1, .int 20]) (rest := [.int ((4 * (z_14 30 0)) + 3), .ref (aM 13)]) F G (mX11_figure l D T aM z_23 1 20 hc) (cwV 2 F.2.2.2.2 (kg_c kl864 (kg_c kl865 (kg_c kl866 (kg_c kl788 (kg_c kl850 kg_a))))) rfl rfl rfl (by decide +kernel) ⟨Nat.le_of_ble_eq_true rfl, Nat.le_of_ble_eq_true rfl⟩) 0 rfl (q := (RX11, TX11, 35)) rfl rfl (kCut_F G) rfl hl.1 rfl (Nat.le_of_ble_eq_true rfl) dX11_outletLine_195 ⟨Nat.le_of_ble_eq_true rfl, Nat.le_of_ble_eq_true rfl⟩ (cN := 0) (sN := 0) ⟨rfl, rfl⟩ (fun H locs G => ?_)
          obtain ⟨c, h⟩ := op_g h
          obtain ⟨z_26, e9, h⟩ := op_st h
          refine k_iast F G 13 rfl c dX11_outletLine_198 (Wn := (gM T aM z_26)) (by subst e9; rfl) (fun H locs G => ?_)
          clear e9
          refine lv_aload_n F.1 F.2.1 dX11_outletLine_199 rfl (lv_at hl 1 rfl) ?_
          refine k_get F G 0 rfl (N := 35) (Tt := TX11) rfl kf11 17 (by decide) kl761 (v := .ref (aM 12)) rfl dX11_outletLine_200 ?_
          refine lv_aload_n F.1 F.2.1 dX11_outletLine_203 rfl (lv_at hl 1 rfl) ?_
          refine k_get F G 0 rfl (N := 35) (Tt := TX11) rfl kf11 30 (by decide) kl762 (v := .int (z_26 30 0)) rfl dX11_outletLine_204 ?_
          refine lv_iconst (v := 0) F.1 F.2.1 dX11_outletLine_207 (by decide) ?_
          obtain ⟨r_27, hc, h⟩ := op_b h
          refine k_callS (rv := (some (.int r_27))) (Wc := ([] : va_W)) (W2 := ([] : va_W)) (Wn := (gM T aM z_26)) (As := [.int (z_26 30 0), .int 0]) (rest := [.ref (aM 12)]) F G (mX11_at l D T (z_26 30 0) 0 hc) (va_cwS 2 F.2.2.2.2 (kg_c kl786 (kg_c kl787 (kg_c kl788 (kg_c kl767 kg_a)))) rfl rfl rfl (by decide +kernel) ⟨Nat.le_of_ble_eq_true rfl, Nat.le_of_ble_eq_true rfl⟩) (kCut_0 G) rfl hl.1 rfl (Nat.le_of_ble_eq_true rfl) dX11_outletLine_208 ⟨Nat.le_of_ble_eq_true rfl, Nat.le_of_ble_eq_true rfl⟩ (cN := 0) (sN := 0) ⟨rfl, rfl⟩ (fun H locs G => ?_)
          refine lv_aload_n F.1 F.2.1 dX11_outletLine_211 rfl (lv_at hl 1 rfl) ?_
          refine lv_iconst (v := 0) F.1 F.2.1 dX11_outletLine_212 (by decide) ?_
          refine lv_bipush (v := 9) F.1 F.2.1 dX11_outletLine_213 (by decide) ?_
          obtain ⟨r_28, z_29, hc, h⟩ := op_b2 h
          refine k_callV (rv := (some (.int r_28))) (Wc := (gM T aM z_26)) (W2 := (gM T aM z_29)) (Wn := (gM T aM z_29)) (As := [.int 0, .int 9]) (rest := [.int r_27, .ref (aM 12)]) F G (mX11_figure l D T aM z_26 0 9 hc) (cwV 2 F.2.2.2.2 (kg_c kl864 (kg_c kl865 (kg_c kl866 (kg_c kl788 (kg_c kl850 kg_a))))) rfl rfl rfl (by decide +kernel) ⟨Nat.le_of_ble_eq_true rfl, Nat.le_of_ble_eq_true rfl⟩) 0 rfl (q := (RX11, TX11, 35)) rfl rfl (kCut_F G) rfl hl.1 rfl (Nat.le_of_ble_eq_true rfl) dX11_outletLine_215 ⟨Nat.le_of_ble_eq_true rfl, Nat.le_of_ble_eq_true rfl⟩ (cN := 0) (sN := 0) ⟨rfl, rfl⟩ (fun H locs G => ?_)
          obtain ⟨c, h⟩ := op_g h
          obtain ⟨z_30, e9, h⟩ := op_st h
          refine k_iast F G 12 rfl c dX11_outletLine_218 (Wn := (gM T aM z_30)) (by subst e9; rfl) (fun H locs G => ?_)
          clear e9
          refine lv_aload_n F.1 F.2.1 dX11_outletLine_219 rfl (lv_at hl 1 rfl) ?_
          obtain ⟨z_31, hc, h⟩ := op_b h
          refine k_callV (rv := none) (Wc := (gM T aM z_30)) (W2 := (gM T aM z_31)) (Wn := (gM T aM z_31)) (As := []) (rest := []) F G (mX11_semicolon l D T aM z_30 hc) (cwV 0 F.2.2.2.2 (kg_c kl867 (kg_c kl868 (kg_c kl869 (kg_c kl788 (kg_c kl846 kg_a))))) rfl rfl rfl (by decide +kernel) ⟨Nat.le_of_ble_eq_true rfl, Nat.le_of_ble_eq_true rfl⟩) 0 rfl (q := (RX11, TX11, 35)) rfl rfl (kCut_F G) rfl hl.1 rfl (Nat.le_of_ble_eq_true rfl) dX11_outletLine_220 ⟨Nat.le_of_ble_eq_true rfl, Nat.le_of_ble_eq_true rfl⟩ (cN := 0) (sN := 0) ⟨rfl, rfl⟩ (fun H locs G => ?_)
          refine lv_aload_n F.1 F.2.1 dX11_outletLine_223 rfl (lv_at hl 1 rfl) ?_
          refine k_get F G 0 rfl (N := 35) (Tt := TX11) rfl kf11 17 (by decide) kl761 (v := .ref (aM 12)) rfl dX11_outletLine_224 ?_
          refine lv_aload_n F.1 F.2.1 dX11_outletLine_227 rfl (lv_at hl 1 rfl) ?_
          refine k_get F G 0 rfl (N := 35) (Tt := TX11) rfl kf11 30 (by decide) kl762 (v := .int (z_31 30 0)) rfl dX11_outletLine_228 ?_
          refine lv_iconst (v := 1) F.1 F.2.1 dX11_outletLine_231 (by decide) ?_
          obtain ⟨r_32, hc, h⟩ := op_b h
          refine k_callS (rv := (some (.int r_32))) (Wc := ([] : va_W)) (W2 := ([] : va_W)) (Wn := (gM T aM z_31)) (As := [.int (z_31 30 0), .int 1]) (rest := [.ref (aM 12)]) F G (mX11_at l D T (z_31 30 0) 1 hc) (va_cwS 2 F.2.2.2.2 (kg_c kl786 (kg_c kl787 (kg_c kl788 (kg_c kl767 kg_a)))) rfl rfl rfl (by decide +kernel) ⟨Nat.le_of_ble_eq_true rfl, Nat.le_of_ble_eq_true rfl⟩) (kCut_0 G) rfl hl.1 rfl (Nat.le_of_ble_eq_true rfl) dX11_outletLine_232 ⟨Nat.le_of_ble_eq_true rfl, Nat.le_of_ble_eq_true rfl⟩ (cN := 0) (sN := 0) ⟨rfl, rfl⟩ (fun H locs G => ?_)
          refine lv_iconst (v := 1) F.1 F.2.1 dX11_outletLine_235 (by decide) ?_
          obtain ⟨c, h⟩ := op_g h
          obtain ⟨z_33, e9, h⟩ := op_st h
          refine k_iast F G 12 rfl c dX11_outletLine_236 (Wn := (gM T aM z_33)) (by subst e9; rfl) (fun H locs G => ?_)
          clear e9
          refine lv_aload_n F.1 F.2.1 dX11_outletLine_237 rfl (lv_at hl 1 rfl) ?_
          refine k_get F G 0 rfl (N := 35) (Tt := TX11) rfl kf11 19 (by decide) kl776 (v := .ref (aM 14)) rfl dX11_outletLine_238 ?_
          refine lv_aload_n F.1 F.2.1 dX11_outletLine_241 rfl (lv_at hl 1 rfl) ?_
          refine k_get F G 0 rfl (N := 35) (Tt := TX11) rfl kf11 30 (by decide) kl762 (v := .int (z_33 30 0)) rfl dX11_outletLine_242 ?_
          refine lv_iconst (v := 0) F.1 F.2.1 dX11_outletLine_245 (by decide) ?_
          obtain ⟨c, h⟩ := op_g h
          obtain ⟨z_34, e9, h⟩ := op_st h
          refine k_iast F G 14 rfl c dX11_outletLine_246 (Wn := (gM T aM z_34)) (by subst e9; rfl) (fun H locs G => ?_)
          clear e9
          refine lv_aload_n F.1 F.2.1 dX11_outletLine_247 rfl (lv_at hl 1 rfl) ?_
          refine lv_dup F.1 F.2.1 dX11_outletLine_248 rfl ?_
          refine k_get F G 0 rfl (N := 35) (Tt := TX11) rfl kf11 30 (by decide) kl762 (v := .int (z_34 30 0)) rfl dX11_outletLine_249 ?_
          refine lv_iconst (v := 1) F.1 F.2.1 dX11_outletLine_252 (by decide) ?_
          refine lv_iadd F.1 F.2.1 dX11_outletLine_253 ?_
          obtain ⟨z_35, e9, h⟩ := op_st h
          refine k_put F G 0 rfl (N := 35) (Tt := TX11) rfl kf11 tyX11_ok nmX11 30 (by decide) kl762 rfl (v := .int ((z_34 30 0) + 1)) rfl rfl (Nat.le_of_ble_eq_true rfl) dX11_outletLine_254 (Wn := (gM T aM z_35)) (by subst e9; rfl) (fun H locs G => ?_)
          clear e9
          obtain rfl := op_1 h
          exact k_vret F hr hlk G dX11_outletLine_257
        · have h := op_f h c
          obtain rfl := op_1 h
          exact k_vret F hr hlk G dX11_outletLine_55
      clear hj48
      refine lv_if_ne (tgt := 48) F.1 F.2.1 dX11_outletLine_35 (by decide) (fun c => ?_) (fun c => ?_)
      · have h := op_f h c
        exact J48 z_5 _ _ _ h G (lv_sub hl [1] rfl)
      · have h := op_t h c
        refine lv_iload_n F.1 F.2.1 dX11_outletLine_38 rfl (lv_at hl 0 rfl) ?_
        refine lv_iconst (v := (-1)) F.1 F.2.1 dX11_outletLine_39 (by decide) ?_
        refine lv_icmp_eq (tgt := 48) F.1 F.2.1 dX11_outletLine_40 (by decide) (fun c => ?_) (fun c => ?_)
        · have h := op_t h c
          exact J48 z_5 _ _ _ h G (lv_sub hl [1] rfl)
        · have h := op_f h c
          refine lv_aload_n F.1 F.2.1 dX11_outletLine_43 rfl (lv_at hl 1 rfl) ?_
          refine lv_iconst (v := 3) F.1 F.2.1 dX11_outletLine_44 (by decide) ?_
          obtain ⟨z_36, hc, h⟩ := op_b h
          refine k_callV (rv := none) (Wc := (gM T aM z_5)) (W2 := (gM T aM z_36)) (Wn := (gM T aM z_36)) (As := [.int 3]) (rest := []) F G (mX11_fails l D T aM z_5 3 hc) (cwV 1 F.2.2.2.2 (kg_c kl840 (kg_c kl841 (kg_c kl842 (kg_c kl788 (kg_c kl832 kg_a))))) rfl rfl rfl (by decide +kernel) ⟨Nat.le_of_ble_eq_true rfl, Nat.le_of_ble_eq_true rfl⟩) 0 rfl (q := (RX11, TX11, 35)) rfl rfl (kCut_F G) rfl hl.1 rfl (Nat.le_of_ble_eq_true rfl) dX11_outletLine_45 ⟨Nat.le_of_ble_eq_true rfl, Nat.le_of_ble_eq_true rfl⟩ (cN := 0) (sN := 0) ⟨rfl, rfl⟩ (fun H locs G => ?_)
          exact J48 z_36 _ _ _ h G (lv_sub hl [1] rfl)
    · have h := op_f h c
      obtain rfl := op_1 h
      exact k_vret F hr hlk G dX11_outletLine_21
  clear hj14
  refine lv_icmp_ne (tgt := 14) F.1 F.2.1 dX11_outletLine_6 (by decide) (fun c => ?_) (fun c => ?_)
  · have h := op_f h c
    exact J14 z _ _ _ h G hl
  · have h := op_t h c
    refine lv_aload_n F.1 F.2.1 dX11_outletLine_9 rfl (lv_at hl 0 rfl) ?_
    refine lv_iconst (v := 5) F.1 F.2.1 dX11_outletLine_10 (by decide) ?_
    obtain ⟨z_37, hc, h⟩ := op_b h
    refine k_callV (rv := none) (Wc := (gM T aM z)) (W2 := (gM T aM z_37)) (Wn := (gM T aM z_37)) (As := [.int 5]) (rest := []) F G (mX11_fails l D T aM z 5 hc) (cwV 1 F.2.2.2.2 (kg_c kl840 (kg_c kl841 (kg_c kl842 (kg_c kl788 (kg_c kl832 kg_a))))) rfl rfl rfl (by decide +kernel) ⟨Nat.le_of_ble_eq_true rfl, Nat.le_of_ble_eq_true rfl⟩) 0 rfl (q := (RX11, TX11, 35)) rfl rfl (kCut_F G) rfl hl.1 rfl (Nat.le_of_ble_eq_true rfl) dX11_outletLine_11 ⟨Nat.le_of_ble_eq_true rfl, Nat.le_of_ble_eq_true rfl⟩ (cN := 0) (sN := 0) ⟨rfl, rfl⟩ (fun H locs G => ?_)
    exact J14 z_37 _ _ _ h G hl
abbrev rmX11_needLine : Room := ({ frames := 4, cells := 0, slots := 0, locals := 83 } : Room)
noncomputable def qX11_needLine (z : Nat → Nat → Int32) : Option ((Nat → Nat → Int32)) :=
  (jn (fun (z_1 : Nat → Nat → Int32) => bd (qX11_isWrong z_1) fun r_2 => if r_2 = 0 then bd (qX11_token z_1) fun z_3 => bd2 (qX11_looksUp z_3) fun r_4 z_5 => bd (qX11_isWrong z_5) fun r_6 => (jn (fun (z_7 : Nat → Nat → Int32) => bd (qX11_isWrong z_7) fun r_8 => (jn (fun (z_9 : Nat → Nat → Int32) => bd2 (qX11_looksUp z_9) fun r_10 z_11 => bd (qX11_isWrong z_11) fun r_12 => if r_12 = 0 then (jn (fun (z_13 : Nat → Nat → Int32) => bd (qX11_isWrong z_13) fun r_14 => if r_14 = 0 then gd (vp_in r_4 12) (gd (vp_in r_4 12) (bs (va_up z_13 19 (upd (z_13 19) r_4.toNatClampNeg (((z_13 19) r_4.toNatClampNeg) ||| (1 <<< (r_10 &&& 31))))) fun z_15 => (bs (va_up z_15 31 (fun _ => ((z_15 31 0) + 1))) fun z_16 => bd (qX11_token z_16) fun z_17 => bd (qX11_semicolon z_17) fun z_18 => some z_18))) else some z_13) fun j109 => if r_10 = (-1) then bd (qX11_fails z_11 4) fun z_20 => (j109 z_20) else (jn (fun (_ : Unit) => bd (qX11_fails z_11 3) fun z_19 => (j109 z_19)) fun j104 => if r_4 = r_10 then (j104 ()) else gd (vp_in r_4 12) (if ((((z_11 19) r_4.toNatClampNeg) >>> (r_10 &&& 31)) &&& 1) = 1 then (j104 ()) else (j109 z_11)))) else some z_11) fun j59 => if r_8 = 0 then bd (qX11_token z_7) fun z_21 => (j59 z_21) else (j59 z_7))) fun j48 => if r_6 = 0 then if r_4 = (-1) then bd (qX11_fails z_5 4) fun z_22 => (j48 z_22) else (j48 z_5) else (j48 z_5)) else some z_1) fun j14 => if (z 31 0) = 16 then bd (qX11_fails z 5) fun z_23 => (j14 z_23) else (j14 z))

set_option maxHeartbeats 4000000 in
set_option maxRecDepth 100000 in
theorem mX11_needLine (l : Launch) (D : va_G) (T : Nat → ClassId) (aM : Nat → Nat) (z : Nat → Nat → Int32) {zR : Nat → Nat → Int32} (hres : qX11_needLine z = some (zR)) : Ct l yX11_needLine (Cond.code yX11_needLine cX11_needLine 3 none :: kAll) rmX11_needLine D T [.ref (aM 0)] (gM T aM z) none (gM T aM zR) := by
  refine Ct.of (cc := cX11_needLine) (maxL := 3) (ret := none) (by decide +kernel) rfl (Nat.le_of_ble_eq_true rfl) ?_
  intro pr en st mi ag bl me co A ls F hr hlk hnm G hl
  have hl : lv_has ls 3 [(0, .ref (aM 0))] := hl
  have h := hres
  unfold qX11_needLine at h
  refine lv_aload_n F.1 F.2.1 dX11_needLine_0 rfl (lv_at hl 0 rfl) ?_
  refine k_get F G 0 rfl (N := 35) (Tt := TX11) rfl kf11 31 (by decide) kl763 (v := .int (z 31 0)) rfl dX11_needLine_1 ?_
  refine lv_bipush (v := 16) F.1 F.2.1 dX11_needLine_4 (by decide) ?_
  obtain ⟨j14, hj14, h⟩ := op_j h
  have J14 : ∀ (z_1 : Nat → Nat → Int32) (H : Heap) (locs : List Loc) (ls : Array Slot), j14 z_1 = some (zR) → Rg D T A st (gM T aM z_1) H locs → lv_has ls 3 [(0, .ref (aM 0))] → W pr l en rmX11_needLine st mi ag bl me co H locs 0 0 (MQ bl (kQ none D (gM T aM zR) A) ag st rmX11_needLine.cells rmX11_needLine.slots A) (F0 mi 14 ls []) := by
    intro z_1 H locs ls h G hl
    rw [hj14] at h
    refine lv_aload_n F.1 F.2.1 dX11_needLine_14 rfl (lv_at hl 0 rfl) ?_
    obtain ⟨r_2, hc, h⟩ := op_b h
    refine k_callV (rv := (some (.int r_2))) (Wc := (gM T aM z_1)) (W2 := (gM T aM z_1)) (Wn := (gM T aM z_1)) (As := []) (rest := []) F G (mX11_isWrong l D T aM z_1 hc) (cwV 0 F.2.2.2.2 (kg_c kl833 (kg_c kl834 (kg_c kl835 (kg_c kl788 (kg_c kl830 kg_a))))) rfl rfl rfl (by decide +kernel) ⟨Nat.le_of_ble_eq_true rfl, Nat.le_of_ble_eq_true rfl⟩) 0 rfl (q := (RX11, TX11, 35)) rfl rfl (kCut_F G) rfl hl.1 rfl (Nat.le_of_ble_eq_true rfl) dX11_needLine_15 ⟨Nat.le_of_ble_eq_true rfl, Nat.le_of_ble_eq_true rfl⟩ (cN := 0) (sN := 0) ⟨rfl, rfl⟩ (fun H locs G => ?_)
    refine lv_if_eq (tgt := 22) F.1 F.2.1 dX11_needLine_18 (by decide) (fun c => ?_) (fun c => ?_)
    · have h := op_t h c
      refine lv_aload_n F.1 F.2.1 dX11_needLine_22 rfl (lv_at hl 0 rfl) ?_
      obtain ⟨z_3, hc, h⟩ := op_b h
      refine k_callV (rv := none) (Wc := (gM T aM z_1)) (W2 := (gM T aM z_3)) (Wn := (gM T aM z_3)) (As := []) (rest := []) F G (mX11_token l D T aM z_1 hc) (cwV 0 F.2.2.2.2 (kg_c kl843 (kg_c kl844 (kg_c kl845 (kg_c kl788 (kg_c kl819 kg_a))))) rfl rfl rfl (by decide +kernel) ⟨Nat.le_of_ble_eq_true rfl, Nat.le_of_ble_eq_true rfl⟩) 0 rfl (q := (RX11, TX11, 35)) rfl rfl (kCut_F G) rfl hl.1 rfl (Nat.le_of_ble_eq_true rfl) dX11_needLine_23 ⟨Nat.le_of_ble_eq_true rfl, Nat.le_of_ble_eq_true rfl⟩ (cN := 0) (sN := 0) ⟨rfl, rfl⟩ (fun H locs G => ?_)
      refine lv_aload_n F.1 F.2.1 dX11_needLine_26 rfl (lv_at hl 0 rfl) ?_
      obtain ⟨r_4, z_5, hc, h⟩ := op_b2 h
      refine k_callV (rv := (some (.int r_4))) (Wc := (gM T aM z_3)) (W2 := (gM T aM z_5)) (Wn := (gM T aM z_5)) (As := []) (rest := []) F G (mX11_looksUp l D T aM z_3 hc) (cwV 0 F.2.2.2.2 (kg_c kl861 (kg_c kl862 (kg_c kl863 (kg_c kl788 (kg_c kl853 kg_a))))) rfl rfl rfl (by decide +kernel) ⟨Nat.le_of_ble_eq_true rfl, Nat.le_of_ble_eq_true rfl⟩) 0 rfl (q := (RX11, TX11, 35)) rfl rfl (kCut_F G) rfl hl.1 rfl (Nat.le_of_ble_eq_true rfl) dX11_needLine_27 ⟨Nat.le_of_ble_eq_true rfl, Nat.le_of_ble_eq_true rfl⟩ (cN := 0) (sN := 0) ⟨rfl, rfl⟩ (fun H locs G => ?_)
      refine lv_istore_n (lv' := [(1, .int r_4), (0, .ref (aM 0))]) F.1 F.2.1 dX11_needLine_30 rfl hl (by decide) rfl (fun ls hl => ?_)
      refine lv_aload_n F.1 F.2.1 dX11_needLine_31 rfl (lv_at hl 1 rfl) ?_
      obtain ⟨r_6, hc, h⟩ := op_b h
      refine k_callV (rv := (some (.int r_6))) (Wc := (gM T aM z_5)) (W2 := (gM T aM z_5)) (Wn := (gM T aM z_5)) (As := []) (rest := []) F G (mX11_isWrong l D T aM z_5 hc) (cwV 0 F.2.2.2.2 (kg_c kl833 (kg_c kl834 (kg_c kl835 (kg_c kl788 (kg_c kl830 kg_a))))) rfl rfl rfl (by decide +kernel) ⟨Nat.le_of_ble_eq_true rfl, Nat.le_of_ble_eq_true rfl⟩) 0 rfl (q := (RX11, TX11, 35)) rfl rfl (kCut_F G) rfl hl.1 rfl (Nat.le_of_ble_eq_true rfl) dX11_needLine_32 ⟨Nat.le_of_ble_eq_true rfl, Nat.le_of_ble_eq_true rfl⟩ (cN := 0) (sN := 0) ⟨rfl, rfl⟩ (fun H locs G => ?_)
      obtain ⟨j48, hj48, h⟩ := op_j h
      have J48 : ∀ (z_7 : Nat → Nat → Int32) (H : Heap) (locs : List Loc) (ls : Array Slot), j48 z_7 = some (zR) → Rg D T A st (gM T aM z_7) H locs → lv_has ls 3 [(0, .ref (aM 0)), (1, .int r_4)] → W pr l en rmX11_needLine st mi ag bl me co H locs 0 0 (MQ bl (kQ none D (gM T aM zR) A) ag st rmX11_needLine.cells rmX11_needLine.slots A) (F0 mi 48 ls []) := by
        intro z_7 H locs ls h G hl
        rw [hj48] at h
        refine lv_aload_n F.1 F.2.1 dX11_needLine_48 rfl (lv_at hl 0 rfl) ?_
        obtain ⟨r_8, hc, h⟩ := op_b h
        refine k_callV (rv := (some (.int r_8))) (Wc := (gM T aM z_7)) (W2 := (gM T aM z_7)) (Wn := (gM T aM z_7)) (As := []) (rest := []) F G (mX11_isWrong l D T aM z_7 hc) (cwV 0 F.2.2.2.2 (kg_c kl833 (kg_c kl834 (kg_c kl835 (kg_c kl788 (kg_c kl830 kg_a))))) rfl rfl rfl (by decide +kernel) ⟨Nat.le_of_ble_eq_true rfl, Nat.le_of_ble_eq_true rfl⟩) 0 rfl (q := (RX11, TX11, 35)) rfl rfl (kCut_F G) rfl hl.1 rfl (Nat.le_of_ble_eq_true rfl) dX11_needLine_49 ⟨Nat.le_of_ble_eq_true rfl, Nat.le_of_ble_eq_true rfl⟩ (cN := 0) (sN := 0) ⟨rfl, rfl⟩ (fun H locs G => ?_)
        obtain ⟨j59, hj59, h⟩ := op_j h
        have J59 : ∀ (z_9 : Nat → Nat → Int32) (H : Heap) (locs : List Loc) (ls : Array Slot), j59 z_9 = some (zR) → Rg D T A st (gM T aM z_9) H locs → lv_has ls 3 [(0, .ref (aM 0)), (1, .int r_4)] → W pr l en rmX11_needLine st mi ag bl me co H locs 0 0 (MQ bl (kQ none D (gM T aM zR) A) ag st rmX11_needLine.cells rmX11_needLine.slots A) (F0 mi 59 ls []) := by
          intro z_9 H locs ls h G hl
          rw [hj59] at h
          refine lv_aload_n F.1 F.2.1 dX11_needLine_59 rfl (lv_at hl 0 rfl) ?_
          obtain ⟨r_10, z_11, hc, h⟩ := op_b2 h
          refine k_callV (rv := (some (.int r_10))) (Wc := (gM T aM z_9)) (W2 := (gM T aM z_11)) (Wn := (gM T aM z_11)) (As := []) (rest := []) F G (mX11_looksUp l D T aM z_9 hc) (cwV 0 F.2.2.2.2 (kg_c kl861 (kg_c kl862 (kg_c kl863 (kg_c kl788 (kg_c kl853 kg_a))))) rfl rfl rfl (by decide +kernel) ⟨Nat.le_of_ble_eq_true rfl, Nat.le_of_ble_eq_true rfl⟩) 0 rfl (q := (RX11, TX11, 35)) rfl rfl (kCut_F G) rfl hl.1 rfl (Nat.le_of_ble_eq_true rfl) dX11_needLine_60 ⟨Nat.le_of_ble_eq_true rfl, Nat.le_of_ble_eq_true rfl⟩ (cN := 0) (sN := 0) ⟨rfl, rfl⟩ (fun H locs G => ?_)
          refine lv_istore_n (lv' := [(2, .int r_10), (0, .ref (aM 0)), (1, .int r_4)]) F.1 F.2.1 dX11_needLine_63 rfl hl (by decide) rfl (fun ls hl => ?_)
          refine lv_aload_n F.1 F.2.1 dX11_needLine_64 rfl (lv_at hl 1 rfl) ?_
          obtain ⟨r_12, hc, h⟩ := op_b h
          refine k_callV (rv := (some (.int r_12))) (Wc := (gM T aM z_11)) (W2 := (gM T aM z_11)) (Wn := (gM T aM z_11)) (As := []) (rest := []) F G (mX11_isWrong l D T aM z_11 hc) (cwV 0 F.2.2.2.2 (kg_c kl833 (kg_c kl834 (kg_c kl835 (kg_c kl788 (kg_c kl830 kg_a))))) rfl rfl rfl (by decide +kernel) ⟨Nat.le_of_ble_eq_true rfl, Nat.le_of_ble_eq_true rfl⟩) 0 rfl (q := (RX11, TX11, 35)) rfl rfl (kCut_F G) rfl hl.1 rfl (Nat.le_of_ble_eq_true rfl) dX11_needLine_65 ⟨Nat.le_of_ble_eq_true rfl, Nat.le_of_ble_eq_true rfl⟩ (cN := 0) (sN := 0) ⟨rfl, rfl⟩ (fun H locs G => ?_)
          refine lv_if_eq (tgt := 72) F.1 F.2.1 dX11_needLine_68 (by decide) (fun c => ?_) (fun c => ?_)
          · have h := op_t h c
            refine lv_iload_n F.1 F.2.1 dX11_needLine_72 rfl (lv_at hl 0 rfl) ?_
            refine lv_iconst (v := (-1)) F.1 F.2.1 dX11_needLine_73 (by decide) ?_
            obtain ⟨j109, hj109, h⟩ := op_j h
            have J109 : ∀ (z_13 : Nat → Nat → Int32) (H : Heap) (locs : List Loc) (ls : Array Slot), j109 z_13 = some (zR) → Rg D T A st (gM T aM z_13) H locs → lv_has ls 3 [(0, .ref (aM 0)), (1, .int r_4), (2, .int r_10)] → W pr l en rmX11_needLine st mi ag bl me co H locs 0 0 (MQ bl (kQ none D (gM T aM zR) A) ag st rmX11_needLine.cells rmX11_needLine.slots A) (F0 mi 109 ls []) := by
              intro z_13 H locs ls h G hl
              rw [hj109] at h
              refine lv_aload_n F.1 F.2.1 dX11_needLine_109 rfl (lv_at hl 0 rfl) ?_
              obtain ⟨r_14, hc, h⟩ := op_b h
              refine k_callV (rv := (some (.int r_14))) (Wc := (gM T aM z_13)) (W2 := (gM T aM z_13)) (Wn := (gM T aM z_13)) (As := []) (rest := []) F G (mX11_isWrong l D T aM z_13 hc) (cwV 0 F.2.2.2.2 (kg_c kl833 (kg_c kl834 (kg_c kl835 (kg_c kl788 (kg_c kl830 kg_a))))) rfl rfl rfl (by decide +kernel) ⟨Nat.le_of_ble_eq_true rfl, Nat.le_of_ble_eq_true rfl⟩) 0 rfl (q := (RX11, TX11, 35)) rfl rfl (kCut_F G) rfl hl.1 rfl (Nat.le_of_ble_eq_true rfl) dX11_needLine_110 ⟨Nat.le_of_ble_eq_true rfl, Nat.le_of_ble_eq_true rfl⟩ (cN := 0) (sN := 0) ⟨rfl, rfl⟩ (fun H locs G => ?_)
              refine lv_if_eq (tgt := 117) F.1 F.2.1 dX11_needLine_113 (by decide) (fun c => ?_) (fun c => ?_)
              · have h := op_t h c
                refine lv_aload_n F.1 F.2.1 dX11_needLine_117 rfl (lv_at hl 0 rfl) ?_
                refine k_get F G 0 rfl (N := 35) (Tt := TX11) rfl kf11 19 (by decide) kl776 (v := .ref (aM 14)) rfl dX11_needLine_118 ?_
                refine lv_iload_n F.1 F.2.1 dX11_needLine_121 rfl (lv_at hl 1 rfl) ?_
                refine lv_dup2_11 F.1 F.2.1 dX11_needLine_122 rfl rfl ?_
                obtain ⟨c, h⟩ := op_g h
                refine k_iald F G 14 rfl c dX11_needLine_123 ?_
                refine lv_iconst (v := 1) F.1 F.2.1 dX11_needLine_124 (by decide) ?_
                refine lv_iload_n F.1 F.2.1 dX11_needLine_125 rfl (lv_at hl 2 rfl) ?_
                refine lv_ishl F.1 F.2.1 dX11_needLine_126 ?_
                refine lv_ior F.1 F.2.1 dX11_needLine_127 ?_
                obtain ⟨c, h⟩ := op_g h
                obtain ⟨z_15, e9, h⟩ := op_st h
                refine k_iast F G 14 rfl c dX11_needLine_128 (Wn := (gM T aM z_15)) (by subst e9; rfl) (fun H locs G => ?_)
                clear e9
                refine lv_aload_n F.1 F.2.1 dX11_needLine_129 rfl (lv_at hl 0 rfl) ?_
                refine lv_dup F.1 F.2.1 dX11_needLine_130 rfl ?_
                refine k_get F G 0 rfl (N := 35) (Tt := TX11) rfl kf11 31 (by decide) kl763 (v := .int (z_15 31 0)) rfl dX11_needLine_131 ?_
                refine lv_iconst (v := 1) F.1 F.2.1 dX11_needLine_134 (by decide) ?_
                refine lv_iadd F.1 F.2.1 dX11_needLine_135 ?_
                obtain ⟨z_16, e9, h⟩ := op_st h
                refine k_put F G 0 rfl (N := 35) (Tt := TX11) rfl kf11 tyX11_ok nmX11 31 (by decide) kl763 rfl (v := .int ((z_15 31 0) + 1)) rfl rfl (Nat.le_of_ble_eq_true rfl) dX11_needLine_136 (Wn := (gM T aM z_16)) (by subst e9; rfl) (fun H locs G => ?_)
                clear e9
                refine lv_aload_n F.1 F.2.1 dX11_needLine_139 rfl (lv_at hl 0 rfl) ?_
                obtain ⟨z_17, hc, h⟩ := op_b h
                refine k_callV (rv := none) (Wc := (gM T aM z_16)) (W2 := (gM T aM z_17)) (Wn := (gM T aM z_17)) (As := []) (rest := []) F G (mX11_token l D T aM z_16 hc) (cwV 0 F.2.2.2.2 (kg_c kl843 (kg_c kl844 (kg_c kl845 (kg_c kl788 (kg_c kl819 kg_a))))) rfl rfl rfl (by decide +kernel) ⟨Nat.le_of_ble_eq_true rfl, Nat.le_of_ble_eq_true rfl⟩) 0 rfl (q := (RX11, TX11, 35)) rfl rfl (kCut_F G) rfl hl.1 rfl (Nat.le_of_ble_eq_true rfl) dX11_needLine_140 ⟨Nat.le_of_ble_eq_true rfl, Nat.le_of_ble_eq_true rfl⟩ (cN := 0) (sN := 0) ⟨rfl, rfl⟩ (fun H locs G => ?_)
                refine lv_aload_n F.1 F.2.1 dX11_needLine_143 rfl (lv_at hl 0 rfl) ?_
                obtain ⟨z_18, hc, h⟩ := op_b h
                refine k_callV (rv := none) (Wc := (gM T aM z_17)) (W2 := (gM T aM z_18)) (Wn := (gM T aM z_18)) (As := []) (rest := []) F G (mX11_semicolon l D T aM z_17 hc) (cwV 0 F.2.2.2.2 (kg_c kl867 (kg_c kl868 (kg_c kl869 (kg_c kl788 (kg_c kl846 kg_a))))) rfl rfl rfl (by decide +kernel) ⟨Nat.le_of_ble_eq_true rfl, Nat.le_of_ble_eq_true rfl⟩) 0 rfl (q := (RX11, TX11, 35)) rfl rfl (kCut_F G) rfl hl.1 rfl (Nat.le_of_ble_eq_true rfl) dX11_needLine_144 ⟨Nat.le_of_ble_eq_true rfl, Nat.le_of_ble_eq_true rfl⟩ (cN := 0) (sN := 0) ⟨rfl, rfl⟩ (fun H locs G => ?_)
                obtain rfl := op_1 h
                exact k_vret F hr hlk G dX11_needLine_147
              · have h := op_f h c
                obtain rfl := op_1 h
                exact k_vret F hr hlk G dX11_needLine_116
            clear hj109
            refine lv_icmp_ne (tgt := 85) F.1 F.2.1 dX11_needLine_74 (by decide) (fun c => ?_) (fun c => ?_)
            · have h := op_f h c
              refine lv_iload_n F.1 F.2.1 dX11_needLine_85 rfl (lv_at hl 2 rfl) ?_
              refine lv_iload_n F.1 F.2.1 dX11_needLine_86 rfl (lv_at hl 0 rfl) ?_
              obtain ⟨j104, hj104, h⟩ := op_j h
              have J104 : ∀ (H : Heap) (locs : List Loc) (ls : Array Slot), j104 () = some (zR) → Rg D T A st (gM T aM z_11) H locs → lv_has ls 3 [(0, .ref (aM 0)), (1, .int r_4), (2, .int r_10)] → W pr l en rmX11_needLine st mi ag bl me co H locs 0 0 (MQ bl (kQ none D (gM T aM zR) A) ag st rmX11_needLine.cells rmX11_needLine.slots A) (F0 mi 104 ls []) := by
                intro H locs ls h G hl
                rw [hj104] at h
                refine lv_aload_n F.1 F.2.1 dX11_needLine_104 rfl (lv_at hl 0 rfl) ?_
                refine lv_iconst (v := 3) F.1 F.2.1 dX11_needLine_105 (by decide) ?_
                obtain ⟨z_19, hc, h⟩ := op_b h
                refine k_callV (rv := none) (Wc := (gM T aM z_11)) (W2 := (gM T aM z_19)) (Wn := (gM T aM z_19)) (As := [.int 3]) (rest := []) F G (mX11_fails l D T aM z_11 3 hc) (cwV 1 F.2.2.2.2 (kg_c kl840 (kg_c kl841 (kg_c kl842 (kg_c kl788 (kg_c kl832 kg_a))))) rfl rfl rfl (by decide +kernel) ⟨Nat.le_of_ble_eq_true rfl, Nat.le_of_ble_eq_true rfl⟩) 0 rfl (q := (RX11, TX11, 35)) rfl rfl (kCut_F G) rfl hl.1 rfl (Nat.le_of_ble_eq_true rfl) dX11_needLine_106 ⟨Nat.le_of_ble_eq_true rfl, Nat.le_of_ble_eq_true rfl⟩ (cN := 0) (sN := 0) ⟨rfl, rfl⟩ (fun H locs G => ?_)
                exact J109 z_19 _ _ _ h G hl
              clear hj104
              refine lv_icmp_eq (tgt := 104) F.1 F.2.1 dX11_needLine_87 (by decide) (fun c => ?_) (fun c => ?_)
              · have h := op_t h c
                exact J104 _ _ _ h G (lv_sub hl [1, 2, 0] rfl)
              · have h := op_f h c
                refine lv_aload_n F.1 F.2.1 dX11_needLine_90 rfl (lv_at hl 1 rfl) ?_
                refine k_get F G 0 rfl (N := 35) (Tt := TX11) rfl kf11 19 (by decide) kl776 (v := .ref (aM 14)) rfl dX11_needLine_91 ?_
                refine lv_iload_n F.1 F.2.1 dX11_needLine_94 rfl (lv_at hl 2 rfl) ?_
                obtain ⟨c, h⟩ := op_g h
                refine k_iald F G 14 rfl c dX11_needLine_95 ?_
                refine lv_iload_n F.1 F.2.1 dX11_needLine_96 rfl (lv_at hl 0 rfl) ?_
                refine lv_ishr F.1 F.2.1 dX11_needLine_97 ?_
                refine lv_iconst (v := 1) F.1 F.2.1 dX11_needLine_98 (by decide) ?_
                refine lv_iand F.1 F.2.1 dX11_needLine_99 ?_
                refine lv_iconst (v := 1) F.1 F.2.1 dX11_needLine_100 (by decide) ?_
                refine lv_icmp_ne (tgt := 109) F.1 F.2.1 dX11_needLine_101 (by decide) (fun c => ?_) (fun c => ?_)
                · have h := op_f h c
                  exact J109 z_11 _ _ _ h G (lv_sub hl [1, 2, 0] rfl)
                · have h := op_t h c
                  exact J104 _ _ _ h G (lv_sub hl [1, 2, 0] rfl)
            · have h := op_t h c
              refine lv_aload_n F.1 F.2.1 dX11_needLine_77 rfl (lv_at hl 1 rfl) ?_
              refine lv_iconst (v := 4) F.1 F.2.1 dX11_needLine_78 (by decide) ?_
              obtain ⟨z_20, hc, h⟩ := op_b h
              refine k_callV (rv := none) (Wc := (gM T aM z_11)) (W2 := (gM T aM z_20)) (Wn := (gM T aM z_20)) (As := [.int 4]) (rest := []) F G (mX11_fails l D T aM z_11 4 hc) (cwV 1 F.2.2.2.2 (kg_c kl840 (kg_c kl841 (kg_c kl842 (kg_c kl788 (kg_c kl832 kg_a))))) rfl rfl rfl (by decide +kernel) ⟨Nat.le_of_ble_eq_true rfl, Nat.le_of_ble_eq_true rfl⟩) 0 rfl (q := (RX11, TX11, 35)) rfl rfl (kCut_F G) rfl hl.1 rfl (Nat.le_of_ble_eq_true rfl) dX11_needLine_79 ⟨Nat.le_of_ble_eq_true rfl, Nat.le_of_ble_eq_true rfl⟩ (cN := 0) (sN := 0) ⟨rfl, rfl⟩ (fun H locs G => ?_)
              refine lv_goto (tgt := 109) F.1 F.2.1 dX11_needLine_82 (by decide) ?_
              exact J109 z_20 _ _ _ h G (lv_sub hl [1, 2, 0] rfl)
          · have h := op_f h c
            obtain rfl := op_1 h
            exact k_vret F hr hlk G dX11_needLine_71
        clear hj59
        refine lv_if_ne (tgt := 59) F.1 F.2.1 dX11_needLine_52 (by decide) (fun c => ?_) (fun c => ?_)
        · have h := op_f h c
          exact J59 z_7 _ _ _ h G hl
        · have h := op_t h c
          refine lv_aload_n F.1 F.2.1 dX11_needLine_55 rfl (lv_at hl 0 rfl) ?_
          obtain ⟨z_21, hc, h⟩ := op_b h
          refine k_callV (rv := none) (Wc := (gM T aM z_7)) (W2 := (gM T aM z_21)) (Wn := (gM T aM z_21)) (As := []) (rest := []) F G (mX11_token l D T aM z_7 hc) (cwV 0 F.2.2.2.2 (kg_c kl843 (kg_c kl844 (kg_c kl845 (kg_c kl788 (kg_c kl819 kg_a))))) rfl rfl rfl (by decide +kernel) ⟨Nat.le_of_ble_eq_true rfl, Nat.le_of_ble_eq_true rfl⟩) 0 rfl (q := (RX11, TX11, 35)) rfl rfl (kCut_F G) rfl hl.1 rfl (Nat.le_of_ble_eq_true rfl) dX11_needLine_56 ⟨Nat.le_of_ble_eq_true rfl, Nat.le_of_ble_eq_true rfl⟩ (cN := 0) (sN := 0) ⟨rfl, rfl⟩ (fun H locs G => ?_)
          exact J59 z_21 _ _ _ h G hl
      clear hj48
      refine lv_if_ne (tgt := 48) F.1 F.2.1 dX11_needLine_35 (by decide) (fun c => ?_) (fun c => ?_)
      · have h := op_f h c
        exact J48 z_5 _ _ _ h G (lv_sub hl [1, 0] rfl)
      · have h := op_t h c
        refine lv_iload_n F.1 F.2.1 dX11_needLine_38 rfl (lv_at hl 0 rfl) ?_
        refine lv_iconst (v := (-1)) F.1 F.2.1 dX11_needLine_39 (by decide) ?_
        refine lv_icmp_ne (tgt := 48) F.1 F.2.1 dX11_needLine_40 (by decide) (fun c => ?_) (fun c => ?_)
        · have h := op_f h c
          exact J48 z_5 _ _ _ h G (lv_sub hl [1, 0] rfl)
        · have h := op_t h c
          refine lv_aload_n F.1 F.2.1 dX11_needLine_43 rfl (lv_at hl 1 rfl) ?_
          refine lv_iconst (v := 4) F.1 F.2.1 dX11_needLine_44 (by decide) ?_
          obtain ⟨z_22, hc, h⟩ := op_b h
          refine k_callV (rv := none) (Wc := (gM T aM z_5)) (W2 := (gM T aM z_22)) (Wn := (gM T aM z_22)) (As := [.int 4]) (rest := []) F G (mX11_fails l D T aM z_5 4 hc) (cwV 1 F.2.2.2.2 (kg_c kl840 (kg_c kl841 (kg_c kl842 (kg_c kl788 (kg_c kl832 kg_a))))) rfl rfl rfl (by decide +kernel) ⟨Nat.le_of_ble_eq_true rfl, Nat.le_of_ble_eq_true rfl⟩) 0 rfl (q := (RX11, TX11, 35)) rfl rfl (kCut_F G) rfl hl.1 rfl (Nat.le_of_ble_eq_true rfl) dX11_needLine_45 ⟨Nat.le_of_ble_eq_true rfl, Nat.le_of_ble_eq_true rfl⟩ (cN := 0) (sN := 0) ⟨rfl, rfl⟩ (fun H locs G => ?_)
          exact J48 z_22 _ _ _ h G (lv_sub hl [1, 0] rfl)
    · have h := op_f h c
      obtain rfl := op_1 h
      exact k_vret F hr hlk G dX11_needLine_21
  clear hj14
  refine lv_icmp_ne (tgt := 14) F.1 F.2.1 dX11_needLine_6 (by decide) (fun c => ?_) (fun c => ?_)
  · have h := op_f h c
    exact J14 z _ _ _ h G hl
  · have h := op_t h c
    refine lv_aload_n F.1 F.2.1 dX11_needLine_9 rfl (lv_at hl 0 rfl) ?_
    refine lv_iconst (v := 5) F.1 F.2.1 dX11_needLine_10 (by decide) ?_
    obtain ⟨z_23, hc, h⟩ := op_b h
    refine k_callV (rv := none) (Wc := (gM T aM z)) (W2 := (gM T aM z_23)) (Wn := (gM T aM z_23)) (As := [.int 5]) (rest := []) F G (mX11_fails l D T aM z 5 hc) (cwV 1 F.2.2.2.2 (kg_c kl840 (kg_c kl841 (kg_c kl842 (kg_c kl788 (kg_c kl832 kg_a))))) rfl rfl rfl (by decide +kernel) ⟨Nat.le_of_ble_eq_true rfl, Nat.le_of_ble_eq_true rfl⟩) 0 rfl (q := (RX11, TX11, 35)) rfl rfl (kCut_F G) rfl hl.1 rfl (Nat.le_of_ble_eq_true rfl) dX11_needLine_11 ⟨Nat.le_of_ble_eq_true rfl, Nat.le_of_ble_eq_true rfl⟩ (cN := 0) (sN := 0) ⟨rfl, rfl⟩ (fun H locs G => ?_)
    exact J14 z_23 _ _ _ h G hl
abbrev rmX11_scriptHere : Room := ({ frames := 2, cells := 0, slots := 0, locals := 42 } : Room)
noncomputable def qX11_scriptHere_L40 (z_5 : Nat → Nat → Int32) (K : Int32 → Option ((Nat → Nat → Int32))) : Nat → Int32 → Int32 → Option ((Nat → Nat → Int32))
  | 0, _, _ => none
  | n + 1, x1_3, x2_4 =>
    if (z_5 25 0) ≤ x2_4 then (K x1_3) else if x1_3 = 0 then (K x1_3) else bd (qX11_byteAt z_5 x2_4) fun r_7 => (jn (fun (y_8 : Int32) => (qX11_scriptHere_L40 z_5 K n y_8 (x2_4 + 1))) fun j67 => if 49 < r_7 then (j67 0) else (j67 1))

noncomputable def qX11_scriptHere_L106 (K : (Nat → Nat → Int32) → Option ((Nat → Nat → Int32))) : Nat → Int32 → (Nat → Nat → Int32) → Option ((Nat → Nat → Int32))
  | 0, _, _ => none
  | n + 1, x2_12, z_13 =>
    if (z_13 32 0) ≤ x2_12 then (K z_13) else bd (qX11_byteAt z_13 ((z_13 26 0) + x2_12)) fun r_15 => gd (vp_in x2_12 24) (bs (va_up z_13 20 (upd (z_13 20) x2_12.toNatClampNeg (r_15 - 48))) fun z_16 => (qX11_scriptHere_L106 K n (x2_12 + 1) z_16))

noncomputable def qX11_scriptHere (z : Nat → Nat → Int32) : Option ((Nat → Nat → Int32)) :=
  bd (qX11_isWrong z) fun r_1 => (jn (fun (y_2 : Int32) => (qX11_scriptHere_L40 z  (fun (x1_6 : Int32) => (jn (fun (z_9 : Nat → Nat → Int32) => bd (qX11_isWrong z_9) fun r_10 => if r_10 = 0 then (bs (va_up z_9 32 (fun _ => ((z_9 25 0) - (z_9 26 0)))) fun z_11 => (qX11_scriptHere_L106   (fun (z_14 : Nat → Nat → Int32) => bd (qX11_token z_14) fun z_17 => some z_17) fu 0 z_11)) else some z_9) fun j83 => if x1_6 = 0 then bd (qX11_fails z 1) fun z_18 => (j83 z_18) else (j83 z))) fu y_2 (z 26 0) )) fun j34 => jn (fun (_ : Unit) => (j34 0)) fun j33 => if r_1 = 0 then if (z 27 0) = 2 then if 24 < ((z 25 0) - (z 26 0)) then (j33 ()) else (j34 1) else (j33 ()) else (j33 ()))

set_option maxHeartbeats 4000000 in
set_option maxRecDepth 100000 in
theorem mX11_scriptHere (l : Launch) (D : va_G) (T : Nat → ClassId) (aM : Nat → Nat) (z : Nat → Nat → Int32) {zR : Nat → Nat → Int32} (hres : qX11_scriptHere z = some (zR)) : Ct l yX11_scriptHere (Cond.code yX11_scriptHere cX11_scriptHere 3 none :: kAll) rmX11_scriptHere D T [.ref (aM 0)] (gM T aM z) none (gM T aM zR) := by
  refine Ct.of (cc := cX11_scriptHere) (maxL := 3) (ret := none) (by decide +kernel) rfl (Nat.le_of_ble_eq_true rfl) ?_
  intro pr en st mi ag bl me co A ls F hr hlk hnm G hl
  have hl : lv_has ls 3 [(0, .ref (aM 0))] := hl
  have h := hres
  unfold qX11_scriptHere at h
  refine lv_aload_n F.1 F.2.1 dX11_scriptHere_0 rfl (lv_at hl 0 rfl) ?_
  obtain ⟨r_1, hc, h⟩ := op_b h
  refine k_callV (rv := (some (.int r_1))) (Wc := (gM T aM z)) (W2 := (gM T aM z)) (Wn := (gM T aM z)) (As := []) (rest := []) F G (mX11_isWrong l D T aM z hc) (cwV 0 F.2.2.2.2 (kg_c kl833 (kg_c kl834 (kg_c kl835 (kg_c kl788 (kg_c kl830 kg_a))))) rfl rfl rfl (by decide +kernel) ⟨Nat.le_of_ble_eq_true rfl, Nat.le_of_ble_eq_true rfl⟩) 0 rfl (q := (RX11, TX11, 35)) rfl rfl (kCut_F G) rfl hl.1 rfl (Nat.le_of_ble_eq_true rfl) dX11_scriptHere_1 ⟨Nat.le_of_ble_eq_true rfl, Nat.le_of_ble_eq_true rfl⟩ (cN := 0) (sN := 0) ⟨rfl, rfl⟩ (fun H locs G => ?_)
  obtain ⟨j34, hj34, h⟩ := op_j h
  have J34 : ∀ (y_2 : Int32) (H : Heap) (locs : List Loc) (ls : Array Slot), j34 y_2 = some (zR) → Rg D T A st (gM T aM z) H locs → lv_has ls 3 [(0, .ref (aM 0))] → W pr l en rmX11_scriptHere st mi ag bl me co H locs 0 0 (MQ bl (kQ none D (gM T aM zR) A) ag st rmX11_scriptHere.cells rmX11_scriptHere.slots A) (F0 mi 34 ls [.int y_2]) := by
    intro y_2 H locs ls h G hl
    rw [hj34] at h
    refine lv_istore_n (lv' := [(1, .int y_2), (0, .ref (aM 0))]) F.1 F.2.1 dX11_scriptHere_34 rfl hl (by decide) rfl (fun ls hl => ?_)
    refine lv_aload_n F.1 F.2.1 dX11_scriptHere_35 rfl (lv_at hl 1 rfl) ?_
    refine k_get F G 0 rfl (N := 35) (Tt := TX11) rfl kf11 26 (by decide) kl821 (v := .int (z 26 0)) rfl dX11_scriptHere_36 ?_
    refine lv_istore_n (lv' := [(2, .int (z 26 0)), (1, .int y_2), (0, .ref (aM 0))]) F.1 F.2.1 dX11_scriptHere_39 rfl hl (by decide) rfl (fun ls hl => ?_)
    have L40 : ∀ (z_5 : Nat → Nat → Int32) (K : Int32 → Option ((Nat → Nat → Int32))) (hK : ∀ (x1_6 : Int32) (H : Heap) (locs : List Loc) (ls : Array Slot), K x1_6 = some (zR) → Rg D T A st (gM T aM z_5) H locs → lv_has ls 3 [(0, .ref (aM 0)), (1, .int x1_6)] → W pr l en rmX11_scriptHere st mi ag bl me co H locs 0 0 (MQ bl (kQ none D (gM T aM zR) A) ag st rmX11_scriptHere.cells rmX11_scriptHere.slots A) (F0 mi 74 ls [])) (n : Nat) (x1_3 : Int32) (x2_4 : Int32) (H : Heap) (locs : List Loc) (ls : Array Slot), qX11_scriptHere_L40 z_5 K n x1_3 x2_4 = some (zR) → Rg D T A st (gM T aM z_5) H locs → lv_has ls 3 [(0, .ref (aM 0)), (1, .int x1_3), (2, .int x2_4)] → W pr l en rmX11_scriptHere st mi ag bl me co H locs 0 0 (MQ bl (kQ none D (gM T aM zR) A) ag st rmX11_scriptHere.cells rmX11_scriptHere.slots A) (F0 mi 40 ls []) := by
      intro z_5 K hK n
      induction n with
      | zero => intro x1_3 x2_4 H locs ls h; exact op_n h
      | succ n ih =>
        intro x1_3 x2_4 H locs ls h G hl
        rw [qX11_scriptHere_L40] at h
        refine lv_iload_n F.1 F.2.1 dX11_scriptHere_40 rfl (lv_at hl 2 rfl) ?_
        refine lv_aload_n F.1 F.2.1 dX11_scriptHere_41 rfl (lv_at hl 0 rfl) ?_
        refine k_get F G 0 rfl (N := 35) (Tt := TX11) rfl kf11 25 (by decide) kl820 (v := .int (z_5 25 0)) rfl dX11_scriptHere_42 ?_
        refine lv_icmp_ge (tgt := 74) F.1 F.2.1 dX11_scriptHere_45 (by decide) (fun c => ?_) (fun c => ?_)
        · have h := op_t h c
          exact hK x1_3 _ _ _ h G (lv_sub hl [0, 1] rfl)
        · have h := op_f h c
          refine lv_iload_n F.1 F.2.1 dX11_scriptHere_48 rfl (lv_at hl 1 rfl) ?_
          refine lv_if_eq (tgt := 74) F.1 F.2.1 dX11_scriptHere_49 (by decide) (fun c => ?_) (fun c => ?_)
          · have h := op_t h c
            exact hK x1_3 _ _ _ h G (lv_sub hl [0, 1] rfl)
          · have h := op_f h c
            refine lv_aload_n F.1 F.2.1 dX11_scriptHere_52 rfl (lv_at hl 0 rfl) ?_
            refine lv_iload_n F.1 F.2.1 dX11_scriptHere_53 rfl (lv_at hl 2 rfl) ?_
            obtain ⟨r_7, hc, h⟩ := op_b h
            refine k_callV (rv := (some (.int r_7))) (Wc := (gM T aM z_5)) (W2 := (gM T aM z_5)) (Wn := (gM T aM z_5)) (As := [.int x2_4]) (rest := []) F G (mX11_byteAt l D T aM z_5 x2_4 hc) (cwV 1 F.2.2.2.2 (kg_c kl823 (kg_c kl824 (kg_c kl825 (kg_c kl788 (kg_c kl815 kg_a))))) rfl rfl rfl (by decide +kernel) ⟨Nat.le_of_ble_eq_true rfl, Nat.le_of_ble_eq_true rfl⟩) 0 rfl (q := (RX11, TX11, 35)) rfl rfl (kCut_F G) rfl hl.1 rfl (Nat.le_of_ble_eq_true rfl) dX11_scriptHere_54 ⟨Nat.le_of_ble_eq_true rfl, Nat.le_of_ble_eq_true rfl⟩ (cN := 0) (sN := 0) ⟨rfl, rfl⟩ (fun H locs G => ?_)
            refine lv_bipush (v := 49) F.1 F.2.1 dX11_scriptHere_57 (by decide) ?_
            obtain ⟨j67, hj67, h⟩ := op_j h
            have J67 : ∀ (y_8 : Int32) (H : Heap) (locs : List Loc) (ls : Array Slot), j67 y_8 = some (zR) → Rg D T A st (gM T aM z_5) H locs → lv_has ls 3 [(0, .ref (aM 0)), (2, .int x2_4)] → W pr l en rmX11_scriptHere st mi ag bl me co H locs 0 0 (MQ bl (kQ none D (gM T aM zR) A) ag st rmX11_scriptHere.cells rmX11_scriptHere.slots A) (F0 mi 67 ls [.int y_8]) := by
              intro y_8 H locs ls h G hl
              rw [hj67] at h
              refine lv_istore_n (lv' := [(1, .int y_8), (0, .ref (aM 0)), (2, .int x2_4)]) F.1 F.2.1 dX11_scriptHere_67 rfl hl (by decide) rfl (fun ls hl => ?_)
              refine lv_iinc (v := (x2_4 + 1)) (lv' := [(2, .int (x2_4 + 1)), (1, .int y_8), (0, .ref (aM 0))]) F.1 F.2.1 dX11_scriptHere_68 hl (k := 2) rfl rfl (by decide) rfl (fun ls hl => ?_)
              refine lv_goto (tgt := 40) F.1 F.2.1 dX11_scriptHere_71 (by decide) ?_
              exact ih y_8 (x2_4 + 1) _ _ _ h G (lv_sub hl [2, 1, 0] rfl)
            clear hj67
            refine lv_icmp_gt (tgt := 66) F.1 F.2.1 dX11_scriptHere_59 (by decide) (fun c => ?_) (fun c => ?_)
            · have h := op_t h c
              refine lv_iconst (v := 0) F.1 F.2.1 dX11_scriptHere_66 (by decide) ?_
              exact J67 0 _ _ _ h G (lv_sub hl [0, 2] rfl)
            · have h := op_f h c
              refine lv_iconst (v := 1) F.1 F.2.1 dX11_scriptHere_62 (by decide) ?_
              refine lv_goto (tgt := 67) F.1 F.2.1 dX11_scriptHere_63 (by decide) ?_
              exact J67 1 _ _ _ h G (lv_sub hl [0, 2] rfl)
    refine L40 z  _ (fun x1_6 H locs ls h G hl => ?_) fu y_2 (z 26 0)  _ _ _ h G (lv_sub hl [2, 1, 0] rfl)
    clear L40
    refine lv_iload_n F.1 F.2.1 dX11_scriptHere_74 rfl (lv_at hl 1 rfl) ?_
    obtain ⟨j83, hj83, h⟩ := op_j h
    have J83 : ∀ (z_9 : Nat → Nat → Int32) (H : Heap) (locs : List Loc) (ls : Array Slot), j83 z_9 = some (zR) → Rg D T A st (gM T aM z_9) H locs → lv_has ls 3 [(0, .ref (aM 0))] → W pr l en rmX11_scriptHere st mi ag bl me co H locs 0 0 (MQ bl (kQ none D (gM T aM zR) A) ag st rmX11_scriptHere.cells rmX11_scriptHere.slots A) (F0 mi 83 ls []) := by
      intro z_9 H locs ls h G hl
      rw [hj83] at h
      refine lv_aload_n F.1 F.2.1 dX11_scriptHere_83 rfl (lv_at hl 0 rfl) ?_
      obtain ⟨r_10, hc, h⟩ := op_b h
      refine k_callV (rv := (some (.int r_10))) (Wc := (gM T aM z_9)) (W2 := (gM T aM z_9)) (Wn := (gM T aM z_9)) (As := []) (rest := []) F G (mX11_isWrong l D T aM z_9 hc) (cwV 0 F.2.2.2.2 (kg_c kl833 (kg_c kl834 (kg_c kl835 (kg_c kl788 (kg_c kl830 kg_a))))) rfl rfl rfl (by decide +kernel) ⟨Nat.le_of_ble_eq_true rfl, Nat.le_of_ble_eq_true rfl⟩) 0 rfl (q := (RX11, TX11, 35)) rfl rfl (kCut_F G) rfl hl.1 rfl (Nat.le_of_ble_eq_true rfl) dX11_scriptHere_84 ⟨Nat.le_of_ble_eq_true rfl, Nat.le_of_ble_eq_true rfl⟩ (cN := 0) (sN := 0) ⟨rfl, rfl⟩ (fun H locs G => ?_)
      refine lv_if_eq (tgt := 91) F.1 F.2.1 dX11_scriptHere_87 (by decide) (fun c => ?_) (fun c => ?_)
      · have h := op_t h c
        refine lv_aload_n F.1 F.2.1 dX11_scriptHere_91 rfl (lv_at hl 0 rfl) ?_
        refine lv_aload_n F.1 F.2.1 dX11_scriptHere_92 rfl (lv_at hl 0 rfl) ?_
        refine k_get F G 0 rfl (N := 35) (Tt := TX11) rfl kf11 25 (by decide) kl820 (v := .int (z_9 25 0)) rfl dX11_scriptHere_93 ?_
        refine lv_aload_n F.1 F.2.1 dX11_scriptHere_96 rfl (lv_at hl 0 rfl) ?_
        refine k_get F G 0 rfl (N := 35) (Tt := TX11) rfl kf11 26 (by decide) kl821 (v := .int (z_9 26 0)) rfl dX11_scriptHere_97 ?_
        refine lv_isub F.1 F.2.1 dX11_scriptHere_100 ?_
        obtain ⟨z_11, e9, h⟩ := op_st h
        refine k_put F G 0 rfl (N := 35) (Tt := TX11) rfl kf11 tyX11_ok nmX11 32 (by decide) kl764 rfl (v := .int ((z_9 25 0) - (z_9 26 0))) rfl rfl (Nat.le_of_ble_eq_true rfl) dX11_scriptHere_101 (Wn := (gM T aM z_11)) (by subst e9; rfl) (fun H locs G => ?_)
        clear e9
        refine lv_iconst (v := 0) F.1 F.2.1 dX11_scriptHere_104 (by decide) ?_
        refine lv_istore_n (lv' := [(2, .int 0), (0, .ref (aM 0))]) F.1 F.2.1 dX11_scriptHere_105 rfl hl (by decide) rfl (fun ls hl => ?_)
        have L106 : ∀ (K : (Nat → Nat → Int32) → Option ((Nat → Nat → Int32))) (hK : ∀ (z_14 : Nat → Nat → Int32) (H : Heap) (locs : List Loc) (ls : Array Slot), K z_14 = some (zR) → Rg D T A st (gM T aM z_14) H locs → lv_has ls 3 [(0, .ref (aM 0))] → W pr l en rmX11_scriptHere st mi ag bl me co H locs 0 0 (MQ bl (kQ none D (gM T aM zR) A) ag st rmX11_scriptHere.cells rmX11_scriptHere.slots A) (F0 mi 139 ls [])) (n : Nat) (x2_12 : Int32) (z_13 : Nat → Nat → Int32) (H : Heap) (locs : List Loc) (ls : Array Slot), qX11_scriptHere_L106 K n x2_12 z_13 = some (zR) → Rg D T A st (gM T aM z_13) H locs → lv_has ls 3 [(0, .ref (aM 0)), (2, .int x2_12)] → W pr l en rmX11_scriptHere st mi ag bl me co H locs 0 0 (MQ bl (kQ none D (gM T aM zR) A) ag st rmX11_scriptHere.cells rmX11_scriptHere.slots A) (F0 mi 106 ls []) := by
          intro K hK n
          induction n with
          | zero => intro x2_12 z_13 H locs ls h; exact op_n h
          | succ n ih =>
            intro x2_12 z_13 H locs ls h G hl
            rw [qX11_scriptHere_L106] at h
            refine lv_iload_n F.1 F.2.1 dX11_scriptHere_106 rfl (lv_at hl 1 rfl) ?_
            refine lv_aload_n F.1 F.2.1 dX11_scriptHere_107 rfl (lv_at hl 0 rfl) ?_
            refine k_get F G 0 rfl (N := 35) (Tt := TX11) rfl kf11 32 (by decide) kl764 (v := .int (z_13 32 0)) rfl dX11_scriptHere_108 ?_
            refine lv_icmp_ge (tgt := 139) F.1 F.2.1 dX11_scriptHere_111 (by decide) (fun c => ?_) (fun c => ?_)
            · have h := op_t h c
              exact hK z_13 _ _ _ h G (lv_sub hl [0] rfl)
            · have h := op_f h c
              refine lv_aload_n F.1 F.2.1 dX11_scriptHere_114 rfl (lv_at hl 0 rfl) ?_
              refine k_get F G 0 rfl (N := 35) (Tt := TX11) rfl kf11 20 (by decide) kl778 (v := .ref (aM 15)) rfl dX11_scriptHere_115 ?_
              refine lv_iload_n F.1 F.2.1 dX11_scriptHere_118 rfl (lv_at hl 1 rfl) ?_
              refine lv_aload_n F.1 F.2.1 dX11_scriptHere_119 rfl (lv_at hl 0 rfl) ?_
              refine lv_aload_n F.1 F.2.1 dX11_scriptHere_120 rfl (lv_at hl 0 rfl) ?_
              refine k_get F G 0 rfl (N := 35) (Tt := TX11) rfl kf11 26 (by decide) kl821 (v := .int (z_13 26 0)) rfl dX11_scriptHere_121 ?_
              refine lv_iload_n F.1 F.2.1 dX11_scriptHere_124 rfl (lv_at hl 1 rfl) ?_
              refine lv_iadd F.1 F.2.1 dX11_scriptHere_125 ?_
              obtain ⟨r_15, hc, h⟩ := op_b h
              refine k_callV (rv := (some (.int r_15))) (Wc := (gM T aM z_13)) (W2 := (gM T aM z_13)) (Wn := (gM T aM z_13)) (As := [.int ((z_13 26 0) + x2_12)]) (rest := [.int x2_12, .ref (aM 15)]) F G (mX11_byteAt l D T aM z_13 ((z_13 26 0) + x2_12) hc) (cwV 1 F.2.2.2.2 (kg_c kl823 (kg_c kl824 (kg_c kl825 (kg_c kl788 (kg_c kl815 kg_a))))) rfl rfl rfl (by decide +kernel) ⟨Nat.le_of_ble_eq_true rfl, Nat.le_of_ble_eq_true rfl⟩) 0 rfl (q := (RX11, TX11, 35)) rfl rfl (kCut_F G) rfl hl.1 rfl (Nat.le_of_ble_eq_true rfl) dX11_scriptHere_126 ⟨Nat.le_of_ble_eq_true rfl, Nat.le_of_ble_eq_true rfl⟩ (cN := 0) (sN := 0) ⟨rfl, rfl⟩ (fun H locs G => ?_)
              refine lv_bipush (v := 48) F.1 F.2.1 dX11_scriptHere_129 (by decide) ?_
              refine lv_isub F.1 F.2.1 dX11_scriptHere_131 ?_
              obtain ⟨c, h⟩ := op_g h
              obtain ⟨z_16, e9, h⟩ := op_st h
              refine k_iast F G 15 rfl c dX11_scriptHere_132 (Wn := (gM T aM z_16)) (by subst e9; rfl) (fun H locs G => ?_)
              clear e9
              refine lv_iinc (v := (x2_12 + 1)) (lv' := [(2, .int (x2_12 + 1)), (0, .ref (aM 0))]) F.1 F.2.1 dX11_scriptHere_133 hl (k := 1) rfl rfl (by decide) rfl (fun ls hl => ?_)
              refine lv_goto (tgt := 106) F.1 F.2.1 dX11_scriptHere_136 (by decide) ?_
              exact ih (x2_12 + 1) z_16 _ _ _ h G (lv_sub hl [1, 0] rfl)
        refine L106   _ (fun z_14 H locs ls h G hl => ?_) fu 0 z_11 _ _ _ h G (lv_sub hl [1, 0] rfl)
        clear L106
        refine lv_aload_n F.1 F.2.1 dX11_scriptHere_139 rfl (lv_at hl 0 rfl) ?_
        obtain ⟨z_17, hc, h⟩ := op_b h
        refine k_callV (rv := none) (Wc := (gM T aM z_14)) (W2 := (gM T aM z_17)) (Wn := (gM T aM z_17)) (As := []) (rest := []) F G (mX11_token l D T aM z_14 hc) (cwV 0 F.2.2.2.2 (kg_c kl843 (kg_c kl844 (kg_c kl845 (kg_c kl788 (kg_c kl819 kg_a))))) rfl rfl rfl (by decide +kernel) ⟨Nat.le_of_ble_eq_true rfl, Nat.le_of_ble_eq_true rfl⟩) 0 rfl (q := (RX11, TX11, 35)) rfl rfl (kCut_F G) rfl hl.1 rfl (Nat.le_of_ble_eq_true rfl) dX11_scriptHere_140 ⟨Nat.le_of_ble_eq_true rfl, Nat.le_of_ble_eq_true rfl⟩ (cN := 0) (sN := 0) ⟨rfl, rfl⟩ (fun H locs G => ?_)
        obtain rfl := op_1 h
        exact k_vret F hr hlk G dX11_scriptHere_143
      · have h := op_f h c
        obtain rfl := op_1 h
        exact k_vret F hr hlk G dX11_scriptHere_90
    clear hj83
    refine lv_if_ne (tgt := 83) F.1 F.2.1 dX11_scriptHere_75 (by decide) (fun c => ?_) (fun c => ?_)
    · have h := op_f h c
      exact J83 z _ _ _ h G (lv_sub hl [0] rfl)
    · have h := op_t h c
      refine lv_aload_n F.1 F.2.1 dX11_scriptHere_78 rfl (lv_at hl 0 rfl) ?_
      refine lv_iconst (v := 1) F.1 F.2.1 dX11_scriptHere_79 (by decide) ?_
      obtain ⟨z_18, hc, h⟩ := op_b h
      refine k_callV (rv := none) (Wc := (gM T aM z)) (W2 := (gM T aM z_18)) (Wn := (gM T aM z_18)) (As := [.int 1]) (rest := []) F G (mX11_fails l D T aM z 1 hc) (cwV 1 F.2.2.2.2 (kg_c kl840 (kg_c kl841 (kg_c kl842 (kg_c kl788 (kg_c kl832 kg_a))))) rfl rfl rfl (by decide +kernel) ⟨Nat.le_of_ble_eq_true rfl, Nat.le_of_ble_eq_true rfl⟩) 0 rfl (q := (RX11, TX11, 35)) rfl rfl (kCut_F G) rfl hl.1 rfl (Nat.le_of_ble_eq_true rfl) dX11_scriptHere_80 ⟨Nat.le_of_ble_eq_true rfl, Nat.le_of_ble_eq_true rfl⟩ (cN := 0) (sN := 0) ⟨rfl, rfl⟩ (fun H locs G => ?_)
      exact J83 z_18 _ _ _ h G (lv_sub hl [0] rfl)
  clear hj34
  obtain ⟨j33, hj33, h⟩ := op_j h
  have J33 : ∀ (H : Heap) (locs : List Loc) (ls : Array Slot), j33 () = some (zR) → Rg D T A st (gM T aM z) H locs → lv_has ls 3 [(0, .ref (aM 0))] → W pr l en rmX11_scriptHere st mi ag bl me co H locs 0 0 (MQ bl (kQ none D (gM T aM zR) A) ag st rmX11_scriptHere.cells rmX11_scriptHere.slots A) (F0 mi 33 ls []) := by
    intro H locs ls h G hl
    rw [hj33] at h
    refine lv_iconst (v := 0) F.1 F.2.1 dX11_scriptHere_33 (by decide) ?_
    exact J34 0 _ _ _ h G hl
  clear hj33
  refine lv_if_ne (tgt := 33) F.1 F.2.1 dX11_scriptHere_4 (by decide) (fun c => ?_) (fun c => ?_)
  · have h := op_f h c
    exact J33 _ _ _ h G hl
  · have h := op_t h c
    refine lv_aload_n F.1 F.2.1 dX11_scriptHere_7 rfl (lv_at hl 0 rfl) ?_
    refine k_get F G 0 rfl (N := 35) (Tt := TX11) rfl kf11 27 (by decide) kl822 (v := .int (z 27 0)) rfl dX11_scriptHere_8 ?_
    refine lv_iconst (v := 2) F.1 F.2.1 dX11_scriptHere_11 (by decide) ?_
    refine lv_icmp_ne (tgt := 33) F.1 F.2.1 dX11_scriptHere_12 (by decide) (fun c => ?_) (fun c => ?_)
    · have h := op_f h c
      exact J33 _ _ _ h G hl
    · have h := op_t h c
      refine lv_aload_n F.1 F.2.1 dX11_scriptHere_15 rfl (lv_at hl 0 rfl) ?_
      refine k_get F G 0 rfl (N := 35) (Tt := TX11) rfl kf11 25 (by decide) kl820 (v := .int (z 25 0)) rfl dX11_scriptHere_16 ?_
      refine lv_aload_n F.1 F.2.1 dX11_scriptHere_19 rfl (lv_at hl 0 rfl) ?_
      refine k_get F G 0 rfl (N := 35) (Tt := TX11) rfl kf11 26 (by decide) kl821 (v := .int (z 26 0)) rfl dX11_scriptHere_20 ?_
      refine lv_isub F.1 F.2.1 dX11_scriptHere_23 ?_
      refine lv_bipush (v := 24) F.1 F.2.1 dX11_scriptHere_24 (by decide) ?_
      refine lv_icmp_gt (tgt := 33) F.1 F.2.1 dX11_scriptHere_26 (by decide) (fun c => ?_) (fun c => ?_)
      · have h := op_t h c
        exact J33 _ _ _ h G hl
      · have h := op_f h c
        refine lv_iconst (v := 1) F.1 F.2.1 dX11_scriptHere_29 (by decide) ?_
        refine lv_goto (tgt := 34) F.1 F.2.1 dX11_scriptHere_30 (by decide) ?_
        exact J34 1 _ _ _ h G hl
abbrev rmX11_ruleLine : Room := ({ frames := 6, cells := 0, slots := 0, locals := 133 } : Room)
noncomputable def qX11_ruleLine (z : Nat → Nat → Int32) : Option ((Nat → Nat → Int32)) :=
  bd (qX11_isWord z 3) fun r_1 => (jn (fun (z_2 : Nat → Nat → Int32) => bd (qX11_semicolon z_2) fun z_3 => some z_3) fun j260 => if r_1 = 0 then bd (qX11_isWord z 4) fun r_4 => if r_4 = 0 then bd (qX11_isWord z 5) fun r_5 => if r_5 = 0 then bd (qX11_isWord z 6) fun r_6 => if r_6 = 0 then bd (qX11_isWord z 7) fun r_7 => if r_7 = 0 then bd (qX11_isWord z 8) fun r_8 => if r_8 = 0 then bd (qX11_fails z 1) fun z_9 => (j260 z_9) else (jn (fun (z_10 : Nat → Nat → Int32) => bd (qX11_isWrong z_10) fun r_11 => if r_11 = 0 then bd (qX11_token z_10) fun z_12 => bd2 (qX11_figure z_12 1 999) fun r_13 z_14 => gd (vp_in (2 * (z_12 33 0)) 8) (bs (va_up z_14 21 (upd (z_14 21) (2 * (z_12 33 0)).toNatClampNeg r_13)) fun z_15 => bd2 (qX11_figure z_15 1 50) fun r_16 z_17 => gd (vp_in ((2 * (z_15 33 0)) + 1) 8) (bs (va_up z_17 21 (upd (z_17 21) ((2 * (z_15 33 0)) + 1).toNatClampNeg r_16)) fun z_18 => (bs (va_up z_18 33 (fun _ => ((z_18 33 0) + 1))) fun z_19 => (j260 z_19)))) else some z_10) fun j191 => if (z 33 0) = 4 then bd (qX11_fails z 5) fun z_20 => (j191 z_20) else (j191 z)) else bd (qX11_token z) fun z_21 => bd2 (qX11_looksUp z_21) fun r_22 z_23 => bd (qX11_isWrong z_23) fun r_24 => (jn (fun (z_25 : Nat → Nat → Int32) => bd (qX11_isWrong z_25) fun r_26 => if r_26 = 0 then bd (qX11_at r_22 1) fun r_27 => gd (vp_in r_27 411) (bs (va_up z_25 17 (upd (z_25 17) r_27.toNatClampNeg 0)) fun z_28 => bd (qX11_token z_28) fun z_29 => (j260 z_29)) else some z_25) fun j143 => if r_24 = 0 then if r_22 = (-1) then bd (qX11_fails z_23 4) fun z_30 => (j143 z_30) else (j143 z_23) else (j143 z_23)) else bd (qX11_once z 3) fun z_31 => (bs (va_up z_31 17 (upd (z_31 17) 9 1)) fun z_32 => (j260 z_32)) else bd (qX11_once z 2) fun z_33 => bd2 (qX11_figure z_33 2 20) fun r_34 z_35 => (bs (va_up z_35 17 (upd (z_35 17) 8 r_34)) fun z_36 => (j260 z_36)) else bd (qX11_once z 1) fun z_37 => bd2 (qX11_figure z_37 1 20) fun r_38 z_39 => (bs (va_up z_39 17 (upd (z_39 17) 7 r_38)) fun z_40 => (j260 z_40)) else bd (qX11_once z 0) fun z_41 => bd (qX11_scriptHere z_41) fun z_42 => (j260 z_42))

set_option maxHeartbeats 4000000 in
set_option maxRecDepth 100000 in
theorem mX11_ruleLine (l : Launch) (D : va_G) (T : Nat → ClassId) (aM : Nat → Nat) (z : Nat → Nat → Int32) {zR : Nat → Nat → Int32} (hres : qX11_ruleLine z = some (zR)) : Ct l yX11_ruleLine (Cond.code yX11_ruleLine cX11_ruleLine 2 none :: kAll) rmX11_ruleLine D T [.ref (aM 0)] (gM T aM z) none (gM T aM zR) := by
  refine Ct.of (cc := cX11_ruleLine) (maxL := 2) (ret := none) (by decide +kernel) rfl (Nat.le_of_ble_eq_true rfl) ?_
  intro pr en st mi ag bl me co A ls F hr hlk hnm G hl
  have hl : lv_has ls 2 [(0, .ref (aM 0))] := hl
  have h := hres
  unfold qX11_ruleLine at h
  refine lv_aload_n F.1 F.2.1 dX11_ruleLine_0 rfl (lv_at hl 0 rfl) ?_
  refine va_ldcS (own := RX11) (index := 169) (tx := "loss") (q := T (100 + 3)) F.1 F.2.1 F.2.2.2.1 (k_refE G 12 rfl) dX11_ruleLine_1 ?_
  obtain ⟨r_1, hc, h⟩ := op_b h
  refine k_callV (rv := (some (.int r_1))) (Wc := (gM T aM z)) (W2 := (gM T aM z)) (Wn := (gM T aM z)) (As := [.ref (T (100 + 3))]) (rest := []) F G (mX11_isWord l D T aM z 3 (by decide) hc) (cwV 1 F.2.2.2.2 (kg_c kl873 (kg_c kl874 (kg_c kl875 (kg_c kl788 (kg_c kl836 kg_a))))) rfl rfl rfl (by decide +kernel) ⟨Nat.le_of_ble_eq_true rfl, Nat.le_of_ble_eq_true rfl⟩) 0 rfl (q := (RX11, TX11, 35)) rfl rfl (kCut_F G) rfl hl.1 rfl (Nat.le_of_ble_eq_true rfl) dX11_ruleLine_3 ⟨Nat.le_of_ble_eq_true rfl, Nat.le_of_ble_eq_true rfl⟩ (cN := 0) (sN := 0) ⟨rfl, rfl⟩ (fun H locs G => ?_)
  obtain ⟨j260, hj260, h⟩ := op_j h
  have J260 : ∀ (z_2 : Nat → Nat → Int32) (H : Heap) (locs : List Loc) (ls : Array Slot), j260 z_2 = some (zR) → Rg D T A st (gM T aM z_2) H locs → lv_has ls 2 [(0, .ref (aM 0))] → W pr l en rmX11_ruleLine st mi ag bl me co H locs 0 0 (MQ bl (kQ none D (gM T aM zR) A) ag st rmX11_ruleLine.cells rmX11_ruleLine.slots A) (F0 mi 260 ls []) := by
    intro z_2 H locs ls h G hl
    rw [hj260] at h
    refine lv_aload_n F.1 F.2.1 dX11_ruleLine_260 rfl (lv_at hl 0 rfl) ?_
    obtain ⟨z_3, hc, h⟩ := op_b h
    refine k_callV (rv := none) (Wc := (gM T aM z_2)) (W2 := (gM T aM z_3)) (Wn := (gM T aM z_3)) (As := []) (rest := []) F G (mX11_semicolon l D T aM z_2 hc) (cwV 0 F.2.2.2.2 (kg_c kl867 (kg_c kl868 (kg_c kl869 (kg_c kl788 (kg_c kl846 kg_a))))) rfl rfl rfl (by decide +kernel) ⟨Nat.le_of_ble_eq_true rfl, Nat.le_of_ble_eq_true rfl⟩) 0 rfl (q := (RX11, TX11, 35)) rfl rfl (kCut_F G) rfl hl.1 rfl (Nat.le_of_ble_eq_true rfl) dX11_ruleLine_261 ⟨Nat.le_of_ble_eq_true rfl, Nat.le_of_ble_eq_true rfl⟩ (cN := 0) (sN := 0) ⟨rfl, rfl⟩ (fun H locs G => ?_)
    obtain rfl := op_1 h
    exact k_vret F hr hlk G dX11_ruleLine_264
  clear hj260
  refine lv_if_eq (tgt := 21) F.1 F.2.1 dX11_ruleLine_6 (by decide) (fun c => ?_) (fun c => ?_)
  · have h := op_t h c
    refine lv_aload_n F.1 F.2.1 dX11_ruleLine_21 rfl (lv_at hl 0 rfl) ?_
    refine va_ldcS (own := RX11) (index := 181) (tx := "retry") (q := T (100 + 4)) F.1 F.2.1 F.2.2.2.1 (k_refE G 13 rfl) dX11_ruleLine_22 ?_
    obtain ⟨r_4, hc, h⟩ := op_b h
    refine k_callV (rv := (some (.int r_4))) (Wc := (gM T aM z)) (W2 := (gM T aM z)) (Wn := (gM T aM z)) (As := [.ref (T (100 + 4))]) (rest := []) F G (mX11_isWord l D T aM z 4 (by decide) hc) (cwV 1 F.2.2.2.2 (kg_c kl873 (kg_c kl874 (kg_c kl875 (kg_c kl788 (kg_c kl836 kg_a))))) rfl rfl rfl (by decide +kernel) ⟨Nat.le_of_ble_eq_true rfl, Nat.le_of_ble_eq_true rfl⟩) 0 rfl (q := (RX11, TX11, 35)) rfl rfl (kCut_F G) rfl hl.1 rfl (Nat.le_of_ble_eq_true rfl) dX11_ruleLine_24 ⟨Nat.le_of_ble_eq_true rfl, Nat.le_of_ble_eq_true rfl⟩ (cN := 0) (sN := 0) ⟨rfl, rfl⟩ (fun H locs G => ?_)
    refine lv_if_eq (tgt := 52) F.1 F.2.1 dX11_ruleLine_27 (by decide) (fun c => ?_) (fun c => ?_)
    · have h := op_t h c
      refine lv_aload_n F.1 F.2.1 dX11_ruleLine_52 rfl (lv_at hl 0 rfl) ?_
      refine va_ldcS (own := RX11) (index := 183) (tx := "patience") (q := T (100 + 5)) F.1 F.2.1 F.2.2.2.1 (k_refE G 14 rfl) dX11_ruleLine_53 ?_
      obtain ⟨r_5, hc, h⟩ := op_b h
      refine k_callV (rv := (some (.int r_5))) (Wc := (gM T aM z)) (W2 := (gM T aM z)) (Wn := (gM T aM z)) (As := [.ref (T (100 + 5))]) (rest := []) F G (mX11_isWord l D T aM z 5 (by decide) hc) (cwV 1 F.2.2.2.2 (kg_c kl873 (kg_c kl874 (kg_c kl875 (kg_c kl788 (kg_c kl836 kg_a))))) rfl rfl rfl (by decide +kernel) ⟨Nat.le_of_ble_eq_true rfl, Nat.le_of_ble_eq_true rfl⟩) 0 rfl (q := (RX11, TX11, 35)) rfl rfl (kCut_F G) rfl hl.1 rfl (Nat.le_of_ble_eq_true rfl) dX11_ruleLine_55 ⟨Nat.le_of_ble_eq_true rfl, Nat.le_of_ble_eq_true rfl⟩ (cN := 0) (sN := 0) ⟨rfl, rfl⟩ (fun H locs G => ?_)
      refine lv_if_eq (tgt := 83) F.1 F.2.1 dX11_ruleLine_58 (by decide) (fun c => ?_) (fun c => ?_)
      · have h := op_t h c
        refine lv_aload_n F.1 F.2.1 dX11_ruleLine_83 rfl (lv_at hl 0 rfl) ?_
        refine va_ldcS (own := RX11) (index := 185) (tx := "strict") (q := T (100 + 6)) F.1 F.2.1 F.2.2.2.1 (k_refE G 15 rfl) dX11_ruleLine_84 ?_
        obtain ⟨r_6, hc, h⟩ := op_b h
        refine k_callV (rv := (some (.int r_6))) (Wc := (gM T aM z)) (W2 := (gM T aM z)) (Wn := (gM T aM z)) (As := [.ref (T (100 + 6))]) (rest := []) F G (mX11_isWord l D T aM z 6 (by decide) hc) (cwV 1 F.2.2.2.2 (kg_c kl873 (kg_c kl874 (kg_c kl875 (kg_c kl788 (kg_c kl836 kg_a))))) rfl rfl rfl (by decide +kernel) ⟨Nat.le_of_ble_eq_true rfl, Nat.le_of_ble_eq_true rfl⟩) 0 rfl (q := (RX11, TX11, 35)) rfl rfl (kCut_F G) rfl hl.1 rfl (Nat.le_of_ble_eq_true rfl) dX11_ruleLine_86 ⟨Nat.le_of_ble_eq_true rfl, Nat.le_of_ble_eq_true rfl⟩ (cN := 0) (sN := 0) ⟨rfl, rfl⟩ (fun H locs G => ?_)
        refine lv_if_eq (tgt := 108) F.1 F.2.1 dX11_ruleLine_89 (by decide) (fun c => ?_) (fun c => ?_)
        · have h := op_t h c
          refine lv_aload_n F.1 F.2.1 dX11_ruleLine_108 rfl (lv_at hl 0 rfl) ?_
          refine va_ldcS (own := RX11) (index := 187) (tx := "off") (q := T (100 + 7)) F.1 F.2.1 F.2.2.2.1 (k_refE G 16 rfl) dX11_ruleLine_109 ?_
          obtain ⟨r_7, hc, h⟩ := op_b h
          refine k_callV (rv := (some (.int r_7))) (Wc := (gM T aM z)) (W2 := (gM T aM z)) (Wn := (gM T aM z)) (As := [.ref (T (100 + 7))]) (rest := []) F G (mX11_isWord l D T aM z 7 (by decide) hc) (cwV 1 F.2.2.2.2 (kg_c kl873 (kg_c kl874 (kg_c kl875 (kg_c kl788 (kg_c kl836 kg_a))))) rfl rfl rfl (by decide +kernel) ⟨Nat.le_of_ble_eq_true rfl, Nat.le_of_ble_eq_true rfl⟩) 0 rfl (q := (RX11, TX11, 35)) rfl rfl (kCut_F G) rfl hl.1 rfl (Nat.le_of_ble_eq_true rfl) dX11_ruleLine_111 ⟨Nat.le_of_ble_eq_true rfl, Nat.le_of_ble_eq_true rfl⟩ (cN := 0) (sN := 0) ⟨rfl, rfl⟩ (fun H locs G => ?_)
          refine lv_if_eq (tgt := 169) F.1 F.2.1 dX11_ruleLine_114 (by decide) (fun c => ?_) (fun c => ?_)
          · have h := op_t h c
            refine lv_aload_n F.1 F.2.1 dX11_ruleLine_169 rfl (lv_at hl 0 rfl) ?_
            refine va_ldcS (own := RX11) (index := 189) (tx := "dark") (q := T (100 + 8)) F.1 F.2.1 F.2.2.2.1 (k_refE G 17 rfl) dX11_ruleLine_170 ?_
            obtain ⟨r_8, hc, h⟩ := op_b h
            refine k_callV (rv := (some (.int r_8))) (Wc := (gM T aM z)) (W2 := (gM T aM z)) (Wn := (gM T aM z)) (As := [.ref (T (100 + 8))]) (rest := []) F G (mX11_isWord l D T aM z 8 (by decide) hc) (cwV 1 F.2.2.2.2 (kg_c kl873 (kg_c kl874 (kg_c kl875 (kg_c kl788 (kg_c kl836 kg_a))))) rfl rfl rfl (by decide +kernel) ⟨Nat.le_of_ble_eq_true rfl, Nat.le_of_ble_eq_true rfl⟩) 0 rfl (q := (RX11, TX11, 35)) rfl rfl (kCut_F G) rfl hl.1 rfl (Nat.le_of_ble_eq_true rfl) dX11_ruleLine_172 ⟨Nat.le_of_ble_eq_true rfl, Nat.le_of_ble_eq_true rfl⟩ (cN := 0) (sN := 0) ⟨rfl, rfl⟩ (fun H locs G => ?_)
            refine lv_if_eq (tgt := 255) F.1 F.2.1 dX11_ruleLine_175 (by decide) (fun c => ?_) (fun c => ?_)
            · have h := op_t h c
              refine lv_aload_n F.1 F.2.1 dX11_ruleLine_255 rfl (lv_at hl 0 rfl) ?_
              refine lv_iconst (v := 1) F.1 F.2.1 dX11_ruleLine_256 (by decide) ?_
              obtain ⟨z_9, hc, h⟩ := op_b h
              refine k_callV (rv := none) (Wc := (gM T aM z)) (W2 := (gM T aM z_9)) (Wn := (gM T aM z_9)) (As := [.int 1]) (rest := []) F G (mX11_fails l D T aM z 1 hc) (cwV 1 F.2.2.2.2 (kg_c kl840 (kg_c kl841 (kg_c kl842 (kg_c kl788 (kg_c kl832 kg_a))))) rfl rfl rfl (by decide +kernel) ⟨Nat.le_of_ble_eq_true rfl, Nat.le_of_ble_eq_true rfl⟩) 0 rfl (q := (RX11, TX11, 35)) rfl rfl (kCut_F G) rfl hl.1 rfl (Nat.le_of_ble_eq_true rfl) dX11_ruleLine_257 ⟨Nat.le_of_ble_eq_true rfl, Nat.le_of_ble_eq_true rfl⟩ (cN := 0) (sN := 0) ⟨rfl, rfl⟩ (fun H locs G => ?_)
              exact J260 z_9 _ _ _ h G hl
            · have h := op_f h c
              refine lv_aload_n F.1 F.2.1 dX11_ruleLine_178 rfl (lv_at hl 0 rfl) ?_
              refine k_get F G 0 rfl (N := 35) (Tt := TX11) rfl kf11 33 (by decide) kl765 (v := .int (z 33 0)) rfl dX11_ruleLine_179 ?_
              refine lv_iconst (v := 4) F.1 F.2.1 dX11_ruleLine_182 (by decide) ?_
              obtain ⟨j191, hj191, h⟩ := op_j h
              have J191 : ∀ (z_10 : Nat → Nat → Int32) (H : Heap) (locs : List Loc) (ls : Array Slot), j191 z_10 = some (zR) → Rg D T A st (gM T aM z_10) H locs → lv_has ls 2 [(0, .ref (aM 0))] → W pr l en rmX11_ruleLine st mi ag bl me co H locs 0 0 (MQ bl (kQ none D (gM T aM zR) A) ag st rmX11_ruleLine.cells rmX11_ruleLine.slots A) (F0 mi 191 ls []) := by
                intro z_10 H locs ls h G hl
                rw [hj191] at h
                refine lv_aload_n F.1 F.2.1 dX11_ruleLine_191 rfl (lv_at hl 0 rfl) ?_
                obtain ⟨r_11, hc, h⟩ := op_b h
                refine k_callV (rv := (some (.int r_11))) (Wc := (gM T aM z_10)) (W2 := (gM T aM z_10)) (Wn := (gM T aM z_10)) (As := []) (rest := []) F G (mX11_isWrong l D T aM z_10 hc) (cwV 0 F.2.2.2.2 (kg_c kl833 (kg_c kl834 (kg_c kl835 (kg_c kl788 (kg_c kl830 kg_a))))) rfl rfl rfl (by decide +kernel) ⟨Nat.le_of_ble_eq_true rfl, Nat.le_of_ble_eq_true rfl⟩) 0 rfl (q := (RX11, TX11, 35)) rfl rfl (kCut_F G) rfl hl.1 rfl (Nat.le_of_ble_eq_true rfl) dX11_ruleLine_192 ⟨Nat.le_of_ble_eq_true rfl, Nat.le_of_ble_eq_true rfl⟩ (cN := 0) (sN := 0) ⟨rfl, rfl⟩ (fun H locs G => ?_)
                refine lv_if_eq (tgt := 199) F.1 F.2.1 dX11_ruleLine_195 (by decide) (fun c => ?_) (fun c => ?_)
                · have h := op_t h c
                  refine lv_aload_n F.1 F.2.1 dX11_ruleLine_199 rfl (lv_at hl 0 rfl) ?_
                  obtain ⟨z_12, hc, h⟩ := op_b h
                  refine k_callV (rv := none) (Wc := (gM T aM z_10)) (W2 := (gM T aM z_12)) (Wn := (gM T aM z_12)) (As := []) (rest := []) F G (mX11_token l D T aM z_10 hc) (cwV 0 F.2.2.2.2 (kg_c kl843 (kg_c kl844 (kg_c kl845 (kg_c kl788 (kg_c kl819 kg_a))))) rfl rfl rfl (by decide +kernel) ⟨Nat.le_of_ble_eq_true rfl, Nat.le_of_ble_eq_true rfl⟩) 0 rfl (q := (RX11, TX11, 35)) rfl rfl (kCut_F G) rfl hl.1 rfl (Nat.le_of_ble_eq_true rfl) dX11_ruleLine_200 ⟨Nat.le_of_ble_eq_true rfl, Nat.le_of_ble_eq_true rfl⟩ (cN := 0) (sN := 0) ⟨rfl, rfl⟩ (fun H locs G => ?_)
                  refine lv_aload_n F.1 F.2.1 dX11_ruleLine_203 rfl (lv_at hl 0 rfl) ?_
                  refine k_get F G 0 rfl (N := 35) (Tt := TX11) rfl kf11 21 (by decide) kl780 (v := .ref (aM 16)) rfl dX11_ruleLine_204 ?_
                  refine lv_iconst (v := 2) F.1 F.2.1 dX11_ruleLine_207 (by decide) ?_
                  refine lv_aload_n F.1 F.2.1 dX11_ruleLine_208 rfl (lv_at hl 0 rfl) ?_
                  refine k_get F G 0 rfl (N := 35) (Tt := TX11) rfl kf11 33 (by decide) kl765 (v := .int (z_12 33 0)) rfl dX11_ruleLine_209 ?_
                  refine lv_imul F.1 F.2.1 dX11_ruleLine_212 ?_
                  refine lv_aload_n F.1 F.2.1 dX11_ruleLine_213 rfl (lv_at hl 0 rfl) ?_
                  refine lv_iconst (v := 1) F.1 F.2.1 dX11_ruleLine_214 (by decide) ?_
                  refine lv_sipush (v := 999) F.1 F.2.1 dX11_ruleLine_215 (by decide) ?_
                  obtain ⟨r_13, z_14, hc, h⟩ := op_b2 h
                  refine k_callV (rv := (some (.int r_13))) (Wc := (gM T aM z_12)) (W2 := (gM T aM z_14)) (Wn := (gM T aM z_14)) (As := [.int 1, .int 999]) (rest := [.int (2 * (z_12 33 0)), .ref (aM 16)]) F G (mX11_figure l D T aM z_12 1 999 hc) (cwV 2 F.2.2.2.2 (kg_c kl864 (kg_c kl865 (kg_c kl866 (kg_c kl788 (kg_c kl850 kg_a))))) rfl rfl rfl (by decide +kernel) ⟨Nat.le_of_ble_eq_true rfl, Nat.le_of_ble_eq_true rfl⟩) 0 rfl (q := (RX11, TX11, 35)) rfl rfl (kCut_F G) rfl hl.1 rfl (Nat.le_of_ble_eq_true rfl) dX11_ruleLine_218 ⟨Nat.le_of_ble_eq_true rfl, Nat.le_of_ble_eq_true rfl⟩ (cN := 0) (sN := 0) ⟨rfl, rfl⟩ (fun H locs G => ?_)
                  obtain ⟨c, h⟩ := op_g h
                  obtain ⟨z_15, e9, h⟩ := op_st h
                  refine k_iast F G 16 rfl c dX11_ruleLine_221 (Wn := (gM T aM z_15)) (by subst e9; rfl) (fun H locs G => ?_)
                  clear e9
                  refine lv_aload_n F.1 F.2.1 dX11_ruleLine_222 rfl (lv_at hl 0 rfl) ?_
                  refine k_get F G 0 rfl (N := 35) (Tt := TX11) rfl kf11 21 (by decide) kl780 (v := .ref (aM 16)) rfl dX11_ruleLine_223 ?_
                  refine lv_iconst (v := 2) F.1 F.2.1 dX11_ruleLine_226 (by decide) ?_
                  refine lv_aload_n F.1 F.2.1 dX11_ruleLine_227 rfl (lv_at hl 0 rfl) ?_
                  refine k_get F G 0 rfl (N := 35) (Tt := TX11) rfl kf11 33 (by decide) kl765 (v := .int (z_15 33 0)) rfl dX11_ruleLine_228 ?_
                  refine lv_imul F.1 F.2.1 dX11_ruleLine_231 ?_
                  refine lv_iconst (v := 1) F.1 F.2.1 dX11_ruleLine_232 (by decide) ?_
                  refine lv_iadd F.1 F.2.1 dX11_ruleLine_233 ?_
                  refine lv_aload_n F.1 F.2.1 dX11_ruleLine_234 rfl (lv_at hl 0 rfl) ?_
                  refine lv_iconst (v := 1) F.1 F.2.1 dX11_ruleLine_235 (by decide) ?_
                  refine lv_bipush (v := 50) F.1 F.2.1 dX11_ruleLine_236 (by decide) ?_
                  obtain ⟨r_16, z_17, hc, h⟩ := op_b2 h
                  refine k_callV (rv := (some (.int r_16))) (Wc := (gM T aM z_15)) (W2 := (gM T aM z_17)) (Wn := (gM T aM z_17)) (As := [.int 1, .int 50]) (rest := [.int ((2 * (z_15 33 0)) + 1), .ref (aM 16)]) F G (mX11_figure l D T aM z_15 1 50 hc) (cwV 2 F.2.2.2.2 (kg_c kl864 (kg_c kl865 (kg_c kl866 (kg_c kl788 (kg_c kl850 kg_a))))) rfl rfl rfl (by decide +kernel) ⟨Nat.le_of_ble_eq_true rfl, Nat.le_of_ble_eq_true rfl⟩) 0 rfl (q := (RX11, TX11, 35)) rfl rfl (kCut_F G) rfl hl.1 rfl (Nat.le_of_ble_eq_true rfl) dX11_ruleLine_238 ⟨Nat.le_of_ble_eq_true rfl, Nat.le_of_ble_eq_true rfl⟩ (cN := 0) (sN := 0) ⟨rfl, rfl⟩ (fun H locs G => ?_)
                  obtain ⟨c, h⟩ := op_g h
                  obtain ⟨z_18, e9, h⟩ := op_st h
                  refine k_iast F G 16 rfl c dX11_ruleLine_241 (Wn := (gM T aM z_18)) (by subst e9; rfl) (fun H locs G => ?_)
                  clear e9
                  refine lv_aload_n F.1 F.2.1 dX11_ruleLine_242 rfl (lv_at hl 0 rfl) ?_
                  refine lv_dup F.1 F.2.1 dX11_ruleLine_243 rfl ?_
                  refine k_get F G 0 rfl (N := 35) (Tt := TX11) rfl kf11 33 (by decide) kl765 (v := .int (z_18 33 0)) rfl dX11_ruleLine_244 ?_
                  refine lv_iconst (v := 1) F.1 F.2.1 dX11_ruleLine_247 (by decide) ?_
                  refine lv_iadd F.1 F.2.1 dX11_ruleLine_248 ?_
                  obtain ⟨z_19, e9, h⟩ := op_st h
                  refine k_put F G 0 rfl (N := 35) (Tt := TX11) rfl kf11 tyX11_ok nmX11 33 (by decide) kl765 rfl (v := .int ((z_18 33 0) + 1)) rfl rfl (Nat.le_of_ble_eq_true rfl) dX11_ruleLine_249 (Wn := (gM T aM z_19)) (by subst e9; rfl) (fun H locs G => ?_)
                  clear e9
                  refine lv_goto (tgt := 260) F.1 F.2.1 dX11_ruleLine_252 (by decide) ?_
                  exact J260 z_19 _ _ _ h G hl
                · have h := op_f h c
                  obtain rfl := op_1 h
                  exact k_vret F hr hlk G dX11_ruleLine_198
              clear hj191
              refine lv_icmp_ne (tgt := 191) F.1 F.2.1 dX11_ruleLine_183 (by decide) (fun c => ?_) (fun c => ?_)
              · have h := op_f h c
                exact J191 z _ _ _ h G hl
              · have h := op_t h c
                refine lv_aload_n F.1 F.2.1 dX11_ruleLine_186 rfl (lv_at hl 0 rfl) ?_
                refine lv_iconst (v := 5) F.1 F.2.1 dX11_ruleLine_187 (by decide) ?_
                obtain ⟨z_20, hc, h⟩ := op_b h
                refine k_callV (rv := none) (Wc := (gM T aM z)) (W2 := (gM T aM z_20)) (Wn := (gM T aM z_20)) (As := [.int 5]) (rest := []) F G (mX11_fails l D T aM z 5 hc) (cwV 1 F.2.2.2.2 (kg_c kl840 (kg_c kl841 (kg_c kl842 (kg_c kl788 (kg_c kl832 kg_a))))) rfl rfl rfl (by decide +kernel) ⟨Nat.le_of_ble_eq_true rfl, Nat.le_of_ble_eq_true rfl⟩) 0 rfl (q := (RX11, TX11, 35)) rfl rfl (kCut_F G) rfl hl.1 rfl (Nat.le_of_ble_eq_true rfl) dX11_ruleLine_188 ⟨Nat.le_of_ble_eq_true rfl, Nat.le_of_ble_eq_true rfl⟩ (cN := 0) (sN := 0) ⟨rfl, rfl⟩ (fun H locs G => ?_)
                exact J191 z_20 _ _ _ h G hl
          · have h := op_f h c
            refine lv_aload_n F.1 F.2.1 dX11_ruleLine_117 rfl (lv_at hl 0 rfl) ?_
            obtain ⟨z_21, hc, h⟩ := op_b h
            refine k_callV (rv := none) (Wc := (gM T aM z)) (W2 := (gM T aM z_21)) (Wn := (gM T aM z_21)) (As := []) (rest := []) F G (mX11_token l D T aM z hc) (cwV 0 F.2.2.2.2 (kg_c kl843 (kg_c kl844 (kg_c kl845 (kg_c kl788 (kg_c kl819 kg_a))))) rfl rfl rfl (by decide +kernel) ⟨Nat.le_of_ble_eq_true rfl, Nat.le_of_ble_eq_true rfl⟩) 0 rfl (q := (RX11, TX11, 35)) rfl rfl (kCut_F G) rfl hl.1 rfl (Nat.le_of_ble_eq_true rfl) dX11_ruleLine_118 ⟨Nat.le_of_ble_eq_true rfl, Nat.le_of_ble_eq_true rfl⟩ (cN := 0) (sN := 0) ⟨rfl, rfl⟩ (fun H locs G => ?_)
            refine lv_aload_n F.1 F.2.1 dX11_ruleLine_121 rfl (lv_at hl 0 rfl) ?_
            obtain ⟨r_22, z_23, hc, h⟩ := op_b2 h
            refine k_callV (rv := (some (.int r_22))) (Wc := (gM T aM z_21)) (W2 := (gM T aM z_23)) (Wn := (gM T aM z_23)) (As := []) (rest := []) F G (mX11_looksUp l D T aM z_21 hc) (cwV 0 F.2.2.2.2 (kg_c kl861 (kg_c kl862 (kg_c kl863 (kg_c kl788 (kg_c kl853 kg_a))))) rfl rfl rfl (by decide +kernel) ⟨Nat.le_of_ble_eq_true rfl, Nat.le_of_ble_eq_true rfl⟩) 0 rfl (q := (RX11, TX11, 35)) rfl rfl (kCut_F G) rfl hl.1 rfl (Nat.le_of_ble_eq_true rfl) dX11_ruleLine_122 ⟨Nat.le_of_ble_eq_true rfl, Nat.le_of_ble_eq_true rfl⟩ (cN := 0) (sN := 0) ⟨rfl, rfl⟩ (fun H locs G => ?_)
            refine lv_istore_n (lv' := [(1, .int r_22), (0, .ref (aM 0))]) F.1 F.2.1 dX11_ruleLine_125 rfl hl (by decide) rfl (fun ls hl => ?_)
            refine lv_aload_n F.1 F.2.1 dX11_ruleLine_126 rfl (lv_at hl 1 rfl) ?_
            obtain ⟨r_24, hc, h⟩ := op_b h
            refine k_callV (rv := (some (.int r_24))) (Wc := (gM T aM z_23)) (W2 := (gM T aM z_23)) (Wn := (gM T aM z_23)) (As := []) (rest := []) F G (mX11_isWrong l D T aM z_23 hc) (cwV 0 F.2.2.2.2 (kg_c kl833 (kg_c kl834 (kg_c kl835 (kg_c kl788 (kg_c kl830 kg_a))))) rfl rfl rfl (by decide +kernel) ⟨Nat.le_of_ble_eq_true rfl, Nat.le_of_ble_eq_true rfl⟩) 0 rfl (q := (RX11, TX11, 35)) rfl rfl (kCut_F G) rfl hl.1 rfl (Nat.le_of_ble_eq_true rfl) dX11_ruleLine_127 ⟨Nat.le_of_ble_eq_true rfl, Nat.le_of_ble_eq_true rfl⟩ (cN := 0) (sN := 0) ⟨rfl, rfl⟩ (fun H locs G => ?_)
            obtain ⟨j143, hj143, h⟩ := op_j h
            have J143 : ∀ (z_25 : Nat → Nat → Int32) (H : Heap) (locs : List Loc) (ls : Array Slot), j143 z_25 = some (zR) → Rg D T A st (gM T aM z_25) H locs → lv_has ls 2 [(0, .ref (aM 0)), (1, .int r_22)] → W pr l en rmX11_ruleLine st mi ag bl me co H locs 0 0 (MQ bl (kQ none D (gM T aM zR) A) ag st rmX11_ruleLine.cells rmX11_ruleLine.slots A) (F0 mi 143 ls []) := by
              intro z_25 H locs ls h G hl
              rw [hj143] at h
              refine lv_aload_n F.1 F.2.1 dX11_ruleLine_143 rfl (lv_at hl 0 rfl) ?_
              obtain ⟨r_26, hc, h⟩ := op_b h
              refine k_callV (rv := (some (.int r_26))) (Wc := (gM T aM z_25)) (W2 := (gM T aM z_25)) (Wn := (gM T aM z_25)) (As := []) (rest := []) F G (mX11_isWrong l D T aM z_25 hc) (cwV 0 F.2.2.2.2 (kg_c kl833 (kg_c kl834 (kg_c kl835 (kg_c kl788 (kg_c kl830 kg_a))))) rfl rfl rfl (by decide +kernel) ⟨Nat.le_of_ble_eq_true rfl, Nat.le_of_ble_eq_true rfl⟩) 0 rfl (q := (RX11, TX11, 35)) rfl rfl (kCut_F G) rfl hl.1 rfl (Nat.le_of_ble_eq_true rfl) dX11_ruleLine_144 ⟨Nat.le_of_ble_eq_true rfl, Nat.le_of_ble_eq_true rfl⟩ (cN := 0) (sN := 0) ⟨rfl, rfl⟩ (fun H locs G => ?_)
              refine lv_if_eq (tgt := 151) F.1 F.2.1 dX11_ruleLine_147 (by decide) (fun c => ?_) (fun c => ?_)
              · have h := op_t h c
                refine lv_aload_n F.1 F.2.1 dX11_ruleLine_151 rfl (lv_at hl 0 rfl) ?_
                refine k_get F G 0 rfl (N := 35) (Tt := TX11) rfl kf11 17 (by decide) kl761 (v := .ref (aM 12)) rfl dX11_ruleLine_152 ?_
                refine lv_iload_n F.1 F.2.1 dX11_ruleLine_155 rfl (lv_at hl 1 rfl) ?_
                refine lv_iconst (v := 1) F.1 F.2.1 dX11_ruleLine_156 (by decide) ?_
                obtain ⟨r_27, hc, h⟩ := op_b h
                refine k_callS (rv := (some (.int r_27))) (Wc := ([] : va_W)) (W2 := ([] : va_W)) (Wn := (gM T aM z_25)) (As := [.int r_22, .int 1]) (rest := [.ref (aM 12)]) F G (mX11_at l D T r_22 1 hc) (va_cwS 2 F.2.2.2.2 (kg_c kl786 (kg_c kl787 (kg_c kl788 (kg_c kl767 kg_a)))) rfl rfl rfl (by decide +kernel) ⟨Nat.le_of_ble_eq_true rfl, Nat.le_of_ble_eq_true rfl⟩) (kCut_0 G) rfl hl.1 rfl (Nat.le_of_ble_eq_true rfl) dX11_ruleLine_157 ⟨Nat.le_of_ble_eq_true rfl, Nat.le_of_ble_eq_true rfl⟩ (cN := 0) (sN := 0) ⟨rfl, rfl⟩ (fun H locs G => ?_)
                refine lv_iconst (v := 0) F.1 F.2.1 dX11_ruleLine_160 (by decide) ?_
                obtain ⟨c, h⟩ := op_g h
                obtain ⟨z_28, e9, h⟩ := op_st h
                refine k_iast F G 12 rfl c dX11_ruleLine_161 (Wn := (gM T aM z_28)) (by subst e9; rfl) (fun H locs G => ?_)
                clear e9
                refine lv_aload_n F.1 F.2.1 dX11_ruleLine_162 rfl (lv_at hl 0 rfl) ?_
                obtain ⟨z_29, hc, h⟩ := op_b h
                refine k_callV (rv := none) (Wc := (gM T aM z_28)) (W2 := (gM T aM z_29)) (Wn := (gM T aM z_29)) (As := []) (rest := []) F G (mX11_token l D T aM z_28 hc) (cwV 0 F.2.2.2.2 (kg_c kl843 (kg_c kl844 (kg_c kl845 (kg_c kl788 (kg_c kl819 kg_a))))) rfl rfl rfl (by decide +kernel) ⟨Nat.le_of_ble_eq_true rfl, Nat.le_of_ble_eq_true rfl⟩) 0 rfl (q := (RX11, TX11, 35)) rfl rfl (kCut_F G) rfl hl.1 rfl (Nat.le_of_ble_eq_true rfl) dX11_ruleLine_163 ⟨Nat.le_of_ble_eq_true rfl, Nat.le_of_ble_eq_true rfl⟩ (cN := 0) (sN := 0) ⟨rfl, rfl⟩ (fun H locs G => ?_)
                refine lv_goto (tgt := 260) F.1 F.2.1 dX11_ruleLine_166 (by decide) ?_
                exact J260 z_29 _ _ _ h G (lv_sub hl [0] rfl)
              · have h := op_f h c
                obtain rfl := op_1 h
                exact k_vret F hr hlk G dX11_ruleLine_150
            clear hj143
            refine lv_if_ne (tgt := 143) F.1 F.2.1 dX11_ruleLine_130 (by decide) (fun c => ?_) (fun c => ?_)
            · have h := op_f h c
              exact J143 z_23 _ _ _ h G (lv_sub hl [1, 0] rfl)
            · have h := op_t h c
              refine lv_iload_n F.1 F.2.1 dX11_ruleLine_133 rfl (lv_at hl 0 rfl) ?_
              refine lv_iconst (v := (-1)) F.1 F.2.1 dX11_ruleLine_134 (by decide) ?_
              refine lv_icmp_ne (tgt := 143) F.1 F.2.1 dX11_ruleLine_135 (by decide) (fun c => ?_) (fun c => ?_)
              · have h := op_f h c
                exact J143 z_23 _ _ _ h G (lv_sub hl [1, 0] rfl)
              · have h := op_t h c
                refine lv_aload_n F.1 F.2.1 dX11_ruleLine_138 rfl (lv_at hl 1 rfl) ?_
                refine lv_iconst (v := 4) F.1 F.2.1 dX11_ruleLine_139 (by decide) ?_
                obtain ⟨z_30, hc, h⟩ := op_b h
                refine k_callV (rv := none) (Wc := (gM T aM z_23)) (W2 := (gM T aM z_30)) (Wn := (gM T aM z_30)) (As := [.int 4]) (rest := []) F G (mX11_fails l D T aM z_23 4 hc) (cwV 1 F.2.2.2.2 (kg_c kl840 (kg_c kl841 (kg_c kl842 (kg_c kl788 (kg_c kl832 kg_a))))) rfl rfl rfl (by decide +kernel) ⟨Nat.le_of_ble_eq_true rfl, Nat.le_of_ble_eq_true rfl⟩) 0 rfl (q := (RX11, TX11, 35)) rfl rfl (kCut_F G) rfl hl.1 rfl (Nat.le_of_ble_eq_true rfl) dX11_ruleLine_140 ⟨Nat.le_of_ble_eq_true rfl, Nat.le_of_ble_eq_true rfl⟩ (cN := 0) (sN := 0) ⟨rfl, rfl⟩ (fun H locs G => ?_)
                exact J143 z_30 _ _ _ h G (lv_sub hl [1, 0] rfl)
        · have h := op_f h c
          refine lv_aload_n F.1 F.2.1 dX11_ruleLine_92 rfl (lv_at hl 0 rfl) ?_
          refine lv_iconst (v := 3) F.1 F.2.1 dX11_ruleLine_93 (by decide) ?_
          obtain ⟨z_31, hc, h⟩ := op_b h
          refine k_callV (rv := none) (Wc := (gM T aM z)) (W2 := (gM T aM z_31)) (Wn := (gM T aM z_31)) (As := [.int 3]) (rest := []) F G (mX11_once l D T aM z 3 hc) (cwV 1 F.2.2.2.2 (kg_c kl876 (kg_c kl877 (kg_c kl878 (kg_c kl788 (kg_c kl859 kg_a))))) rfl rfl rfl (by decide +kernel) ⟨Nat.le_of_ble_eq_true rfl, Nat.le_of_ble_eq_true rfl⟩) 0 rfl (q := (RX11, TX11, 35)) rfl rfl (kCut_F G) rfl hl.1 rfl (Nat.le_of_ble_eq_true rfl) dX11_ruleLine_94 ⟨Nat.le_of_ble_eq_true rfl, Nat.le_of_ble_eq_true rfl⟩ (cN := 0) (sN := 0) ⟨rfl, rfl⟩ (fun H locs G => ?_)
          refine lv_aload_n F.1 F.2.1 dX11_ruleLine_97 rfl (lv_at hl 0 rfl) ?_
          refine k_get F G 0 rfl (N := 35) (Tt := TX11) rfl kf11 17 (by decide) kl761 (v := .ref (aM 12)) rfl dX11_ruleLine_98 ?_
          refine lv_bipush (v := 9) F.1 F.2.1 dX11_ruleLine_101 (by decide) ?_
          refine lv_iconst (v := 1) F.1 F.2.1 dX11_ruleLine_103 (by decide) ?_
          obtain ⟨z_32, e9, h⟩ := op_st h
          refine k_iastN F G 12 rfl (kin (by decide +kernel)) 9 (by decide +kernel) dX11_ruleLine_104 (Wn := (gM T aM z_32)) (by subst e9; rfl) (fun H locs G => ?_)
          clear e9
          refine lv_goto (tgt := 260) F.1 F.2.1 dX11_ruleLine_105 (by decide) ?_
          exact J260 z_32 _ _ _ h G hl
      · have h := op_f h c
        refine lv_aload_n F.1 F.2.1 dX11_ruleLine_61 rfl (lv_at hl 0 rfl) ?_
        refine lv_iconst (v := 2) F.1 F.2.1 dX11_ruleLine_62 (by decide) ?_
        obtain ⟨z_33, hc, h⟩ := op_b h
        refine k_callV (rv := none) (Wc := (gM T aM z)) (W2 := (gM T aM z_33)) (Wn := (gM T aM z_33)) (As := [.int 2]) (rest := []) F G (mX11_once l D T aM z 2 hc) (cwV 1 F.2.2.2.2 (kg_c kl876 (kg_c kl877 (kg_c kl878 (kg_c kl788 (kg_c kl859 kg_a))))) rfl rfl rfl (by decide +kernel) ⟨Nat.le_of_ble_eq_true rfl, Nat.le_of_ble_eq_true rfl⟩) 0 rfl (q := (RX11, TX11, 35)) rfl rfl (kCut_F G) rfl hl.1 rfl (Nat.le_of_ble_eq_true rfl) dX11_ruleLine_63 ⟨Nat.le_of_ble_eq_true rfl, Nat.le_of_ble_eq_true rfl⟩ (cN := 0) (sN := 0) ⟨rfl, rfl⟩ (fun H locs G => ?_)
        refine lv_aload_n F.1 F.2.1 dX11_ruleLine_66 rfl (lv_at hl 0 rfl) ?_
        refine k_get F G 0 rfl (N := 35) (Tt := TX11) rfl kf11 17 (by decide) kl761 (v := .ref (aM 12)) rfl dX11_ruleLine_67 ?_
        refine lv_bipush (v := 8) F.1 F.2.1 dX11_ruleLine_70 (by decide) ?_
        refine lv_aload_n F.1 F.2.1 dX11_ruleLine_72 rfl (lv_at hl 0 rfl) ?_
        refine lv_iconst (v := 2) F.1 F.2.1 dX11_ruleLine_73 (by decide) ?_
        refine lv_bipush (v := 20) F.1 F.2.1 dX11_ruleLine_74 (by decide) ?_
        obtain ⟨r_34, z_35, hc, h⟩ := op_b2 h
        refine k_callV (rv := (some (.int r_34))) (Wc := (gM T aM z_33)) (W2 := (gM T aM z_35)) (Wn := (gM T aM z_35)) (As := [.int 2, .int 20]) (rest := [.int 8, .ref (aM 12)]) F G (mX11_figure l D T aM z_33 2 20 hc) (cwV 2 F.2.2.2.2 (kg_c kl864 (kg_c kl865 (kg_c kl866 (kg_c kl788 (kg_c kl850 kg_a))))) rfl rfl rfl (by decide +kernel) ⟨Nat.le_of_ble_eq_true rfl, Nat.le_of_ble_eq_true rfl⟩) 0 rfl (q := (RX11, TX11, 35)) rfl rfl (kCut_F G) rfl hl.1 rfl (Nat.le_of_ble_eq_true rfl) dX11_ruleLine_76 ⟨Nat.le_of_ble_eq_true rfl, Nat.le_of_ble_eq_true rfl⟩ (cN := 0) (sN := 0) ⟨rfl, rfl⟩ (fun H locs G => ?_)
        obtain ⟨z_36, e9, h⟩ := op_st h
        refine k_iastN F G 12 rfl (kin (by decide +kernel)) 8 (by decide +kernel) dX11_ruleLine_79 (Wn := (gM T aM z_36)) (by subst e9; rfl) (fun H locs G => ?_)
        clear e9
        refine lv_goto (tgt := 260) F.1 F.2.1 dX11_ruleLine_80 (by decide) ?_
        exact J260 z_36 _ _ _ h G hl
    · have h := op_f h c
      refine lv_aload_n F.1 F.2.1 dX11_ruleLine_30 rfl (lv_at hl 0 rfl) ?_
      refine lv_iconst (v := 1) F.1 F.2.1 dX11_ruleLine_31 (by decide) ?_
      obtain ⟨z_37, hc, h⟩ := op_b h
      refine k_callV (rv := none) (Wc := (gM T aM z)) (W2 := (gM T aM z_37)) (Wn := (gM T aM z_37)) (As := [.int 1]) (rest := []) F G (mX11_once l D T aM z 1 hc) (cwV 1 F.2.2.2.2 (kg_c kl876 (kg_c kl877 (kg_c kl878 (kg_c kl788 (kg_c kl859 kg_a))))) rfl rfl rfl (by decide +kernel) ⟨Nat.le_of_ble_eq_true rfl, Nat.le_of_ble_eq_true rfl⟩) 0 rfl (q := (RX11, TX11, 35)) rfl rfl (kCut_F G) rfl hl.1 rfl (Nat.le_of_ble_eq_true rfl) dX11_ruleLine_32 ⟨Nat.le_of_ble_eq_true rfl, Nat.le_of_ble_eq_true rfl⟩ (cN := 0) (sN := 0) ⟨rfl, rfl⟩ (fun H locs G => ?_)
      refine lv_aload_n F.1 F.2.1 dX11_ruleLine_35 rfl (lv_at hl 0 rfl) ?_
      refine k_get F G 0 rfl (N := 35) (Tt := TX11) rfl kf11 17 (by decide) kl761 (v := .ref (aM 12)) rfl dX11_ruleLine_36 ?_
      refine lv_bipush (v := 7) F.1 F.2.1 dX11_ruleLine_39 (by decide) ?_
      refine lv_aload_n F.1 F.2.1 dX11_ruleLine_41 rfl (lv_at hl 0 rfl) ?_
      refine lv_iconst (v := 1) F.1 F.2.1 dX11_ruleLine_42 (by decide) ?_
      refine lv_bipush (v := 20) F.1 F.2.1 dX11_ruleLine_43 (by decide) ?_
      obtain ⟨r_38, z_39, hc, h⟩ := op_b2 h
      refine k_callV (rv := (some (.int r_38))) (Wc := (gM T aM z_37)) (W2 := (gM T aM z_39)) (Wn := (gM T aM z_39)) (As := [.int 1, .int 20]) (rest := [.int 7, .ref (aM 12)]) F G (mX11_figure l D T aM z_37 1 20 hc) (cwV 2 F.2.2.2.2 (kg_c kl864 (kg_c kl865 (kg_c kl866 (kg_c kl788 (kg_c kl850 kg_a))))) rfl rfl rfl (by decide +kernel) ⟨Nat.le_of_ble_eq_true rfl, Nat.le_of_ble_eq_true rfl⟩) 0 rfl (q := (RX11, TX11, 35)) rfl rfl (kCut_F G) rfl hl.1 rfl (Nat.le_of_ble_eq_true rfl) dX11_ruleLine_45 ⟨Nat.le_of_ble_eq_true rfl, Nat.le_of_ble_eq_true rfl⟩ (cN := 0) (sN := 0) ⟨rfl, rfl⟩ (fun H locs G => ?_)
      obtain ⟨z_40, e9, h⟩ := op_st h
      refine k_iastN F G 12 rfl (kin (by decide +kernel)) 7 (by decide +kernel) dX11_ruleLine_48 (Wn := (gM T aM z_40)) (by subst e9; rfl) (fun H locs G => ?_)
      clear e9
      refine lv_goto (tgt := 260) F.1 F.2.1 dX11_ruleLine_49 (by decide) ?_
      exact J260 z_40 _ _ _ h G hl
  · have h := op_f h c
    refine lv_aload_n F.1 F.2.1 dX11_ruleLine_9 rfl (lv_at hl 0 rfl) ?_
    refine lv_iconst (v := 0) F.1 F.2.1 dX11_ruleLine_10 (by decide) ?_
    obtain ⟨z_41, hc, h⟩ := op_b h
    refine k_callV (rv := none) (Wc := (gM T aM z)) (W2 := (gM T aM z_41)) (Wn := (gM T aM z_41)) (As := [.int 0]) (rest := []) F G (mX11_once l D T aM z 0 hc) (cwV 1 F.2.2.2.2 (kg_c kl876 (kg_c kl877 (kg_c kl878 (kg_c kl788 (kg_c kl859 kg_a))))) rfl rfl rfl (by decide +kernel) ⟨Nat.le_of_ble_eq_true rfl, Nat.le_of_ble_eq_true rfl⟩) 0 rfl (q := (RX11, TX11, 35)) rfl rfl (kCut_F G) rfl hl.1 rfl (Nat.le_of_ble_eq_true rfl) dX11_ruleLine_11 ⟨Nat.le_of_ble_eq_true rfl, Nat.le_of_ble_eq_true rfl⟩ (cN := 0) (sN := 0) ⟨rfl, rfl⟩ (fun H locs G => ?_)
    refine lv_aload_n F.1 F.2.1 dX11_ruleLine_14 rfl (lv_at hl 0 rfl) ?_
    obtain ⟨z_42, hc, h⟩ := op_b h
    refine k_callV (rv := none) (Wc := (gM T aM z_41)) (W2 := (gM T aM z_42)) (Wn := (gM T aM z_42)) (As := []) (rest := []) F G (mX11_scriptHere l D T aM z_41 hc) (cwV 0 F.2.2.2.2 (kg_c kl879 (kg_c kl880 (kg_c kl881 (kg_c kl788 (kg_c kl871 kg_a))))) rfl rfl rfl (by decide +kernel) ⟨Nat.le_of_ble_eq_true rfl, Nat.le_of_ble_eq_true rfl⟩) 0 rfl (q := (RX11, TX11, 35)) rfl rfl (kCut_F G) rfl hl.1 rfl (Nat.le_of_ble_eq_true rfl) dX11_ruleLine_15 ⟨Nat.le_of_ble_eq_true rfl, Nat.le_of_ble_eq_true rfl⟩ (cN := 0) (sN := 0) ⟨rfl, rfl⟩ (fun H locs G => ?_)
    refine lv_goto (tgt := 260) F.1 F.2.1 dX11_ruleLine_18 (by decide) ?_
    exact J260 z_42 _ _ _ h G hl
abbrev rmX11_clearsTold : Room := ({ frames := 0, cells := 0, slots := 0, locals := 0 } : Room)
noncomputable def qX11_clearsTold_L2 (K : (Nat → Nat → Int32) → Option ((Nat → Nat → Int32))) : Nat → Int32 → (Nat → Nat → Int32) → Option ((Nat → Nat → Int32))
  | 0, _, _ => none
  | n + 1, x1_1, z_2 =>
    if 411 ≤ x1_1 then (K z_2) else gd (vp_in x1_1 411) (bs (va_up z_2 17 (upd (z_2 17) x1_1.toNatClampNeg 0)) fun z_4 => (qX11_clearsTold_L2 K n (x1_1 + 1) z_4))

noncomputable def qX11_clearsTold (z : Nat → Nat → Int32) : Option ((Nat → Nat → Int32)) :=
  (qX11_clearsTold_L2   (fun (z_3 : Nat → Nat → Int32) => (bs (va_up z_3 17 (upd (z_3 17) 7 3)) fun z_5 => (bs (va_up z_5 17 (upd (z_5 17) 8 4)) fun z_6 => (bs (va_up z_6 30 (fun _ => 0)) fun z_7 => (bs (va_up z_7 31 (fun _ => 0)) fun z_8 => (bs (va_up z_8 32 (fun _ => 0)) fun z_9 => (bs (va_up z_9 33 (fun _ => 0)) fun z_10 => (bs (va_up z_10 34 (fun _ => 0)) fun z_11 => some z_11)))))))) fu 0 z)

set_option maxHeartbeats 4000000 in
set_option maxRecDepth 100000 in
theorem mX11_clearsTold (l : Launch) (D : va_G) (T : Nat → ClassId) (aM : Nat → Nat) (z : Nat → Nat → Int32) {zR : Nat → Nat → Int32} (hres : qX11_clearsTold z = some (zR)) : Ct l yX11_clearsTold (Cond.code yX11_clearsTold cX11_clearsTold 2 none :: kAll) rmX11_clearsTold D T [.ref (aM 0)] (gM T aM z) none (gM T aM zR) := by
  refine Ct.of (cc := cX11_clearsTold) (maxL := 2) (ret := none) (by decide +kernel) rfl (Nat.le_of_ble_eq_true rfl) ?_
  intro pr en st mi ag bl me co A ls F hr hlk hnm G hl
  have hl : lv_has ls 2 [(0, .ref (aM 0))] := hl
  have h := hres
  unfold qX11_clearsTold at h
  refine lv_iconst (v := 0) F.1 F.2.1 dX11_clearsTold_0 (by decide) ?_
  refine lv_istore_n (lv' := [(1, .int 0), (0, .ref (aM 0))]) F.1 F.2.1 dX11_clearsTold_1 rfl hl (by decide) rfl (fun ls hl => ?_)
  have L2 : ∀ (K : (Nat → Nat → Int32) → Option ((Nat → Nat → Int32))) (hK : ∀ (z_3 : Nat → Nat → Int32) (H : Heap) (locs : List Loc) (ls : Array Slot), K z_3 = some (zR) → Rg D T A st (gM T aM z_3) H locs → lv_has ls 2 [(0, .ref (aM 0))] → W pr l en rmX11_clearsTold st mi ag bl me co H locs 0 0 (MQ bl (kQ none D (gM T aM zR) A) ag st rmX11_clearsTold.cells rmX11_clearsTold.slots A) (F0 mi 22 ls [])) (n : Nat) (x1_1 : Int32) (z_2 : Nat → Nat → Int32) (H : Heap) (locs : List Loc) (ls : Array Slot), qX11_clearsTold_L2 K n x1_1 z_2 = some (zR) → Rg D T A st (gM T aM z_2) H locs → lv_has ls 2 [(0, .ref (aM 0)), (1, .int x1_1)] → W pr l en rmX11_clearsTold st mi ag bl me co H locs 0 0 (MQ bl (kQ none D (gM T aM zR) A) ag st rmX11_clearsTold.cells rmX11_clearsTold.slots A) (F0 mi 2 ls []) := by
    intro K hK n
    induction n with
    | zero => intro x1_1 z_2 H locs ls h; exact op_n h
    | succ n ih =>
      intro x1_1 z_2 H locs ls h G hl
      rw [qX11_clearsTold_L2] at h
      refine lv_iload_n F.1 F.2.1 dX11_clearsTold_2 rfl (lv_at hl 1 rfl) ?_
      refine lv_sipush (v := 411) F.1 F.2.1 dX11_clearsTold_3 (by decide) ?_
      refine lv_icmp_ge (tgt := 22) F.1 F.2.1 dX11_clearsTold_6 (by decide) (fun c => ?_) (fun c => ?_)
      · have h := op_t h c
        exact hK z_2 _ _ _ h G (lv_sub hl [0] rfl)
      · have h := op_f h c
        refine lv_aload_n F.1 F.2.1 dX11_clearsTold_9 rfl (lv_at hl 0 rfl) ?_
        refine k_get F G 0 rfl (N := 35) (Tt := TX11) rfl kf11 17 (by decide) kl761 (v := .ref (aM 12)) rfl dX11_clearsTold_10 ?_
        refine lv_iload_n F.1 F.2.1 dX11_clearsTold_13 rfl (lv_at hl 1 rfl) ?_
        refine lv_iconst (v := 0) F.1 F.2.1 dX11_clearsTold_14 (by decide) ?_
        obtain ⟨c, h⟩ := op_g h
        obtain ⟨z_4, e9, h⟩ := op_st h
        refine k_iast F G 12 rfl c dX11_clearsTold_15 (Wn := (gM T aM z_4)) (by subst e9; rfl) (fun H locs G => ?_)
        clear e9
        refine lv_iinc (v := (x1_1 + 1)) (lv' := [(1, .int (x1_1 + 1)), (0, .ref (aM 0))]) F.1 F.2.1 dX11_clearsTold_16 hl (k := 1) rfl rfl (by decide) rfl (fun ls hl => ?_)
        refine lv_goto (tgt := 2) F.1 F.2.1 dX11_clearsTold_19 (by decide) ?_
        exact ih (x1_1 + 1) z_4 _ _ _ h G (lv_sub hl [1, 0] rfl)
  refine L2   _ (fun z_3 H locs ls h G hl => ?_) fu 0 z _ _ _ h G (lv_sub hl [1, 0] rfl)
  clear L2
  refine lv_aload_n F.1 F.2.1 dX11_clearsTold_22 rfl (lv_at hl 0 rfl) ?_
  refine k_get F G 0 rfl (N := 35) (Tt := TX11) rfl kf11 17 (by decide) kl761 (v := .ref (aM 12)) rfl dX11_clearsTold_23 ?_
  refine lv_bipush (v := 7) F.1 F.2.1 dX11_clearsTold_26 (by decide) ?_
  refine lv_iconst (v := 3) F.1 F.2.1 dX11_clearsTold_28 (by decide) ?_
  obtain ⟨z_5, e9, h⟩ := op_st h
  refine k_iastN F G 12 rfl (kin (by decide +kernel)) 7 (by decide +kernel) dX11_clearsTold_29 (Wn := (gM T aM z_5)) (by subst e9; rfl) (fun H locs G => ?_)
  clear e9
  refine lv_aload_n F.1 F.2.1 dX11_clearsTold_30 rfl (lv_at hl 0 rfl) ?_
  refine k_get F G 0 rfl (N := 35) (Tt := TX11) rfl kf11 17 (by decide) kl761 (v := .ref (aM 12)) rfl dX11_clearsTold_31 ?_
  refine lv_bipush (v := 8) F.1 F.2.1 dX11_clearsTold_34 (by decide) ?_
  refine lv_iconst (v := 4) F.1 F.2.1 dX11_clearsTold_36 (by decide) ?_
  obtain ⟨z_6, e9, h⟩ := op_st h
  refine k_iastN F G 12 rfl (kin (by decide +kernel)) 8 (by decide +kernel) dX11_clearsTold_37 (Wn := (gM T aM z_6)) (by subst e9; rfl) (fun H locs G => ?_)
  clear e9
  refine lv_aload_n F.1 F.2.1 dX11_clearsTold_38 rfl (lv_at hl 0 rfl) ?_
  refine lv_iconst (v := 0) F.1 F.2.1 dX11_clearsTold_39 (by decide) ?_
  obtain ⟨z_7, e9, h⟩ := op_st h
  refine k_put F G 0 rfl (N := 35) (Tt := TX11) rfl kf11 tyX11_ok nmX11 30 (by decide) kl762 rfl (v := .int 0) rfl rfl (Nat.le_of_ble_eq_true rfl) dX11_clearsTold_40 (Wn := (gM T aM z_7)) (by subst e9; rfl) (fun H locs G => ?_)
  clear e9
  refine lv_aload_n F.1 F.2.1 dX11_clearsTold_43 rfl (lv_at hl 0 rfl) ?_
  refine lv_iconst (v := 0) F.1 F.2.1 dX11_clearsTold_44 (by decide) ?_
  obtain ⟨z_8, e9, h⟩ := op_st h
  refine k_put F G 0 rfl (N := 35) (Tt := TX11) rfl kf11 tyX11_ok nmX11 31 (by decide) kl763 rfl (v := .int 0) rfl rfl (Nat.le_of_ble_eq_true rfl) dX11_clearsTold_45 (Wn := (gM T aM z_8)) (by subst e9; rfl) (fun H locs G => ?_)
  clear e9
  refine lv_aload_n F.1 F.2.1 dX11_clearsTold_48 rfl (lv_at hl 0 rfl) ?_
  refine lv_iconst (v := 0) F.1 F.2.1 dX11_clearsTold_49 (by decide) ?_
  obtain ⟨z_9, e9, h⟩ := op_st h
  refine k_put F G 0 rfl (N := 35) (Tt := TX11) rfl kf11 tyX11_ok nmX11 32 (by decide) kl764 rfl (v := .int 0) rfl rfl (Nat.le_of_ble_eq_true rfl) dX11_clearsTold_50 (Wn := (gM T aM z_9)) (by subst e9; rfl) (fun H locs G => ?_)
  clear e9
  refine lv_aload_n F.1 F.2.1 dX11_clearsTold_53 rfl (lv_at hl 0 rfl) ?_
  refine lv_iconst (v := 0) F.1 F.2.1 dX11_clearsTold_54 (by decide) ?_
  obtain ⟨z_10, e9, h⟩ := op_st h
  refine k_put F G 0 rfl (N := 35) (Tt := TX11) rfl kf11 tyX11_ok nmX11 33 (by decide) kl765 rfl (v := .int 0) rfl rfl (Nat.le_of_ble_eq_true rfl) dX11_clearsTold_55 (Wn := (gM T aM z_10)) (by subst e9; rfl) (fun H locs G => ?_)
  clear e9
  refine lv_aload_n F.1 F.2.1 dX11_clearsTold_58 rfl (lv_at hl 0 rfl) ?_
  refine lv_iconst (v := 0) F.1 F.2.1 dX11_clearsTold_59 (by decide) ?_
  obtain ⟨z_11, e9, h⟩ := op_st h
  refine k_put F G 0 rfl (N := 35) (Tt := TX11) rfl kf11 tyX11_ok nmX11 34 (by decide) kl766 rfl (v := .int 0) rfl rfl (Nat.le_of_ble_eq_true rfl) dX11_clearsTold_60 (Wn := (gM T aM z_11)) (by subst e9; rfl) (fun H locs G => ?_)
  clear e9
  obtain rfl := op_1 h
  exact k_vret F hr hlk G dX11_clearsTold_63
