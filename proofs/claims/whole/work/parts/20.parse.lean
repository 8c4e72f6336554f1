-- the pictures of the text and its parser
def gT (T : Nat → ClassId) (aR : Nat → Nat) (tx : Nat → Nat → Int32) : va_W :=
  [(aR 0, .inr (6, [.ref (aR 1), .int (tx 0 0)])),
   (aR 1, .inl (T 2, 900, .inl (tx 1)))]
def gR (T : Nat → ClassId) (aR : Nat → Nat) (aD : Nat → Nat) (tx : Nat → Nat → Int32) (ps : Nat → Nat → Int32) (nm : Nat → Int64) : va_W :=
  [(aR 0, .inr (6, [.ref (aR 1), .int (tx 0 0)])),
   (aR 1, .inl (T 2, 900, .inl (tx 1))),
   (aR 2, .inr (7, [.ref (aR 0), .int (ps 0 0), .int (ps 1 0), .int (ps 2 0)])),
   (aR 3, .inr (4, [.ref (aR 0), .ref (aR 2), .ref (aD 0), .int (ps 3 0), .int (ps 4 0), .int (ps 5 0)])),
   (aD 0, .inr (5, [.int (ps 6 0), .ref (aD 9), .ref (aD 1), .ref (aD 2), .ref (aD 3), .ref (aD 4), .ref (aD 5), .ref (aD 6), .int (ps 7 0), .int (ps 8 0), .int (ps 9 0), .int (ps 10 0), .int (ps 11 0), .int (ps 12 0), .int (ps 13 0), .int (ps 14 0), .ref (aD 7), .ref (aD 8)])),
   (aD 1, .inl (T 0, 12, .inl (ps 15))),
   (aD 2, .inl (T 0, 12, .inl (ps 16))),
   (aD 3, .inl (T 0, 12, .inl (ps 17))),
   (aD 4, .inl (T 0, 12, .inl (ps 18))),
   (aD 5, .inl (T 0, 12, .inl (ps 19))),
   (aD 6, .inl (T 0, 12, .inl (ps 20))),
   (aD 7, .inl (T 0, 4, .inl (ps 21))),
   (aD 8, .inl (T 0, 4, .inl (ps 22))),
   (aD 9, .inl (T 1, 12, .inr (.inl nm)))]
abbrev rmX6_addBytes : Room := ({ frames := 0, cells := 0, slots := 0, locals := 0 } : Room)
noncomputable def qX6_addBytes_L3 (x1_1 : Int32) (K : (Nat → Nat → Int32) → Option ((Nat → Nat → Int32))) : Nat → Int32 → (Nat → Nat → Int32) → Option ((Nat → Nat → Int32))
  | 0, _, _ => none
  | n + 1, x2_2, tx_3 =>
    if x2_2 < 0 then (K tx_3) else if 900 ≤ (tx_3 0 0) then (K tx_3) else gd (vp_in (tx_3 0 0) 900) (bs (va_up tx_3 1 (upd (tx_3 1) (tx_3 0 0).toNatClampNeg (vp_nar .byte ((x1_1 >>> (x2_2 &&& 31)).toInt8.toInt32)))) fun tx_5 => (bs (va_up tx_5 0 (fun _ => ((tx_5 0 0) + 1))) fun tx_6 => (qX6_addBytes_L3 x1_1 K n (x2_2 + (-8)) tx_6)))

noncomputable def qX6_addBytes (tx : Nat → Nat → Int32) (x1 : Int32) : Option ((Nat → Nat → Int32)) :=
  (qX6_addBytes_L3  x1 (fun (tx_4 : Nat → Nat → Int32) => some tx_4) fu 24 tx)

set_option maxHeartbeats 4000000 in
set_option maxRecDepth 100000 in
theorem mX6_addBytes (l : Launch) (D : va_G) (T : Nat → ClassId) (aR : Nat → Nat) (tx : Nat → Nat → Int32) (x1 : Int32) {txR : Nat → Nat → Int32} (hres : qX6_addBytes tx x1 = some (txR)) : Ct l yX6_addBytes (Cond.code yX6_addBytes cX6_addBytes 3 none :: kAll) rmX6_addBytes D T [.ref (aR 0), .int x1] (gT T aR tx) none (gT T aR txR) := by
  refine Ct.of (cc := cX6_addBytes) (maxL := 3) (ret := none) (by decide +kernel) rfl (Nat.le_of_ble_eq_true rfl) ?_
  intro pr en st mi ag bl me co A ls F hr hlk hnm G hl
  have hl : lv_has ls 3 [(0, .ref (aR 0)), (1, .int x1)] := hl
  have h := hres
  unfold qX6_addBytes at h
  refine lv_bipush (v := 24) F.1 F.2.1 dX6_addBytes_0 (by decide) ?_
  refine lv_istore_n (lv' := [(2, .int 24), (0, .ref (aR 0)), (1, .int x1)]) F.1 F.2.1 dX6_addBytes_2 rfl hl (by decide) rfl (fun ls hl => ?_)
  have L3 : ∀ (x1_1 : Int32) (K : (Nat → Nat → Int32) → Option ((Nat → Nat → Int32))) (hK : ∀ (tx_4 : Nat → Nat → Int32) (H : Heap) (locs : List Loc) (ls : Array Slot), K tx_4 = some (txR) → Rg D T A st (gT T aR tx_4) H locs → lv_has ls 3 [] → W pr l en rmX6_addBytes st mi ag bl me co H locs 0 0 (MQ bl (kQ none D (gT T aR txR) A) ag st rmX6_addBytes.cells rmX6_addBytes.slots A) (F0 mi 48 ls [])) (n : Nat) (x2_2 : Int32) (tx_3 : Nat → Nat → Int32) (H : Heap) (locs : List Loc) (ls : Array Slot), qX6_addBytes_L3 x1_1 K n x2_2 tx_3 = some (txR) → Rg D T A st (gT T aR tx_3) H locs → lv_has ls 3 [(0, .ref (aR 0)), (1, .int x1_1), (2, .int x2_2)] → W pr l en rmX6_addBytes st mi ag bl me co H locs 0 0 (MQ bl (kQ none D (gT T aR txR) A) ag st rmX6_addBytes.cells rmX6_addBytes.slots A) (F0 mi 3 ls []) := by
    intro x1_1 K hK n
    induction n with
    | zero => intro x2_2 tx_3 H locs ls h; exact op_n h
    | succ n ih =>
      intro x2_2 tx_3 H locs ls h G hl
      rw [qX6_addBytes_L3] at h
      refine lv_iload_n F.1 F.2.1 dX6_addBytes_3 rfl (lv_at hl 2 rfl) ?_
      refine lv_if_lt (tgt := 48) F.1 F.2.1 dX6_addBytes_4 (by decide) (fun c => ?_) (fun c => ?_)
      · have h := op_t h c
        exact hK tx_3 _ _ _ h G (lv_sub hl [] rfl)
      · have h := op_f h c
        refine lv_aload_n F.1 F.2.1 dX6_addBytes_7 rfl (lv_at hl 0 rfl) ?_
        refine k_get F G 0 rfl (N := 2) (Tt := TX6) rfl kf6 1 (by decide) kl243 (v := .int (tx_3 0 0)) rfl dX6_addBytes_8 ?_
        refine lv_aload_n F.1 F.2.1 dX6_addBytes_11 rfl (lv_at hl 0 rfl) ?_
        refine k_get F G 0 rfl (N := 2) (Tt := TX6) rfl kf6 0 (by decide) kl244 (v := .ref (aR 1)) rfl dX6_addBytes_12 ?_
        refine k_alen F G 1 2 rfl rfl (v := 900) rfl dX6_addBytes_15 ?_
        refine lv_icmp_ge (tgt := 48) F.1 F.2.1 dX6_addBytes_16 (by decide) (fun c => ?_) (fun c => ?_)
        · have h := op_t h c
          exact hK tx_3 _ _ _ h G (lv_sub hl [] rfl)
        · have h := op_f h c
          refine lv_aload_n F.1 F.2.1 dX6_addBytes_19 rfl (lv_at hl 0 rfl) ?_
          refine k_get F G 0 rfl (N := 2) (Tt := TX6) rfl kf6 0 (by decide) kl244 (v := .ref (aR 1)) rfl dX6_addBytes_20 ?_
          refine lv_aload_n F.1 F.2.1 dX6_addBytes_23 rfl (lv_at hl 0 rfl) ?_
          refine k_get F G 0 rfl (N := 2) (Tt := TX6) rfl kf6 1 (by decide) kl243 (v := .int (tx_3 0 0)) rfl dX6_addBytes_24 ?_
          refine lv_iload_n F.1 F.2.1 dX6_addBytes_27 rfl (lv_at hl 1 rfl) ?_
          refine lv_iload_n F.1 F.2.1 dX6_addBytes_28 rfl (lv_at hl 2 rfl) ?_
          refine lv_ishr F.1 F.2.1 dX6_addBytes_29 ?_
          refine lv_i2b (v := (x1_1 >>> (x2_2 &&& 31)).toInt8.toInt32) F.1 F.2.1 dX6_addBytes_30 rfl ?_
          obtain ⟨c, h⟩ := op_g h
          obtain ⟨tx_5, e9, h⟩ := op_st h
          refine k_bast F G 1 rfl c dX6_addBytes_31 (Wn := (gT T aR tx_5)) (by subst e9; rfl) (fun H locs G => ?_)
          clear e9
          refine lv_aload_n F.1 F.2.1 dX6_addBytes_32 rfl (lv_at hl 0 rfl) ?_
          refine lv_dup F.1 F.2.1 dX6_addBytes_33 rfl ?_
          refine k_get F G 0 rfl (N := 2) (Tt := TX6) rfl kf6 1 (by decide) kl243 (v := .int (tx_5 0 0)) rfl dX6_addBytes_34 ?_
          refine lv_iconst (v := 1) F.1 F.2.1 dX6_addBytes_37 (by decide) ?_
          refine lv_iadd F.1 F.2.1 dX6_addBytes_38 ?_
          obtain ⟨tx_6, e9, h⟩ := op_st h
          refine k_put F G 0 rfl (N := 2) (Tt := TX6) rfl kf6 tyX6_ok nmX6 1 (by decide) kl243 rfl (v := .int ((tx_5 0 0) + 1)) rfl rfl (Nat.le_of_ble_eq_true rfl) dX6_addBytes_39 (Wn := (gT T aR tx_6)) (by subst e9; rfl) (fun H locs G => ?_)
          clear e9
          refine lv_iinc (v := (x2_2 + (-8))) (lv' := [(2, .int (x2_2 + (-8))), (0, .ref (aR 0)), (1, .int x1_1)]) F.1 F.2.1 dX6_addBytes_42 hl (k := 2) rfl rfl (by decide) rfl (fun ls hl => ?_)
          refine lv_goto (tgt := 3) F.1 F.2.1 dX6_addBytes_45 (by decide) ?_
          exact ih (x2_2 + (-8)) tx_6 _ _ _ h G (lv_sub hl [1, 2, 0] rfl)
  refine L3  x1 _ (fun tx_4 H locs ls h G hl => ?_) fu 24 tx _ _ _ h G (lv_sub hl [1, 2, 0] rfl)
  clear L3
  obtain rfl := op_1 h
  exact k_vret F hr hlk G dX6_addBytes_48
abbrev rmX6_byteAt : Room := ({ frames := 0, cells := 0, slots := 0, locals := 0 } : Room)
noncomputable def qX6_byteAt (tx : Nat → Nat → Int32) (x1 : Int32) : Option (Int32) :=
  if x1 < 0 then some (-1) else if x1 < (tx 0 0) then gd (vp_in x1 900) (some (((tx 1) x1.toNatClampNeg) &&& 255)) else some (-1)

set_option maxHeartbeats 4000000 in
set_option maxRecDepth 100000 in
theorem mX6_byteAt (l : Launch) (D : va_G) (T : Nat → ClassId) (aR : Nat → Nat) (tx : Nat → Nat → Int32) (x1 : Int32) {rR : Int32} (hres : qX6_byteAt tx x1 = some (rR)) : Ct l yX6_byteAt (Cond.code yX6_byteAt cX6_byteAt 2 (some .int) :: kAll) rmX6_byteAt D T [.ref (aR 0), .int x1] (gT T aR tx) (some (.int rR)) (gT T aR tx) := by
  refine Ct.of (cc := cX6_byteAt) (maxL := 2) (ret := (some .int)) (by decide +kernel) rfl (Nat.le_of_ble_eq_true rfl) ?_
  intro pr en st mi ag bl me co A ls F hr hlk hnm G hl
  have hl : lv_has ls 2 [(0, .ref (aR 0)), (1, .int x1)] := hl
  have h := hres
  unfold qX6_byteAt at h
  refine lv_iload_n F.1 F.2.1 dX6_byteAt_0 rfl (lv_at hl 1 rfl) ?_
  refine lv_if_lt (tgt := 12) F.1 F.2.1 dX6_byteAt_1 (by decide) (fun c => ?_) (fun c => ?_)
  · have h := op_t h c
    refine lv_iconst (v := (-1)) F.1 F.2.1 dX6_byteAt_12 (by decide) ?_
    refine lv_goto (tgt := 26) F.1 F.2.1 dX6_byteAt_13 (by decide) ?_
    obtain rfl := op_1 h
    exact k_iret F hr hlk G dX6_byteAt_26
  · have h := op_f h c
    refine lv_iload_n F.1 F.2.1 dX6_byteAt_4 rfl (lv_at hl 1 rfl) ?_
    refine lv_aload_n F.1 F.2.1 dX6_byteAt_5 rfl (lv_at hl 0 rfl) ?_
    refine k_get F G 0 rfl (N := 2) (Tt := TX6) rfl kf6 1 (by decide) kl243 (v := .int (tx 0 0)) rfl dX6_byteAt_6 ?_
    refine lv_icmp_lt (tgt := 16) F.1 F.2.1 dX6_byteAt_9 (by decide) (fun c => ?_) (fun c => ?_)
    · have h := op_t h c
      refine lv_aload_n F.1 F.2.1 dX6_byteAt_16 rfl (lv_at hl 0 rfl) ?_
      refine k_get F G 0 rfl (N := 2) (Tt := TX6) rfl kf6 0 (by decide) kl244 (v := .ref (aR 1)) rfl dX6_byteAt_17 ?_
      refine lv_iload_n F.1 F.2.1 dX6_byteAt_20 rfl (lv_at hl 1 rfl) ?_
      obtain ⟨c, h⟩ := op_g h
      refine k_bald F G 1 rfl c dX6_byteAt_21 ?_
      refine lv_sipush (v := 255) F.1 F.2.1 dX6_byteAt_22 (by decide) ?_
      refine lv_iand F.1 F.2.1 dX6_byteAt_25 ?_
      obtain rfl := op_1 h
      exact k_iret F hr hlk G dX6_byteAt_26
    · have h := op_f h c
      refine lv_iconst (v := (-1)) F.1 F.2.1 dX6_byteAt_12 (by decide) ?_
      refine lv_goto (tgt := 26) F.1 F.2.1 dX6_byteAt_13 (by decide) ?_
      obtain rfl := op_1 h
      exact k_iret F hr hlk G dX6_byteAt_26
abbrev rmX6_kindAt : Room := ({ frames := 0, cells := 0, slots := 0, locals := 0 } : Room)
noncomputable def qX6_kindAt (tx : Nat → Nat → Int32) (x1 : Int32) : Option (Int32) :=
  if x1 < 0 then some 0 else if x1 < (tx 0 0) then gd (vp_in x1 900) ((jn (fun (_ : Unit) => (jn (fun (_ : Unit) => (if ((tx 1) x1.toNatClampNeg) = 10 then some 4 else if ((tx 1) x1.toNatClampNeg) = 32 then some 4 else if ((tx 1) x1.toNatClampNeg) = 59 then some 3 else some 5)) fun j49 => if ((tx 1) x1.toNatClampNeg) < 48 then (j49 ()) else if 57 < ((tx 1) x1.toNatClampNeg) then (j49 ()) else some 2)) fun j35 => if ((tx 1) x1.toNatClampNeg) < 97 then (j35 ()) else if 122 < ((tx 1) x1.toNatClampNeg) then (j35 ()) else some 1)) else some 0

set_option maxHeartbeats 4000000 in
set_option maxRecDepth 100000 in
theorem mX6_kindAt (l : Launch) (D : va_G) (T : Nat → ClassId) (aR : Nat → Nat) (tx : Nat → Nat → Int32) (x1 : Int32) {rR : Int32} (hres : qX6_kindAt tx x1 = some (rR)) : Ct l yX6_kindAt (Cond.code yX6_kindAt cX6_kindAt 3 (some .int) :: kAll) rmX6_kindAt D T [.ref (aR 0), .int x1] (gT T aR tx) (some (.int rR)) (gT T aR tx) := by
  refine Ct.of (cc := cX6_kindAt) (maxL := 3) (ret := (some .int)) (by decide +kernel) rfl (Nat.le_of_ble_eq_true rfl) ?_
  intro pr en st mi ag bl me co A ls F hr hlk hnm G hl
  have hl : lv_has ls 3 [(0, .ref (aR 0)), (1, .int x1)] := hl
  have h := hres
  unfold qX6_kindAt at h
  refine lv_iload_n F.1 F.2.1 dX6_kindAt_0 rfl (lv_at hl 1 rfl) ?_
  refine lv_if_lt (tgt := 12) F.1 F.2.1 dX6_kindAt_1 (by decide) (fun c => ?_) (fun c => ?_)
  · have h := op_t h c
    refine lv_iconst (v := 0) F.1 F.2.1 dX6_kindAt_12 (by decide) ?_
    obtain rfl := op_1 h
    exact k_iret F hr hlk G dX6_kindAt_13
  · have h := op_f h c
    refine lv_iload_n F.1 F.2.1 dX6_kindAt_4 rfl (lv_at hl 1 rfl) ?_
    refine lv_aload_n F.1 F.2.1 dX6_kindAt_5 rfl (lv_at hl 0 rfl) ?_
    refine k_get F G 0 rfl (N := 2) (Tt := TX6) rfl kf6 1 (by decide) kl243 (v := .int (tx 0 0)) rfl dX6_kindAt_6 ?_
    refine lv_icmp_lt (tgt := 14) F.1 F.2.1 dX6_kindAt_9 (by decide) (fun c => ?_) (fun c => ?_)
    · have h := op_t h c
      refine lv_aload_n F.1 F.2.1 dX6_kindAt_14 rfl (lv_at hl 0 rfl) ?_
      refine k_get F G 0 rfl (N := 2) (Tt := TX6) rfl kf6 0 (by decide) kl244 (v := .ref (aR 1)) rfl dX6_kindAt_15 ?_
      refine lv_iload_n F.1 F.2.1 dX6_kindAt_18 rfl (lv_at hl 1 rfl) ?_
      obtain ⟨c, h⟩ := op_g h
      refine k_bald F G 1 rfl c dX6_kindAt_19 ?_
      refine lv_istore_n (lv' := [(2, .int ((tx 1) x1.toNatClampNeg)), (0, .ref (aR 0)), (1, .int x1)]) F.1 F.2.1 dX6_kindAt_20 rfl hl (by decide) rfl (fun ls hl => ?_)
      refine lv_iload_n F.1 F.2.1 dX6_kindAt_21 rfl (lv_at hl 0 rfl) ?_
      refine lv_bipush (v := 97) F.1 F.2.1 dX6_kindAt_22 (by decide) ?_
      obtain ⟨j35, hj35, h⟩ := op_j h
      have J35 : ∀ (H : Heap) (locs : List Loc) (ls : Array Slot), j35 () = some (rR) → Rg D T A st (gT T aR tx) H locs → lv_has ls 3 [(2, .int ((tx 1) x1.toNatClampNeg))] → W pr l en rmX6_kindAt st mi ag bl me co H locs 0 0 (MQ bl (kQ (some (.int rR)) D (gT T aR tx) A) ag st rmX6_kindAt.cells rmX6_kindAt.slots A) (F0 mi 35 ls []) := by
        intro H locs ls h G hl
        rw [hj35] at h
        refine lv_iload_n F.1 F.2.1 dX6_kindAt_35 rfl (lv_at hl 0 rfl) ?_
        refine lv_bipush (v := 48) F.1 F.2.1 dX6_kindAt_36 (by decide) ?_
        obtain ⟨j49, hj49, h⟩ := op_j h
        have J49 : ∀ (H : Heap) (locs : List Loc) (ls : Array Slot), j49 () = some (rR) → Rg D T A st (gT T aR tx) H locs → lv_has ls 3 [(2, .int ((tx 1) x1.toNatClampNeg))] → W pr l en rmX6_kindAt st mi ag bl me co H locs 0 0 (MQ bl (kQ (some (.int rR)) D (gT T aR tx) A) ag st rmX6_kindAt.cells rmX6_kindAt.slots A) (F0 mi 49 ls []) := by
          intro H locs ls h G hl
          rw [hj49] at h
          refine lv_iload_n F.1 F.2.1 dX6_kindAt_49 rfl (lv_at hl 0 rfl) ?_
          by_cases c10 : ((tx 1) x1.toNatClampNeg) = 10
          · have h := op_t h c10
            refine lv_lookup (tgt := 86) (off := 36) F.1 F.2.1 dX6_kindAt_50 (by decide) (by rw [c10]; rfl) (by decide) ?_
            refine lv_iconst (v := 4) F.1 F.2.1 dX6_kindAt_86 (by decide) ?_
            obtain rfl := op_1 h
            exact k_iret F hr hlk G dX6_kindAt_87
          · have h := op_f h c10
            by_cases c32 : ((tx 1) x1.toNatClampNeg) = 32
            · have h := op_t h c32
              refine lv_lookup (tgt := 88) (off := 38) F.1 F.2.1 dX6_kindAt_50 (by decide) (by rw [c32]; rfl) (by decide) ?_
              refine lv_iconst (v := 4) F.1 F.2.1 dX6_kindAt_88 (by decide) ?_
              obtain rfl := op_1 h
              exact k_iret F hr hlk G dX6_kindAt_89
            · have h := op_f h c32
              by_cases c59 : ((tx 1) x1.toNatClampNeg) = 59
              · have h := op_t h c59
                refine lv_lookup (tgt := 84) (off := 34) F.1 F.2.1 dX6_kindAt_50 (by decide) (by rw [c59]; rfl) (by decide) ?_
                refine lv_iconst (v := 3) F.1 F.2.1 dX6_kindAt_84 (by decide) ?_
                obtain rfl := op_1 h
                exact k_iret F hr hlk G dX6_kindAt_85
              · have h := op_f h c59
                have a10 : ¬ (10 : Int) = ((tx 1) x1.toNatClampNeg).toInt := look_ne (n := 10) (by decide) c10
                have a32 : ¬ (32 : Int) = ((tx 1) x1.toNatClampNeg).toInt := look_ne (n := 32) (by decide) c32
                have a59 : ¬ (59 : Int) = ((tx 1) x1.toNatClampNeg).toInt := look_ne (n := 59) (by decide) c59
                refine lv_lookup (tgt := 90) (off := 40) F.1 F.2.1 dX6_kindAt_50 (by decide) (by simp [Op.lookupswitch.offset, a10, a32, a59]) (by decide) ?_
                refine lv_iconst (v := 5) F.1 F.2.1 dX6_kindAt_90 (by decide) ?_
                obtain rfl := op_1 h
                exact k_iret F hr hlk G dX6_kindAt_91
        clear hj49
        refine lv_icmp_lt (tgt := 49) F.1 F.2.1 dX6_kindAt_38 (by decide) (fun c => ?_) (fun c => ?_)
        · have h := op_t h c
          exact J49 _ _ _ h G hl
        · have h := op_f h c
          refine lv_iload_n F.1 F.2.1 dX6_kindAt_41 rfl (lv_at hl 0 rfl) ?_
          refine lv_bipush (v := 57) F.1 F.2.1 dX6_kindAt_42 (by decide) ?_
          refine lv_icmp_gt (tgt := 49) F.1 F.2.1 dX6_kindAt_44 (by decide) (fun c => ?_) (fun c => ?_)
          · have h := op_t h c
            exact J49 _ _ _ h G hl
          · have h := op_f h c
            refine lv_iconst (v := 2) F.1 F.2.1 dX6_kindAt_47 (by decide) ?_
            obtain rfl := op_1 h
            exact k_iret F hr hlk G dX6_kindAt_48
      clear hj35
      refine lv_icmp_lt (tgt := 35) F.1 F.2.1 dX6_kindAt_24 (by decide) (fun c => ?_) (fun c => ?_)
      · have h := op_t h c
        exact J35 _ _ _ h G (lv_sub hl [0] rfl)
      · have h := op_f h c
        refine lv_iload_n F.1 F.2.1 dX6_kindAt_27 rfl (lv_at hl 0 rfl) ?_
        refine lv_bipush (v := 122) F.1 F.2.1 dX6_kindAt_28 (by decide) ?_
        refine lv_icmp_gt (tgt := 35) F.1 F.2.1 dX6_kindAt_30 (by decide) (fun c => ?_) (fun c => ?_)
        · have h := op_t h c
          exact J35 _ _ _ h G (lv_sub hl [0] rfl)
        · have h := op_f h c
          refine lv_iconst (v := 1) F.1 F.2.1 dX6_kindAt_33 (by decide) ?_
          obtain rfl := op_1 h
          exact k_iret F hr hlk G dX6_kindAt_34
    · have h := op_f h c
      refine lv_iconst (v := 0) F.1 F.2.1 dX6_kindAt_12 (by decide) ?_
      obtain rfl := op_1 h
      exact k_iret F hr hlk G dX6_kindAt_13
abbrev rmX6_nameAt : Room := ({ frames := 0, cells := 0, slots := 0, locals := 0 } : Room)
noncomputable def qX6_nameAt_L27 (tx : Nat → Nat → Int32) (x1_1 : Int32) (x2_2 : Int32) (K : Int64 → Option (Int64)) : Nat → Int64 → Int32 → Option (Int64)
  | 0, _, _ => none
  | n + 1, x3_3, x5_4 =>
    if x2_2 ≤ x5_4 then (K x3_3) else gd (vp_in (x1_1 + x5_4) 900) (if ((tx 1) (x1_1 + x5_4).toNatClampNeg) < 97 then some 0 else if ((tx 1) (x1_1 + x5_4).toNatClampNeg) ≤ 122 then (qX6_nameAt_L27 tx x1_1 x2_2 K n ((x3_3 <<< ((8 : Int32).toInt64 &&& 63)) ||| (((tx 1) (x1_1 + x5_4).toNatClampNeg).toInt64)) (x5_4 + 1)) else some 0)

noncomputable def qX6_nameAt (tx : Nat → Nat → Int32) (x1 : Int32) (x2 : Int32) : Option (Int64) :=
  if x1 < 0 then some 0 else if 8 < x2 then some 0 else if (x1 + x2) ≤ (tx 0 0) then (qX6_nameAt_L27 tx x1 x2 (fun (x3_5 : Int64) => some x3_5) fu 0 0 ) else some 0

set_option maxHeartbeats 4000000 in
set_option maxRecDepth 100000 in
theorem mX6_nameAt (l : Launch) (D : va_G) (T : Nat → ClassId) (aR : Nat → Nat) (tx : Nat → Nat → Int32) (x1 : Int32) (x2 : Int32) {rR : Int64} (hres : qX6_nameAt tx x1 x2 = some (rR)) : Ct l yX6_nameAt (Cond.code yX6_nameAt cX6_nameAt 7 (some .long) :: kAll) rmX6_nameAt D T [.ref (aR 0), .int x1, .int x2] (gT T aR tx) (some (.long rR)) (gT T aR tx) := by
  refine Ct.of (cc := cX6_nameAt) (maxL := 7) (ret := (some .long)) (by decide +kernel) rfl (Nat.le_of_ble_eq_true rfl) ?_
  intro pr en st mi ag bl me co A ls F hr hlk hnm G hl
  have hl : lv_has ls 7 [(0, .ref (aR 0)), (1, .int x1), (2, .int x2)] := hl
  have h := hres
  unfold qX6_nameAt at h
  refine lv_iload_n F.1 F.2.1 dX6_nameAt_0 rfl (lv_at hl 1 rfl) ?_
  refine lv_if_lt (tgt := 20) F.1 F.2.1 dX6_nameAt_1 (by decide) (fun c => ?_) (fun c => ?_)
  · have h := op_t h c
    refine lv_lconst (v := 0) F.1 F.2.1 dX6_nameAt_20 (by decide) ?_
    obtain rfl := op_1 h
    exact k_lret F hr hlk G dX6_nameAt_21
  · have h := op_f h c
    refine lv_iload_n F.1 F.2.1 dX6_nameAt_4 rfl (lv_at hl 2 rfl) ?_
    refine lv_bipush (v := 8) F.1 F.2.1 dX6_nameAt_5 (by decide) ?_
    refine lv_icmp_gt (tgt := 20) F.1 F.2.1 dX6_nameAt_7 (by decide) (fun c => ?_) (fun c => ?_)
    · have h := op_t h c
      refine lv_lconst (v := 0) F.1 F.2.1 dX6_nameAt_20 (by decide) ?_
      obtain rfl := op_1 h
      exact k_lret F hr hlk G dX6_nameAt_21
    · have h := op_f h c
      refine lv_iload_n F.1 F.2.1 dX6_nameAt_10 rfl (lv_at hl 1 rfl) ?_
      refine lv_iload_n F.1 F.2.1 dX6_nameAt_11 rfl (lv_at hl 2 rfl) ?_
      refine lv_iadd F.1 F.2.1 dX6_nameAt_12 ?_
      refine lv_aload_n F.1 F.2.1 dX6_nameAt_13 rfl (lv_at hl 0 rfl) ?_
      refine k_get F G 0 rfl (N := 2) (Tt := TX6) rfl kf6 1 (by decide) kl243 (v := .int (tx 0 0)) rfl dX6_nameAt_14 ?_
      refine lv_icmp_le (tgt := 22) F.1 F.2.1 dX6_nameAt_17 (by decide) (fun c => ?_) (fun c => ?_)
      · have h := op_t h c
        refine lv_lconst (v := 0) F.1 F.2.1 dX6_nameAt_22 (by decide) ?_
        refine lv_lstore_n (lv' := [(3, .long 0), (0, .ref (aR 0)), (1, .int x1), (2, .int x2)]) F.1 F.2.1 dX6_nameAt_23 rfl hl (by decide) rfl (fun ls hl => ?_)
        refine lv_iconst (v := 0) F.1 F.2.1 dX6_nameAt_24 (by decide) ?_
        refine lv_istore (lv' := [(5, .int 0), (3, .long 0), (0, .ref (aR 0)), (1, .int x1), (2, .int x2)]) F.1 F.2.1 dX6_nameAt_25 hl (by decide) rfl (fun ls hl => ?_)
        have L27 : ∀ (tx : Nat → Nat → Int32) (x1_1 : Int32) (x2_2 : Int32) (K : Int64 → Option (Int64)) (hK : ∀ (x3_5 : Int64) (H : Heap) (locs : List Loc) (ls : Array Slot), K x3_5 = some (rR) → Rg D T A st (gT T aR tx) H locs → lv_has ls 7 [(3, .long x3_5)] → W pr l en rmX6_nameAt st mi ag bl me co H locs 0 0 (MQ bl (kQ (some (.long rR)) D (gT T aR tx) A) ag st rmX6_nameAt.cells rmX6_nameAt.slots A) (F0 mi 75 ls [])) (n : Nat) (x3_3 : Int64) (x5_4 : Int32) (H : Heap) (locs : List Loc) (ls : Array Slot), qX6_nameAt_L27 tx x1_1 x2_2 K n x3_3 x5_4 = some (rR) → Rg D T A st (gT T aR tx) H locs → lv_has ls 7 [(0, .ref (aR 0)), (1, .int x1_1), (2, .int x2_2), (3, .long x3_3), (5, .int x5_4)] → W pr l en rmX6_nameAt st mi ag bl me co H locs 0 0 (MQ bl (kQ (some (.long rR)) D (gT T aR tx) A) ag st rmX6_nameAt.cells rmX6_nameAt.slots A) (F0 mi 27 ls []) := by
          intro tx x1_1 x2_2 K hK n
          induction n with
          | zero => intro x3_3 x5_4 H locs ls h; exact op_n h
          | succ n ih =>
            intro x3_3 x5_4 H locs ls h G hl
            rw [qX6_nameAt_L27] at h
            refine lv_iload F.1 F.2.1 dX6_nameAt_27 (lv_at hl 4 rfl) ?_
            refine lv_iload_n F.1 F.2.1 dX6_nameAt_29 rfl (lv_at hl 2 rfl) ?_
            refine lv_icmp_ge (tgt := 75) F.1 F.2.1 dX6_nameAt_30 (by decide) (fun c => ?_) (fun c => ?_)
            · have h := op_t h c
              exact hK x3_3 _ _ _ h G (lv_sub hl [3] rfl)
            · have h := op_f h c
              refine lv_aload_n F.1 F.2.1 dX6_nameAt_33 rfl (lv_at hl 0 rfl) ?_
              refine k_get F G 0 rfl (N := 2) (Tt := TX6) rfl kf6 0 (by decide) kl244 (v := .ref (aR 1)) rfl dX6_nameAt_34 ?_
              refine lv_iload_n F.1 F.2.1 dX6_nameAt_37 rfl (lv_at hl 1 rfl) ?_
              refine lv_iload F.1 F.2.1 dX6_nameAt_38 (lv_at hl 4 rfl) ?_
              refine lv_iadd F.1 F.2.1 dX6_nameAt_40 ?_
              obtain ⟨c, h⟩ := op_g h
              refine k_bald F G 1 rfl c dX6_nameAt_41 ?_
              refine lv_istore (lv' := [(6, .int ((tx 1) (x1_1 + x5_4).toNatClampNeg)), (0, .ref (aR 0)), (1, .int x1_1), (2, .int x2_2), (3, .long x3_3), (5, .int x5_4)]) F.1 F.2.1 dX6_nameAt_42 hl (by decide) rfl (fun ls hl => ?_)
              refine lv_iload F.1 F.2.1 dX6_nameAt_44 (lv_at hl 0 rfl) ?_
              refine lv_bipush (v := 97) F.1 F.2.1 dX6_nameAt_46 (by decide) ?_
              refine lv_icmp_lt (tgt := 58) F.1 F.2.1 dX6_nameAt_48 (by decide) (fun c => ?_) (fun c => ?_)
              · have h := op_t h c
                refine lv_lconst (v := 0) F.1 F.2.1 dX6_nameAt_58 (by decide) ?_
                obtain rfl := op_1 h
                exact k_lret F hr hlk G dX6_nameAt_59
              · have h := op_f h c
                refine lv_iload F.1 F.2.1 dX6_nameAt_51 (lv_at hl 0 rfl) ?_
                refine lv_bipush (v := 122) F.1 F.2.1 dX6_nameAt_53 (by decide) ?_
                refine lv_icmp_le (tgt := 60) F.1 F.2.1 dX6_nameAt_55 (by decide) (fun c => ?_) (fun c => ?_)
                · have h := op_t h c
                  refine lv_lload_n F.1 F.2.1 dX6_nameAt_60 rfl (lv_at hl 4 rfl) ?_
                  refine lv_bipush (v := 8) F.1 F.2.1 dX6_nameAt_61 (by decide) ?_
                  refine lv_lshl (v := (x3_3 <<< ((8 : Int32).toInt64 &&& 63))) F.1 F.2.1 dX6_nameAt_63 rfl ?_
                  refine lv_iload F.1 F.2.1 dX6_nameAt_64 (lv_at hl 0 rfl) ?_
                  refine lv_i2l (v := ((tx 1) (x1_1 + x5_4).toNatClampNeg).toInt64) F.1 F.2.1 dX6_nameAt_66 rfl ?_
                  refine lv_lor F.1 F.2.1 dX6_nameAt_67 ?_
                  refine lv_lstore_n (lv' := [(3, .long ((x3_3 <<< ((8 : Int32).toInt64 &&& 63)) ||| (((tx 1) (x1_1 + x5_4).toNatClampNeg).toInt64))), (6, .int ((tx 1) (x1_1 + x5_4).toNatClampNeg)), (0, .ref (aR 0)), (1, .int x1_1), (2, .int x2_2), (5, .int x5_4)]) F.1 F.2.1 dX6_nameAt_68 rfl hl (by decide) rfl (fun ls hl => ?_)
                  refine lv_iinc (v := (x5_4 + 1)) (lv' := [(5, .int (x5_4 + 1)), (3, .long ((x3_3 <<< ((8 : Int32).toInt64 &&& 63)) ||| (((tx 1) (x1_1 + x5_4).toNatClampNeg).toInt64))), (6, .int ((tx 1) (x1_1 + x5_4).toNatClampNeg)), (0, .ref (aR 0)), (1, .int x1_1), (2, .int x2_2)]) F.1 F.2.1 dX6_nameAt_69 hl (k := 5) rfl rfl (by decide) rfl (fun ls hl => ?_)
                  refine lv_goto (tgt := 27) F.1 F.2.1 dX6_nameAt_72 (by decide) ?_
                  exact ih ((x3_3 <<< ((8 : Int32).toInt64 &&& 63)) ||| (((tx 1) (x1_1 + x5_4).toNatClampNeg).toInt64)) (x5_4 + 1) _ _ _ h G (lv_sub hl [3, 4, 5, 1, 0] rfl)
                · have h := op_f h c
                  refine lv_lconst (v := 0) F.1 F.2.1 dX6_nameAt_58 (by decide) ?_
                  obtain rfl := op_1 h
                  exact k_lret F hr hlk G dX6_nameAt_59
        refine L27 tx x1 x2 _ (fun x3_5 H locs ls h G hl => ?_) fu 0 0  _ _ _ h G (lv_sub hl [2, 3, 4, 1, 0] rfl)
        clear L27
        refine lv_lload_n F.1 F.2.1 dX6_nameAt_75 rfl (lv_at hl 0 rfl) ?_
        obtain rfl := op_1 h
        exact k_lret F hr hlk G dX6_nameAt_76
      · have h := op_f h c
        refine lv_lconst (v := 0) F.1 F.2.1 dX6_nameAt_20 (by decide) ?_
        obtain rfl := op_1 h
        exact k_lret F hr hlk G dX6_nameAt_21
abbrev rmX5_needsInAll : Room := ({ frames := 1, cells := 0, slots := 0, locals := 20 } : Room)
noncomputable def qX5_needsInAll_L4 (v : Nat → Nat → Int32) (K : Int32 → Option (Int32)) : Nat → Int32 → Int32 → Option (Int32)
  | 0, _, _ => none
  | n + 1, x1_1, x2_2 =>
    if (v 0 0) ≤ x2_2 then (K x1_1) else gd (vp_in x2_2 12) (bd (qJ6_bitCount_0f7a4 ((v 14) x2_2.toNatClampNeg)) fun r_4 => (qX5_needsInAll_L4 v K n (x1_1 + r_4) (x2_2 + 1)))

noncomputable def qX5_needsInAll (v : Nat → Nat → Int32) : Option (Int32) :=
  (qX5_needsInAll_L4 v  (fun (x1_3 : Int32) => some x1_3) fu 0 0 )

set_option maxHeartbeats 4000000 in
set_option maxRecDepth 100000 in
theorem mX5_needsInAll (l : Launch) (D : va_G) (T : Nat → ClassId) (aP : Nat → Nat) (v : Nat → Nat → Int32) {rR : Int32} (hres : qX5_needsInAll v = some (rR)) : Ct l yX5_needsInAll (Cond.code yX5_needsInAll cX5_needsInAll 3 (some .int) :: kAll) rmX5_needsInAll D T [.ref (aP 0)] (gV T aP v) (some (.int rR)) (gV T aP v) := by
  refine Ct.of (cc := cX5_needsInAll) (maxL := 3) (ret := (some .int)) (by decide +kernel) rfl (Nat.le_of_ble_eq_true rfl) ?_
  intro pr en st mi ag bl me co A ls F hr hlk hnm G hl
  have hl : lv_has ls 3 [(0, .ref (aP 0))] := hl
  have h := hres
  unfold qX5_needsInAll at h
  refine lv_iconst (v := 0) F.1 F.2.1 dX5_needsInAll_0 (by decide) ?_
  refine lv_istore_n (lv' := [(1, .int 0), (0, .ref (aP 0))]) F.1 F.2.1 dX5_needsInAll_1 rfl hl (by decide) rfl (fun ls hl => ?_)
  refine lv_iconst (v := 0) F.1 F.2.1 dX5_needsInAll_2 (by decide) ?_
  refine lv_istore_n (lv' := [(2, .int 0), (1, .int 0), (0, .ref (aP 0))]) F.1 F.2.1 dX5_needsInAll_3 rfl hl (by decide) rfl (fun ls hl => ?_)
  have L4 : ∀ (v : Nat → Nat → Int32) (K : Int32 → Option (Int32)) (hK : ∀ (x1_3 : Int32) (H : Heap) (locs : List Loc) (ls : Array Slot), K x1_3 = some (rR) → Rg D T A st (gV T aP v) H locs → lv_has ls 3 [(1, .int x1_3)] → W pr l en rmX5_needsInAll st mi ag bl me co H locs 0 0 (MQ bl (kQ (some (.int rR)) D (gV T aP v) A) ag st rmX5_needsInAll.cells rmX5_needsInAll.slots A) (F0 mi 30 ls [])) (n : Nat) (x1_1 : Int32) (x2_2 : Int32) (H : Heap) (locs : List Loc) (ls : Array Slot), qX5_needsInAll_L4 v K n x1_1 x2_2 = some (rR) → Rg D T A st (gV T aP v) H locs → lv_has ls 3 [(0, .ref (aP 0)), (1, .int x1_1), (2, .int x2_2)] → W pr l en rmX5_needsInAll st mi ag bl me co H locs 0 0 (MQ bl (kQ (some (.int rR)) D (gV T aP v) A) ag st rmX5_needsInAll.cells rmX5_needsInAll.slots A) (F0 mi 4 ls []) := by
    intro v K hK n
    induction n with
    | zero => intro x1_1 x2_2 H locs ls h; exact op_n h
    | succ n ih =>
      intro x1_1 x2_2 H locs ls h G hl
      rw [qX5_needsInAll_L4] at h
      refine lv_iload_n F.1 F.2.1 dX5_needsInAll_4 rfl (lv_at hl 2 rfl) ?_
      refine lv_aload_n F.1 F.2.1 dX5_needsInAll_5 rfl (lv_at hl 0 rfl) ?_
      refine k_get F G 0 rfl (N := 18) (Tt := TX5) rfl kf5 0 (by decide) kl199 (v := .int (v 0 0)) rfl dX5_needsInAll_6 ?_
      refine lv_icmp_ge (tgt := 30) F.1 F.2.1 dX5_needsInAll_9 (by decide) (fun c => ?_) (fun c => ?_)
      · have h := op_t h c
        exact hK x1_1 _ _ _ h G (lv_sub hl [1] rfl)
      · have h := op_f h c
        refine lv_iload_n F.1 F.2.1 dX5_needsInAll_12 rfl (lv_at hl 1 rfl) ?_
        refine lv_aload_n F.1 F.2.1 dX5_needsInAll_13 rfl (lv_at hl 0 rfl) ?_
        refine k_get F G 0 rfl (N := 18) (Tt := TX5) rfl kf5 7 (by decide) kl217 (v := .ref (aP 6)) rfl dX5_needsInAll_14 ?_
        refine lv_iload_n F.1 F.2.1 dX5_needsInAll_17 rfl (lv_at hl 2 rfl) ?_
        obtain ⟨c, h⟩ := op_g h
        refine k_iald F G 6 rfl c dX5_needsInAll_18 ?_
        obtain ⟨r_4, hc, h⟩ := op_b h
        refine k_callS (rv := (some (.int r_4))) (Wc := ([] : va_W)) (W2 := ([] : va_W)) (Wn := (gV T aP v)) (As := [.int ((v 14) x2_2.toNatClampNeg)]) (rest := [.int x1_1]) F G (mJ6_bitCount_0f7a4 l D T ((v 14) x2_2.toNatClampNeg) hc) (va_cwS 1 F.2.2.2.2 (kg_c kl366 (kg_c kl367 (kg_c kl368 (kg_c kl361 kg_a)))) rfl rfl rfl (by decide +kernel) ⟨Nat.le_of_ble_eq_true rfl, Nat.le_of_ble_eq_true rfl⟩) (kCut_0 G) rfl hl.1 rfl (Nat.le_of_ble_eq_true rfl) dX5_needsInAll_19 ⟨Nat.le_of_ble_eq_true rfl, Nat.le_of_ble_eq_true rfl⟩ (cN := 0) (sN := 0) ⟨rfl, rfl⟩ (fun H locs G => ?_)
        refine lv_iadd F.1 F.2.1 dX5_needsInAll_22 ?_
        refine lv_istore_n (lv' := [(1, .int (x1_1 + r_4)), (0, .ref (aP 0)), (2, .int x2_2)]) F.1 F.2.1 dX5_needsInAll_23 rfl hl (by decide) rfl (fun ls hl => ?_)
        refine lv_iinc (v := (x2_2 + 1)) (lv' := [(2, .int (x2_2 + 1)), (1, .int (x1_1 + r_4)), (0, .ref (aP 0))]) F.1 F.2.1 dX5_needsInAll_24 hl (k := 2) rfl rfl (by decide) rfl (fun ls hl => ?_)
        refine lv_goto (tgt := 4) F.1 F.2.1 dX5_needsInAll_27 (by decide) ?_
        exact ih (x1_1 + r_4) (x2_2 + 1) _ _ _ h G (lv_sub hl [2, 1, 0] rfl)
  refine L4 v  _ (fun x1_3 H locs ls h G hl => ?_) fu 0 0  _ _ _ h G (lv_sub hl [2, 1, 0] rfl)
  clear L4
  refine lv_iload_n F.1 F.2.1 dX5_needsInAll_30 rfl (lv_at hl 0 rfl) ?_
  obtain rfl := op_1 h
  exact k_iret F hr hlk G dX5_needsInAll_31
abbrev rmX5_neededBy : Room := ({ frames := 1, cells := 0, slots := 0, locals := 21 } : Room)
noncomputable def qX5_neededBy_L4 (v : Nat → Nat → Int32) (x1_1 : Int32) (K : Int32 → Option (Int32)) : Nat → Int32 → Int32 → Option (Int32)
  | 0, _, _ => none
  | n + 1, x2_2, x3_3 =>
    if (v 0 0) ≤ x3_3 then (K x2_2) else gd (vp_in x3_3 12) (bd (qX10_isIn ((v 14) x3_3.toNatClampNeg) x1_1) fun r_5 => (jn (fun (x2_6 : Int32) => (qX5_neededBy_L4 v x1_1 K n x2_6 (x3_3 + 1))) fun j31 => if r_5 = 0 then (j31 x2_2) else (j31 (x2_2 ||| (1 <<< (x3_3 &&& 31))))))

noncomputable def qX5_neededBy (v : Nat → Nat → Int32) (x1 : Int32) : Option (Int32) :=
  (qX5_neededBy_L4 v x1 (fun (x2_4 : Int32) => some x2_4) fu 0 0 )

set_option maxHeartbeats 4000000 in
set_option maxRecDepth 100000 in
theorem mX5_neededBy (l : Launch) (D : va_G) (T : Nat → ClassId) (aP : Nat → Nat) (v : Nat → Nat → Int32) (x1 : Int32) {rR : Int32} (hres : qX5_neededBy v x1 = some (rR)) : Ct l yX5_neededBy (Cond.code yX5_neededBy cX5_neededBy 4 (some .int) :: kAll) rmX5_neededBy D T [.ref (aP 0), .int x1] (gV T aP v) (some (.int rR)) (gV T aP v) := by
  refine Ct.of (cc := cX5_neededBy) (maxL := 4) (ret := (some .int)) (by decide +kernel) rfl (Nat.le_of_ble_eq_true rfl) ?_
  intro pr en st mi ag bl me co A ls F hr hlk hnm G hl
  have hl : lv_has ls 4 [(0, .ref (aP 0)), (1, .int x1)] := hl
  have h := hres
  unfold qX5_neededBy at h
  refine lv_iconst (v := 0) F.1 F.2.1 dX5_neededBy_0 (by decide) ?_
  refine lv_istore_n (lv' := [(2, .int 0), (0, .ref (aP 0)), (1, .int x1)]) F.1 F.2.1 dX5_neededBy_1 rfl hl (by decide) rfl (fun ls hl => ?_)
  refine lv_iconst (v := 0) F.1 F.2.1 dX5_neededBy_2 (by decide) ?_
  refine lv_istore_n (lv' := [(3, .int 0), (2, .int 0), (0, .ref (aP 0)), (1, .int x1)]) F.1 F.2.1 dX5_neededBy_3 rfl hl (by decide) rfl (fun ls hl => ?_)
  have L4 : ∀ (v : Nat → Nat → Int32) (x1_1 : Int32) (K : Int32 → Option (Int32)) (hK : ∀ (x2_4 : Int32) (H : Heap) (locs : List Loc) (ls : Array Slot), K x2_4 = some (rR) → Rg D T A st (gV T aP v) H locs → lv_has ls 4 [(2, .int x2_4)] → W pr l en rmX5_neededBy st mi ag bl me co H locs 0 0 (MQ bl (kQ (some (.int rR)) D (gV T aP v) A) ag st rmX5_neededBy.cells rmX5_neededBy.slots A) (F0 mi 37 ls [])) (n : Nat) (x2_2 : Int32) (x3_3 : Int32) (H : Heap) (locs : List Loc) (ls : Array Slot), qX5_neededBy_L4 v x1_1 K n x2_2 x3_3 = some (rR) → Rg D T A st (gV T aP v) H locs → lv_has ls 4 [(0, .ref (aP 0)), (1, .int x1_1), (2, .int x2_2), (3, .int x3_3)] → W pr l en rmX5_neededBy st mi ag bl me co H locs 0 0 (MQ bl (kQ (some (.int rR)) D (gV T aP v) A) ag st rmX5_neededBy.cells rmX5_neededBy.slots A) (F0 mi 4 ls []) := by
    intro v x1_1 K hK n
    induction n with
    | zero => intro x2_2 x3_3 H locs ls h; exact op_n h
    | succ n ih =>
      intro x2_2 x3_3 H locs ls h G hl
      rw [qX5_neededBy_L4] at h
      refine lv_iload_n F.1 F.2.1 dX5_neededBy_4 rfl (lv_at hl 3 rfl) ?_
      refine lv_aload_n F.1 F.2.1 dX5_neededBy_5 rfl (lv_at hl 0 rfl) ?_
      refine k_get F G 0 rfl (N := 18) (Tt := TX5) rfl kf5 0 (by decide) kl199 (v := .int (v 0 0)) rfl dX5_neededBy_6 ?_
      refine lv_icmp_ge (tgt := 37) F.1 F.2.1 dX5_neededBy_9 (by decide) (fun c => ?_) (fun c => ?_)
      · have h := op_t h c
        exact hK x2_2 _ _ _ h G (lv_sub hl [2] rfl)
      · have h := op_f h c
        refine lv_aload_n F.1 F.2.1 dX5_neededBy_12 rfl (lv_at hl 0 rfl) ?_
        refine k_get F G 0 rfl (N := 18) (Tt := TX5) rfl kf5 7 (by decide) kl217 (v := .ref (aP 6)) rfl dX5_neededBy_13 ?_
        refine lv_iload_n F.1 F.2.1 dX5_neededBy_16 rfl (lv_at hl 3 rfl) ?_
        obtain ⟨c, h⟩ := op_g h
        refine k_iald F G 6 rfl c dX5_neededBy_17 ?_
        refine lv_iload_n F.1 F.2.1 dX5_neededBy_18 rfl (lv_at hl 1 rfl) ?_
        obtain ⟨r_5, hc, h⟩ := op_b h
        refine k_callSN (rv := (some (.int r_5))) (Wc := ([] : va_W)) (W2 := ([] : va_W)) (Wn := (gV T aP v)) (As := [.int ((v 14) x3_3.toNatClampNeg), .int x1_1]) (rest := []) F G (mX10_isIn l D T ((v 14) x3_3.toNatClampNeg) x1_1 hc) ⟨va_cnB 2 F.2.2.2.2 (kg_c kl119 kg_a) rfl rfl rfl (k_nest G 10 rfl) (F.2.2.2.2 _ kl80) (by decide +kernel) ⟨Nat.le_of_ble_eq_true rfl, Nat.le_of_ble_eq_true rfl⟩, F.2.2.2.2 _ kl122⟩ (kCut_0 G) rfl hl.1 rfl (Nat.le_of_ble_eq_true rfl) dX5_neededBy_19 ⟨Nat.le_of_ble_eq_true rfl, Nat.le_of_ble_eq_true rfl⟩ (cN := 0) (sN := 0) ⟨rfl, rfl⟩ (fun H locs G => ?_)
        obtain ⟨j31, hj31, h⟩ := op_j h
        have J31 : ∀ (x2_6 : Int32) (H : Heap) (locs : List Loc) (ls : Array Slot), j31 x2_6 = some (rR) → Rg D T A st (gV T aP v) H locs → lv_has ls 4 [(0, .ref (aP 0)), (1, .int x1_1), (2, .int x2_6), (3, .int x3_3)] → W pr l en rmX5_neededBy st mi ag bl me co H locs 0 0 (MQ bl (kQ (some (.int rR)) D (gV T aP v) A) ag st rmX5_neededBy.cells rmX5_neededBy.slots A) (F0 mi 31 ls []) := by
          intro x2_6 H locs ls h G hl
          rw [hj31] at h
          refine lv_iinc (v := (x3_3 + 1)) (lv' := [(3, .int (x3_3 + 1)), (0, .ref (aP 0)), (1, .int x1_1), (2, .int x2_6)]) F.1 F.2.1 dX5_neededBy_31 hl (k := 3) rfl rfl (by decide) rfl (fun ls hl => ?_)
          refine lv_goto (tgt := 4) F.1 F.2.1 dX5_neededBy_34 (by decide) ?_
          exact ih x2_6 (x3_3 + 1) _ _ _ h G (lv_sub hl [1, 2, 3, 0] rfl)
        clear hj31
        refine lv_if_eq (tgt := 31) F.1 F.2.1 dX5_neededBy_22 (by decide) (fun c => ?_) (fun c => ?_)
        · have h := op_t h c
          exact J31 x2_2 _ _ _ h G hl
        · have h := op_f h c
          refine lv_iload_n F.1 F.2.1 dX5_neededBy_25 rfl (lv_at hl 2 rfl) ?_
          refine lv_iconst (v := 1) F.1 F.2.1 dX5_neededBy_26 (by decide) ?_
          refine lv_iload_n F.1 F.2.1 dX5_neededBy_27 rfl (lv_at hl 3 rfl) ?_
          refine lv_ishl F.1 F.2.1 dX5_neededBy_28 ?_
          refine lv_ior F.1 F.2.1 dX5_neededBy_29 ?_
          refine lv_istore_n (lv' := [(2, .int (x2_2 ||| (1 <<< (x3_3 &&& 31)))), (0, .ref (aP 0)), (1, .int x1_1), (3, .int x3_3)]) F.1 F.2.1 dX5_neededBy_30 rfl hl (by decide) rfl (fun ls hl => ?_)
          exact J31 (x2_2 ||| (1 <<< (x3_3 &&& 31))) _ _ _ h G (lv_sub hl [1, 2, 0, 3] rfl)
  refine L4 v x1 _ (fun x2_4 H locs ls h G hl => ?_) fu 0 0  _ _ _ h G (lv_sub hl [2, 3, 1, 0] rfl)
  clear L4
  refine lv_iload_n F.1 F.2.1 dX5_neededBy_37 rfl (lv_at hl 0 rfl) ?_
  obtain rfl := op_1 h
  exact k_iret F hr hlk G dX5_neededBy_38
abbrev rmX5_numberOf : Room := ({ frames := 0, cells := 0, slots := 0, locals := 0 } : Room)
noncomputable def qX5_numberOf_L2 (v : Nat → Nat → Int32) (nm : Nat → Int64) (x1_1 : Int64) (K : Unit → Option (Int32)) : Nat → Int32 → Option (Int32)
  | 0, _ => none
  | n + 1, x3_2 =>
    if (v 0 0) ≤ x3_2 then (K ()) else gd (vp_in x3_2 12) (if (lg_cmp (nm x3_2.toNatClampNeg) x1_1) = 0 then some x3_2 else (qX5_numberOf_L2 v nm x1_1 K n (x3_2 + 1)))

noncomputable def qX5_numberOf (v : Nat → Nat → Int32) (nm : Nat → Int64) (x1 : Int64) : Option (Int32) :=
  (qX5_numberOf_L2 v nm x1 (fun (_u : Unit) => some (-1)) fu 0 )

set_option maxHeartbeats 4000000 in
set_option maxRecDepth 100000 in
theorem mX5_numberOf (l : Launch) (D : va_G) (T : Nat → ClassId) (aP : Nat → Nat) (v : Nat → Nat → Int32) (nm : Nat → Int64) (x1 : Int64) {rR : Int32} (hres : qX5_numberOf v nm x1 = some (rR)) : Ct l yX5_numberOf (Cond.code yX5_numberOf cX5_numberOf 4 (some .int) :: kAll) rmX5_numberOf D T [.ref (aP 0), .long x1] (gP T aP v nm) (some (.int rR)) (gP T aP v nm) := by
  refine Ct.of (cc := cX5_numberOf) (maxL := 4) (ret := (some .int)) (by decide +kernel) rfl (Nat.le_of_ble_eq_true rfl) ?_
  intro pr en st mi ag bl me co A ls F hr hlk hnm G hl
  have hl : lv_has ls 4 [(0, .ref (aP 0)), (1, .long x1)] := hl
  have h := hres
  unfold qX5_numberOf at h
  refine lv_iconst (v := 0) F.1 F.2.1 dX5_numberOf_0 (by decide) ?_
  refine lv_istore_n (lv' := [(3, .int 0), (0, .ref (aP 0)), (1, .long x1)]) F.1 F.2.1 dX5_numberOf_1 rfl hl (by decide) rfl (fun ls hl => ?_)
  have L2 : ∀ (v : Nat → Nat → Int32) (nm : Nat → Int64) (x1_1 : Int64) (K : Unit → Option (Int32)) (hK : ∀ (_u : Unit) (H : Heap) (locs : List Loc) (ls : Array Slot), K _u = some (rR) → Rg D T A st (gP T aP v nm) H locs → lv_has ls 4 [] → W pr l en rmX5_numberOf st mi ag bl me co H locs 0 0 (MQ bl (kQ (some (.int rR)) D (gP T aP v nm) A) ag st rmX5_numberOf.cells rmX5_numberOf.slots A) (F0 mi 29 ls [])) (n : Nat) (x3_2 : Int32) (H : Heap) (locs : List Loc) (ls : Array Slot), qX5_numberOf_L2 v nm x1_1 K n x3_2 = some (rR) → Rg D T A st (gP T aP v nm) H locs → lv_has ls 4 [(0, .ref (aP 0)), (1, .long x1_1), (3, .int x3_2)] → W pr l en rmX5_numberOf st mi ag bl me co H locs 0 0 (MQ bl (kQ (some (.int rR)) D (gP T aP v nm) A) ag st rmX5_numberOf.cells rmX5_numberOf.slots A) (F0 mi 2 ls []) := by
    intro v nm x1_1 K hK n
    induction n with
    | zero => intro x3_2 H locs ls h; exact op_n h
    | succ n ih =>
      intro x3_2 H locs ls h G hl
      rw [qX5_numberOf_L2] at h
      refine lv_iload_n F.1 F.2.1 dX5_numberOf_2 rfl (lv_at hl 2 rfl) ?_
      refine lv_aload_n F.1 F.2.1 dX5_numberOf_3 rfl (lv_at hl 0 rfl) ?_
      refine k_get F G 0 rfl (N := 18) (Tt := TX5) rfl kf5 0 (by decide) kl199 (v := .int (v 0 0)) rfl dX5_numberOf_4 ?_
      refine lv_icmp_ge (tgt := 29) F.1 F.2.1 dX5_numberOf_7 (by decide) (fun c => ?_) (fun c => ?_)
      · have h := op_t h c
        exact hK () _ _ _ h G (lv_sub hl [] rfl)
      · have h := op_f h c
        refine lv_aload_n F.1 F.2.1 dX5_numberOf_10 rfl (lv_at hl 0 rfl) ?_
        refine k_get F G 0 rfl (N := 18) (Tt := TX5) rfl kf5 1 (by decide) kl211 (v := .ref (aP 9)) rfl dX5_numberOf_11 ?_
        refine lv_iload_n F.1 F.2.1 dX5_numberOf_14 rfl (lv_at hl 2 rfl) ?_
        obtain ⟨c, h⟩ := op_g h
        refine k_lald F G 9 rfl c dX5_numberOf_15 ?_
        refine lv_lload_n F.1 F.2.1 dX5_numberOf_16 rfl (lv_at hl 1 rfl) ?_
        refine W.lcmp F.1 F.2.1 dX5_numberOf_17 ?_
        refine lv_if_ne (tgt := 23) F.1 F.2.1 dX5_numberOf_18 (by decide) (fun c => ?_) (fun c => ?_)
        · have h := op_f h c
          refine lv_iinc (v := (x3_2 + 1)) (lv' := [(3, .int (x3_2 + 1)), (0, .ref (aP 0)), (1, .long x1_1)]) F.1 F.2.1 dX5_numberOf_23 hl (k := 2) rfl rfl (by decide) rfl (fun ls hl => ?_)
          refine lv_goto (tgt := 2) F.1 F.2.1 dX5_numberOf_26 (by decide) ?_
          exact ih (x3_2 + 1) _ _ _ h G (lv_sub hl [1, 2, 0] rfl)
        · have h := op_t h c
          refine lv_iload_n F.1 F.2.1 dX5_numberOf_21 rfl (lv_at hl 2 rfl) ?_
          obtain rfl := op_1 h
          exact k_iret F hr hlk G dX5_numberOf_22
  refine L2 v nm x1 _ (fun _u H locs ls h G hl => ?_) fu 0  _ _ _ h G (lv_sub hl [1, 2, 0] rfl)
  clear L2
  refine lv_iconst (v := (-1)) F.1 F.2.1 dX5_numberOf_29 (by decide) ?_
  obtain rfl := op_1 h
  exact k_iret F hr hlk G dX5_numberOf_30
abbrev rmX5_clear_p : Room := ({ frames := 0, cells := 0, slots := 0, locals := 0 } : Room)
noncomputable def qX5_clear_p (v : Nat → Nat → Int32) (nm : Nat → Int64) : Option ((Nat → Nat → Int32)) :=
  (bs (va_up v 0 (fun _ => 0)) fun v_1 => (bs (va_up v_1 1 (fun _ => 0)) fun v_2 => (bs (va_up v_2 2 (fun _ => 100)) fun v_3 => (bs (va_up v_3 3 (fun _ => 3)) fun v_4 => (bs (va_up v_4 4 (fun _ => 4)) fun v_5 => (bs (va_up v_5 5 (fun _ => 0)) fun v_6 => (bs (va_up v_6 6 (fun _ => 0)) fun v_7 => (bs (va_up v_7 7 (fun _ => 0)) fun v_8 => (bs (va_up v_8 8 (fun _ => 0)) fun v_9 => some v_9)))))))))

set_option maxHeartbeats 4000000 in
set_option maxRecDepth 100000 in
theorem mX5_clear_p (l : Launch) (D : va_G) (T : Nat → ClassId) (aP : Nat → Nat) (v : Nat → Nat → Int32) (nm : Nat → Int64) {vR : Nat → Nat → Int32} (hres : qX5_clear_p v nm = some (vR)) : Ct l yX5_clear (Cond.code yX5_clear cX5_clear 1 none :: kAll) rmX5_clear_p D T [.ref (aP 0)] (gP T aP v nm) none (gP T aP vR nm) := by
  refine Ct.of (cc := cX5_clear) (maxL := 1) (ret := none) (by decide +kernel) rfl (Nat.le_of_ble_eq_true rfl) ?_
  intro pr en st mi ag bl me co A ls F hr hlk hnm G hl
  have hl : lv_has ls 1 [(0, .ref (aP 0))] := hl
  have h := hres
  unfold qX5_clear_p at h
  refine lv_aload_n F.1 F.2.1 dX5_clear_0 rfl (lv_at hl 0 rfl) ?_
  refine lv_iconst (v := 0) F.1 F.2.1 dX5_clear_1 (by decide) ?_
  obtain ⟨v_1, e9, h⟩ := op_st h
  refine k_put F G 0 rfl (N := 18) (Tt := TX5) rfl kf5 tyX5_ok nmX5 0 (by decide) kl199 rfl (v := .int 0) rfl rfl (Nat.le_of_ble_eq_true rfl) dX5_clear_2 (Wn := (gP T aP v_1 nm)) (by subst e9; rfl) (fun H locs G => ?_)
  clear e9
  refine lv_aload_n F.1 F.2.1 dX5_clear_5 rfl (lv_at hl 0 rfl) ?_
  refine lv_iconst (v := 0) F.1 F.2.1 dX5_clear_6 (by decide) ?_
  obtain ⟨v_2, e9, h⟩ := op_st h
  refine k_put F G 0 rfl (N := 18) (Tt := TX5) rfl kf5 tyX5_ok nmX5 8 (by decide) kl200 rfl (v := .int 0) rfl rfl (Nat.le_of_ble_eq_true rfl) dX5_clear_7 (Wn := (gP T aP v_2 nm)) (by subst e9; rfl) (fun H locs G => ?_)
  clear e9
  refine lv_aload_n F.1 F.2.1 dX5_clear_10 rfl (lv_at hl 0 rfl) ?_
  refine lv_bipush (v := 100) F.1 F.2.1 dX5_clear_11 (by decide) ?_
  obtain ⟨v_3, e9, h⟩ := op_st h
  refine k_put F G 0 rfl (N := 18) (Tt := TX5) rfl kf5 tyX5_ok nmX5 9 (by decide) kl201 rfl (v := .int 100) rfl rfl (Nat.le_of_ble_eq_true rfl) dX5_clear_13 (Wn := (gP T aP v_3 nm)) (by subst e9; rfl) (fun H locs G => ?_)
  clear e9
  refine lv_aload_n F.1 F.2.1 dX5_clear_16 rfl (lv_at hl 0 rfl) ?_
  refine lv_iconst (v := 3) F.1 F.2.1 dX5_clear_17 (by decide) ?_
  obtain ⟨v_4, e9, h⟩ := op_st h
  refine k_put F G 0 rfl (N := 18) (Tt := TX5) rfl kf5 tyX5_ok nmX5 10 (by decide) kl202 rfl (v := .int 3) rfl rfl (Nat.le_of_ble_eq_true rfl) dX5_clear_18 (Wn := (gP T aP v_4 nm)) (by subst e9; rfl) (fun H locs G => ?_)
  clear e9
  refine lv_aload_n F.1 F.2.1 dX5_clear_21 rfl (lv_at hl 0 rfl) ?_
  refine lv_iconst (v := 4) F.1 F.2.1 dX5_clear_22 (by decide) ?_
  obtain ⟨v_5, e9, h⟩ := op_st h
  refine k_put F G 0 rfl (N := 18) (Tt := TX5) rfl kf5 tyX5_ok nmX5 11 (by decide) kl203 rfl (v := .int 4) rfl rfl (Nat.le_of_ble_eq_true rfl) dX5_clear_23 (Wn := (gP T aP v_5 nm)) (by subst e9; rfl) (fun H locs G => ?_)
  clear e9
  refine lv_aload_n F.1 F.2.1 dX5_clear_26 rfl (lv_at hl 0 rfl) ?_
  refine lv_iconst (v := 0) F.1 F.2.1 dX5_clear_27 (by decide) ?_
  obtain ⟨v_6, e9, h⟩ := op_st h
  refine k_put F G 0 rfl (N := 18) (Tt := TX5) rfl kf5 tyX5_ok nmX5 12 (by decide) kl204 rfl (v := .int 0) rfl rfl (Nat.le_of_ble_eq_true rfl) dX5_clear_28 (Wn := (gP T aP v_6 nm)) (by subst e9; rfl) (fun H locs G => ?_)
  clear e9
  refine lv_aload_n F.1 F.2.1 dX5_clear_31 rfl (lv_at hl 0 rfl) ?_
  refine lv_iconst (v := 0) F.1 F.2.1 dX5_clear_32 (by decide) ?_
  obtain ⟨v_7, e9, h⟩ := op_st h
  refine k_put F G 0 rfl (N := 18) (Tt := TX5) rfl kf5 tyX5_ok nmX5 13 (by decide) kl205 rfl (v := .int 0) rfl rfl (Nat.le_of_ble_eq_true rfl) dX5_clear_33 (Wn := (gP T aP v_7 nm)) (by subst e9; rfl) (fun H locs G => ?_)
  clear e9
  refine lv_aload_n F.1 F.2.1 dX5_clear_36 rfl (lv_at hl 0 rfl) ?_
  refine lv_iconst (v := 0) F.1 F.2.1 dX5_clear_37 (by decide) ?_
  obtain ⟨v_8, e9, h⟩ := op_st h
  refine k_put F G 0 rfl (N := 18) (Tt := TX5) rfl kf5 tyX5_ok nmX5 14 (by decide) kl206 rfl (v := .int 0) rfl rfl (Nat.le_of_ble_eq_true rfl) dX5_clear_38 (Wn := (gP T aP v_8 nm)) (by subst e9; rfl) (fun H locs G => ?_)
  clear e9
  refine lv_aload_n F.1 F.2.1 dX5_clear_41 rfl (lv_at hl 0 rfl) ?_
  refine lv_iconst (v := 0) F.1 F.2.1 dX5_clear_42 (by decide) ?_
  obtain ⟨v_9, e9, h⟩ := op_st h
  refine k_put F G 0 rfl (N := 18) (Tt := TX5) rfl kf5 tyX5_ok nmX5 15 (by decide) kl207 rfl (v := .int 0) rfl rfl (Nat.le_of_ble_eq_true rfl) dX5_clear_43 (Wn := (gP T aP v_9 nm)) (by subst e9; rfl) (fun H locs G => ?_)
  clear e9
  obtain rfl := op_1 h
  exact k_vret F hr hlk G dX5_clear_46
abbrev rmX5_clear_d : Room := ({ frames := 0, cells := 0, slots := 0, locals := 0 } : Room)
noncomputable def qX5_clear_d (tx : Nat → Nat → Int32) (ps : Nat → Nat → Int32) (nm : Nat → Int64) : Option ((Nat → Nat → Int32)) :=
  (bs (va_up ps 6 (fun _ => 0)) fun ps_1 => (bs (va_up ps_1 7 (fun _ => 0)) fun ps_2 => (bs (va_up ps_2 8 (fun _ => 100)) fun ps_3 => (bs (va_up ps_3 9 (fun _ => 3)) fun ps_4 => (bs (va_up ps_4 10 (fun _ => 4)) fun ps_5 => (bs (va_up ps_5 11 (fun _ => 0)) fun ps_6 => (bs (va_up ps_6 12 (fun _ => 0)) fun ps_7 => (bs (va_up ps_7 13 (fun _ => 0)) fun ps_8 => (bs (va_up ps_8 14 (fun _ => 0)) fun ps_9 => some ps_9)))))))))

set_option maxHeartbeats 4000000 in
set_option maxRecDepth 100000 in
theorem mX5_clear_d (l : Launch) (D : va_G) (T : Nat → ClassId) (aR : Nat → Nat) (aD : Nat → Nat) (tx : Nat → Nat → Int32) (ps : Nat → Nat → Int32) (nm : Nat → Int64) {psR : Nat → Nat → Int32} (hres : qX5_clear_d tx ps nm = some (psR)) : Ct l yX5_clear (Cond.code yX5_clear cX5_clear 1 none :: kAll) rmX5_clear_d D T [.ref (aD 0)] (gR T aR aD tx ps nm) none (gR T aR aD tx psR nm) := by
  refine Ct.of (cc := cX5_clear) (maxL := 1) (ret := none) (by decide +kernel) rfl (Nat.le_of_ble_eq_true rfl) ?_
  intro pr en st mi ag bl me co A ls F hr hlk hnm G hl
  have hl : lv_has ls 1 [(0, .ref (aD 0))] := hl
  have h := hres
  unfold qX5_clear_d at h
  refine lv_aload_n F.1 F.2.1 dX5_clear_0 rfl (lv_at hl 0 rfl) ?_
  refine lv_iconst (v := 0) F.1 F.2.1 dX5_clear_1 (by decide) ?_
  obtain ⟨ps_1, e9, h⟩ := op_st h
  refine k_put F G 4 rfl (N := 18) (Tt := TX5) rfl kf5 tyX5_ok nmX5 0 (by decide) kl199 rfl (v := .int 0) rfl rfl (Nat.le_of_ble_eq_true rfl) dX5_clear_2 (Wn := (gR T aR aD tx ps_1 nm)) (by subst e9; rfl) (fun H locs G => ?_)
  clear e9
  refine lv_aload_n F.1 F.2.1 dX5_clear_5 rfl (lv_at hl 0 rfl) ?_
  refine lv_iconst (v := 0) F.1 F.2.1 dX5_clear_6 (by decide) ?_
  obtain ⟨ps_2, e9, h⟩ := op_st h
  refine k_put F G 4 rfl (N := 18) (Tt := TX5) rfl kf5 tyX5_ok nmX5 8 (by decide) kl200 rfl (v := .int 0) rfl rfl (Nat.le_of_ble_eq_true rfl) dX5_clear_7 (Wn := (gR T aR aD tx ps_2 nm)) (by subst e9; rfl) (fun H locs G => ?_)
  clear e9
  refine lv_aload_n F.1 F.2.1 dX5_clear_10 rfl (lv_at hl 0 rfl) ?_
  refine lv_bipush (v := 100) F.1 F.2.1 dX5_clear_11 (by decide) ?_
  obtain ⟨ps_3, e9, h⟩ := op_st h
  refine k_put F G 4 rfl (N := 18) (Tt := TX5) rfl kf5 tyX5_ok nmX5 9 (by decide) kl201 rfl (v := .int 100) rfl rfl (Nat.le_of_ble_eq_true rfl) dX5_clear_13 (Wn := (gR T aR aD tx ps_3 nm)) (by subst e9; rfl) (fun H locs G => ?_)
  clear e9
  refine lv_aload_n F.1 F.2.1 dX5_clear_16 rfl (lv_at hl 0 rfl) ?_
  refine lv_iconst (v := 3) F.1 F.2.1 dX5_clear_17 (by decide) ?_
  obtain ⟨ps_4, e9, h⟩ := op_st h
  refine k_put F G 4 rfl (N := 18) (Tt := TX5) rfl kf5 tyX5_ok nmX5 10 (by decide) kl202 rfl (v := .int 3) rfl rfl (Nat.le_of_ble_eq_true rfl) dX5_clear_18 (Wn := (gR T aR aD tx ps_4 nm)) (by subst e9; rfl) (fun H locs G => ?_)
  clear e9
  refine lv_aload_n F.1 F.2.1 dX5_clear_21 rfl (lv_at hl 0 rfl) ?_
  refine lv_iconst (v := 4) F.1 F.2.1 dX5_clear_22 (by decide) ?_
  obtain ⟨ps_5, e9, h⟩ := op_st h
  refine k_put F G 4 rfl (N := 18) (Tt := TX5) rfl kf5 tyX5_ok nmX5 11 (by decide) kl203 rfl (v := .int 4) rfl rfl (Nat.le_of_ble_eq_true rfl) dX5_clear_23 (Wn := (gR T aR aD tx ps_5 nm)) (by subst e9; rfl) (fun H locs G => ?_)
  clear e9
  refine lv_aload_n F.1 F.2.1 dX5_clear_26 rfl (lv_at hl 0 rfl) ?_
  refine lv_iconst (v := 0) F.1 F.2.1 dX5_clear_27 (by decide) ?_
  obtain ⟨ps_6, e9, h⟩ := op_st h
  refine k_put F G 4 rfl (N := 18) (Tt := TX5) rfl kf5 tyX5_ok nmX5 12 (by decide) kl204 rfl (v := .int 0) rfl rfl (Nat.le_of_ble_eq_true rfl) dX5_clear_28 (Wn := (gR T aR aD tx ps_6 nm)) (by subst e9; rfl) (fun H locs G => ?_)
  clear e9
  refine lv_aload_n F.1 F.2.1 dX5_clear_31 rfl (lv_at hl 0 rfl) ?_
  refine lv_iconst (v := 0) F.1 F.2.1 dX5_clear_32 (by decide) ?_
  obtain ⟨ps_7, e9, h⟩ := op_st h
  refine k_put F G 4 rfl (N := 18) (Tt := TX5) rfl kf5 tyX5_ok nmX5 13 (by decide) kl205 rfl (v := .int 0) rfl rfl (Nat.le_of_ble_eq_true rfl) dX5_clear_33 (Wn := (gR T aR aD tx ps_7 nm)) (by subst e9; rfl) (fun H locs G => ?_)
  clear e9
  refine lv_aload_n F.1 F.2.1 dX5_clear_36 rfl (lv_at hl 0 rfl) ?_
  refine lv_iconst (v := 0) F.1 F.2.1 dX5_clear_37 (by decide) ?_
  obtain ⟨ps_8, e9, h⟩ := op_st h
  refine k_put F G 4 rfl (N := 18) (Tt := TX5) rfl kf5 tyX5_ok nmX5 14 (by decide) kl206 rfl (v := .int 0) rfl rfl (Nat.le_of_ble_eq_true rfl) dX5_clear_38 (Wn := (gR T aR aD tx ps_8 nm)) (by subst e9; rfl) (fun H locs G => ?_)
  clear e9
  refine lv_aload_n F.1 F.2.1 dX5_clear_41 rfl (lv_at hl 0 rfl) ?_
  refine lv_iconst (v := 0) F.1 F.2.1 dX5_clear_42 (by decide) ?_
  obtain ⟨ps_9, e9, h⟩ := op_st h
  refine k_put F G 4 rfl (N := 18) (Tt := TX5) rfl kf5 tyX5_ok nmX5 15 (by decide) kl207 rfl (v := .int 0) rfl rfl (Nat.le_of_ble_eq_true rfl) dX5_clear_43 (Wn := (gR T aR aD tx ps_9 nm)) (by subst e9; rfl) (fun H locs G => ?_)
  clear e9
  obtain rfl := op_1 h
  exact k_vret F hr hlk G dX5_clear_46
abbrev rmX7_goToNext : Room := ({ frames := 1, cells := 0, slots := 0, locals := 22 } : Room)
noncomputable def qX7_goToNext_L13 (tx : Nat → Nat → Int32) (nm : Nat → Int64) (K : (Nat → Nat → Int32) → Option ((Nat → Nat → Int32))) : Nat → (Nat → Nat → Int32) → Option ((Nat → Nat → Int32))
  | 0, _ => none
  | n + 1, ps_2 =>
    if (tx 0 0) ≤ (ps_2 1 0) then (K ps_2) else bd (qX6_kindAt tx (ps_2 1 0)) fun r_4 => if r_4 = 4 then (bs (va_up ps_2 1 (fun _ => ((ps_2 1 0) + 1))) fun ps_5 => (qX7_goToNext_L13 tx nm K n ps_5)) else (K ps_2)

noncomputable def qX7_goToNext_L108 (tx : Nat → Nat → Int32) (nm : Nat → Int64) (x1_11 : Int32) (K : (Nat → Nat → Int32) → Option ((Nat → Nat → Int32))) : Nat → (Nat → Nat → Int32) → Option ((Nat → Nat → Int32))
  | 0, _ => none
  | n + 1, ps_12 =>
    if x1_11 = 0 then (K ps_12) else if (tx 0 0) ≤ ((ps_12 1 0) + (ps_12 2 0)) then (K ps_12) else bd (qX6_kindAt tx ((ps_12 1 0) + (ps_12 2 0))) fun r_14 => if r_14 = (ps_12 0 0) then (bs (va_up ps_12 2 (fun _ => ((ps_12 2 0) + 1))) fun ps_15 => (qX7_goToNext_L108 tx nm x1_11 K n ps_15)) else (K ps_12)

noncomputable def qX7_goToNext (tx : Nat → Nat → Int32) (ps : Nat → Nat → Int32) (nm : Nat → Int64) : Option ((Nat → Nat → Int32)) :=
  (bs (va_up ps 1 (fun _ => ((ps 1 0) + (ps 2 0)))) fun ps_1 => (qX7_goToNext_L13 tx nm  (fun (ps_3 : Nat → Nat → Int32) => bd (qX6_kindAt tx (ps_3 1 0)) fun r_6 => (bs (va_up ps_3 0 (fun _ => r_6)) fun ps_7 => (jn (fun (y_8 : Int32) => (bs (va_up ps_7 2 (fun _ => y_8)) fun ps_9 => (jn (fun (y_10 : Int32) => (qX7_goToNext_L108 tx nm y_10 (fun (ps_13 : Nat → Nat → Int32) => some ps_13) fu  ps_9)) fun j107 => jn (fun (_ : Unit) => (j107 1)) fun j102 => if (ps_9 0 0) = 1 then (j102 ()) else if (ps_9 0 0) = 2 then (j102 ()) else (j107 0)))) fun j83 => if (ps_7 0 0) = 0 then (j83 0) else (j83 1)))) fu  ps_1))

set_option maxHeartbeats 4000000 in
set_option maxRecDepth 100000 in
theorem mX7_goToNext (l : Launch) (D : va_G) (T : Nat → ClassId) (aR : Nat → Nat) (aD : Nat → Nat) (tx : Nat → Nat → Int32) (ps : Nat → Nat → Int32) (nm : Nat → Int64) {psR : Nat → Nat → Int32} (hres : qX7_goToNext tx ps nm = some (psR)) : Ct l yX7_goToNext (Cond.code yX7_goToNext cX7_goToNext 2 none :: kAll) rmX7_goToNext D T [.ref (aR 2)] (gR T aR aD tx ps nm) none (gR T aR aD tx psR nm) := by
  refine Ct.of (cc := cX7_goToNext) (maxL := 2) (ret := none) (by decide +kernel) rfl (Nat.le_of_ble_eq_true rfl) ?_
  intro pr en st mi ag bl me co A ls F hr hlk hnm G hl
  have hl : lv_has ls 2 [(0, .ref (aR 2))] := hl
  have h := hres
  unfold qX7_goToNext at h
  refine lv_aload_n F.1 F.2.1 dX7_goToNext_0 rfl (lv_at hl 0 rfl) ?_
  refine lv_dup F.1 F.2.1 dX7_goToNext_1 rfl ?_
  refine k_get F G 2 rfl (N := 4) (Tt := TX7) rfl kf7 2 (by decide) kl246 (v := .int (ps 1 0)) rfl dX7_goToNext_2 ?_
  refine lv_aload_n F.1 F.2.1 dX7_goToNext_5 rfl (lv_at hl 0 rfl) ?_
  refine k_get F G 2 rfl (N := 4) (Tt := TX7) rfl kf7 3 (by decide) kl247 (v := .int (ps 2 0)) rfl dX7_goToNext_6 ?_
  refine lv_iadd F.1 F.2.1 dX7_goToNext_9 ?_
  obtain ⟨ps_1, e9, h⟩ := op_st h
  refine k_put F G 2 rfl (N := 4) (Tt := TX7) rfl kf7 tyX7_ok nmX7 2 (by decide) kl246 rfl (v := .int ((ps 1 0) + (ps 2 0))) rfl rfl (Nat.le_of_ble_eq_true rfl) dX7_goToNext_10 (Wn := (gR T aR aD tx ps_1 nm)) (by subst e9; rfl) (fun H locs G => ?_)
  clear e9
  have L13 : ∀ (tx : Nat → Nat → Int32) (nm : Nat → Int64) (K : (Nat → Nat → Int32) → Option ((Nat → Nat → Int32))) (hK : ∀ (ps_3 : Nat → Nat → Int32) (H : Heap) (locs : List Loc) (ls : Array Slot), K ps_3 = some (psR) → Rg D T A st (gR T aR aD tx ps_3 nm) H locs → lv_has ls 2 [(0, .ref (aR 2))] → W pr l en rmX7_goToNext st mi ag bl me co H locs 0 0 (MQ bl (kQ none D (gR T aR aD tx psR nm) A) ag st rmX7_goToNext.cells rmX7_goToNext.slots A) (F0 mi 55 ls [])) (n : Nat) (ps_2 : Nat → Nat → Int32) (H : Heap) (locs : List Loc) (ls : Array Slot), qX7_goToNext_L13 tx nm K n ps_2 = some (psR) → Rg D T A st (gR T aR aD tx ps_2 nm) H locs → lv_has ls 2 [(0, .ref (aR 2))] → W pr l en rmX7_goToNext st mi ag bl me co H locs 0 0 (MQ bl (kQ none D (gR T aR aD tx psR nm) A) ag st rmX7_goToNext.cells rmX7_goToNext.slots A) (F0 mi 13 ls []) := by
    intro tx nm K hK n
    induction n with
    | zero => intro ps_2 H locs ls h; exact op_n h
    | succ n ih =>
      intro ps_2 H locs ls h G hl
      rw [qX7_goToNext_L13] at h
      refine lv_aload_n F.1 F.2.1 dX7_goToNext_13 rfl (lv_at hl 0 rfl) ?_
      refine k_get F G 2 rfl (N := 4) (Tt := TX7) rfl kf7 2 (by decide) kl246 (v := .int (ps_2 1 0)) rfl dX7_goToNext_14 ?_
      refine lv_aload_n F.1 F.2.1 dX7_goToNext_17 rfl (lv_at hl 0 rfl) ?_
      refine k_get F G 2 rfl (N := 4) (Tt := TX7) rfl kf7 0 (by decide) kl226 (v := .ref (aR 0)) rfl dX7_goToNext_18 ?_
      refine k_get F G 0 rfl (N := 2) (Tt := TX6) rfl kf6 1 (by decide) kl248 (v := .int (tx 0 0)) rfl dX7_goToNext_21 ?_
      refine lv_icmp_ge (tgt := 55) F.1 F.2.1 dX7_goToNext_24 (by decide) (fun c => ?_) (fun c => ?_)
      · have h := op_t h c
        exact hK ps_2 _ _ _ h G hl
      · have h := op_f h c
        refine lv_aload_n F.1 F.2.1 dX7_goToNext_27 rfl (lv_at hl 0 rfl) ?_
        refine k_get F G 2 rfl (N := 4) (Tt := TX7) rfl kf7 0 (by decide) kl226 (v := .ref (aR 0)) rfl dX7_goToNext_28 ?_
        refine lv_aload_n F.1 F.2.1 dX7_goToNext_31 rfl (lv_at hl 0 rfl) ?_
        refine k_get F G 2 rfl (N := 4) (Tt := TX7) rfl kf7 2 (by decide) kl246 (v := .int (ps_2 1 0)) rfl dX7_goToNext_32 ?_
        obtain ⟨r_4, hc, h⟩ := op_b h
        refine k_callV (rv := (some (.int r_4))) (Wc := (gT T aR tx)) (W2 := (gT T aR tx)) (Wn := (gR T aR aD tx ps_2 nm)) (As := [.int (ps_2 1 0)]) (rest := []) F G (mX6_kindAt l D T aR tx (ps_2 1 0) hc) (cwV 1 F.2.2.2.2 (kg_c kl250 (kg_c kl251 (kg_c kl252 (kg_c kl253 (kg_c kl242 kg_a))))) rfl rfl rfl (by decide +kernel) ⟨Nat.le_of_ble_eq_true rfl, Nat.le_of_ble_eq_true rfl⟩) 0 rfl (q := (RX6, TX6, 2)) rfl rfl (kCut_R G [0, 1] rfl rfl) rfl hl.1 rfl (Nat.le_of_ble_eq_true rfl) dX7_goToNext_35 ⟨Nat.le_of_ble_eq_true rfl, Nat.le_of_ble_eq_true rfl⟩ (cN := 0) (sN := 0) ⟨rfl, rfl⟩ (fun H locs G => ?_)
        refine lv_iconst (v := 4) F.1 F.2.1 dX7_goToNext_38 (by decide) ?_
        refine lv_icmp_ne (tgt := 55) F.1 F.2.1 dX7_goToNext_39 (by decide) (fun c => ?_) (fun c => ?_)
        · have h := op_f h c
          exact hK ps_2 _ _ _ h G hl
        · have h := op_t h c
          refine lv_aload_n F.1 F.2.1 dX7_goToNext_42 rfl (lv_at hl 0 rfl) ?_
          refine lv_dup F.1 F.2.1 dX7_goToNext_43 rfl ?_
          refine k_get F G 2 rfl (N := 4) (Tt := TX7) rfl kf7 2 (by decide) kl246 (v := .int (ps_2 1 0)) rfl dX7_goToNext_44 ?_
          refine lv_iconst (v := 1) F.1 F.2.1 dX7_goToNext_47 (by decide) ?_
          refine lv_iadd F.1 F.2.1 dX7_goToNext_48 ?_
          obtain ⟨ps_5, e9, h⟩ := op_st h
          refine k_put F G 2 rfl (N := 4) (Tt := TX7) rfl kf7 tyX7_ok nmX7 2 (by decide) kl246 rfl (v := .int ((ps_2 1 0) + 1)) rfl rfl (Nat.le_of_ble_eq_true rfl) dX7_goToNext_49 (Wn := (gR T aR aD tx ps_5 nm)) (by subst e9; rfl) (fun H locs G => ?_)
          clear e9
          refine lv_goto (tgt := 13) F.1 F.2.1 dX7_goToNext_52 (by decide) ?_
          exact ih ps_5 _ _ _ h G hl
  refine L13 tx nm  _ (fun ps_3 H locs ls h G hl => ?_) fu  ps_1 _ _ _ h G hl
  clear L13
  refine lv_aload_n F.1 F.2.1 dX7_goToNext_55 rfl (lv_at hl 0 rfl) ?_
  refine lv_aload_n F.1 F.2.1 dX7_goToNext_56 rfl (lv_at hl 0 rfl) ?_
  refine k_get F G 2 rfl (N := 4) (Tt := TX7) rfl kf7 0 (by decide) kl226 (v := .ref (aR 0)) rfl dX7_goToNext_57 ?_
  refine lv_aload_n F.1 F.2.1 dX7_goToNext_60 rfl (lv_at hl 0 rfl) ?_
  refine k_get F G 2 rfl (N := 4) (Tt := TX7) rfl kf7 2 (by decide) kl246 (v := .int (ps_3 1 0)) rfl dX7_goToNext_61 ?_
  obtain ⟨r_6, hc, h⟩ := op_b h
  refine k_callV (rv := (some (.int r_6))) (Wc := (gT T aR tx)) (W2 := (gT T aR tx)) (Wn := (gR T aR aD tx ps_3 nm)) (As := [.int (ps_3 1 0)]) (rest := [.ref (aR 2)]) F G (mX6_kindAt l D T aR tx (ps_3 1 0) hc) (cwV 1 F.2.2.2.2 (kg_c kl250 (kg_c kl251 (kg_c kl252 (kg_c kl253 (kg_c kl242 kg_a))))) rfl rfl rfl (by decide +kernel) ⟨Nat.le_of_ble_eq_true rfl, Nat.le_of_ble_eq_true rfl⟩) 0 rfl (q := (RX6, TX6, 2)) rfl rfl (kCut_R G [0, 1] rfl rfl) rfl hl.1 rfl (Nat.le_of_ble_eq_true rfl) dX7_goToNext_64 ⟨Nat.le_of_ble_eq_true rfl, Nat.le_of_ble_eq_true rfl⟩ (cN := 0) (sN := 0) ⟨rfl, rfl⟩ (fun H locs G => ?_)
  obtain ⟨ps_7, e9, h⟩ := op_st h
  refine k_put F G 2 rfl (N := 4) (Tt := TX7) rfl kf7 tyX7_ok nmX7 1 (by decide) kl249 rfl (v := .int r_6) rfl rfl (Nat.le_of_ble_eq_true rfl) dX7_goToNext_67 (Wn := (gR T aR aD tx ps_7 nm)) (by subst e9; rfl) (fun H locs G => ?_)
  clear e9
  refine lv_aload_n F.1 F.2.1 dX7_goToNext_70 rfl (lv_at hl 0 rfl) ?_
  refine lv_aload_n F.1 F.2.1 dX7_goToNext_71 rfl (lv_at hl 0 rfl) ?_
  refine k_get F G 2 rfl (N := 4) (Tt := TX7) rfl kf7 1 (by decide) kl249 (v := .int (ps_7 0 0)) rfl dX7_goToNext_72 ?_
  obtain ⟨j83, hj83, h⟩ := op_j h
  have J83 : ∀ (y_8 : Int32) (H : Heap) (locs : List Loc) (ls : Array Slot), j83 y_8 = some (psR) → Rg D T A st (gR T aR aD tx ps_7 nm) H locs → lv_has ls 2 [(0, .ref (aR 2))] → W pr l en rmX7_goToNext st mi ag bl me co H locs 0 0 (MQ bl (kQ none D (gR T aR aD tx psR nm) A) ag st rmX7_goToNext.cells rmX7_goToNext.slots A) (F0 mi 83 ls [.int y_8, .ref (aR 2)]) := by
    intro y_8 H locs ls h G hl
    rw [hj83] at h
    obtain ⟨ps_9, e9, h⟩ := op_st h
    refine k_put F G 2 rfl (N := 4) (Tt := TX7) rfl kf7 tyX7_ok nmX7 3 (by decide) kl247 rfl (v := .int y_8) rfl rfl (Nat.le_of_ble_eq_true rfl) dX7_goToNext_83 (Wn := (gR T aR aD tx ps_9 nm)) (by subst e9; rfl) (fun H locs G => ?_)
    clear e9
    refine lv_aload_n F.1 F.2.1 dX7_goToNext_86 rfl (lv_at hl 0 rfl) ?_
    refine k_get F G 2 rfl (N := 4) (Tt := TX7) rfl kf7 1 (by decide) kl249 (v := .int (ps_9 0 0)) rfl dX7_goToNext_87 ?_
    refine lv_iconst (v := 1) F.1 F.2.1 dX7_goToNext_90 (by decide) ?_
    obtain ⟨j107, hj107, h⟩ := op_j h
    have J107 : ∀ (y_10 : Int32) (H : Heap) (locs : List Loc) (ls : Array Slot), j107 y_10 = some (psR) → Rg D T A st (gR T aR aD tx ps_9 nm) H locs → lv_has ls 2 [(0, .ref (aR 2))] → W pr l en rmX7_goToNext st mi ag bl me co H locs 0 0 (MQ bl (kQ none D (gR T aR aD tx psR nm) A) ag st rmX7_goToNext.cells rmX7_goToNext.slots A) (F0 mi 107 ls [.int y_10]) := by
      intro y_10 H locs ls h G hl
      rw [hj107] at h
      refine lv_istore_n (lv' := [(1, .int y_10), (0, .ref (aR 2))]) F.1 F.2.1 dX7_goToNext_107 rfl hl (by decide) rfl (fun ls hl => ?_)
      have L108 : ∀ (tx : Nat → Nat → Int32) (nm : Nat → Int64) (x1_11 : Int32) (K : (Nat → Nat → Int32) → Option ((Nat → Nat → Int32))) (hK : ∀ (ps_13 : Nat → Nat → Int32) (H : Heap) (locs : List Loc) (ls : Array Slot), K ps_13 = some (psR) → Rg D T A st (gR T aR aD tx ps_13 nm) H locs → lv_has ls 2 [] → W pr l en rmX7_goToNext st mi ag bl me co H locs 0 0 (MQ bl (kQ none D (gR T aR aD tx psR nm) A) ag st rmX7_goToNext.cells rmX7_goToNext.slots A) (F0 mi 167 ls [])) (n : Nat) (ps_12 : Nat → Nat → Int32) (H : Heap) (locs : List Loc) (ls : Array Slot), qX7_goToNext_L108 tx nm x1_11 K n ps_12 = some (psR) → Rg D T A st (gR T aR aD tx ps_12 nm) H locs → lv_has ls 2 [(0, .ref (aR 2)), (1, .int x1_11)] → W pr l en rmX7_goToNext st mi ag bl me co H locs 0 0 (MQ bl (kQ none D (gR T aR aD tx psR nm) A) ag st rmX7_goToNext.cells rmX7_goToNext.slots A) (F0 mi 108 ls []) := by
        intro tx nm x1_11 K hK n
        induction n with
        | zero => intro ps_12 H locs ls h; exact op_n h
        | succ n ih =>
          intro ps_12 H locs ls h G hl
          rw [qX7_goToNext_L108] at h
          refine lv_iload_n F.1 F.2.1 dX7_goToNext_108 rfl (lv_at hl 1 rfl) ?_
          refine lv_if_eq (tgt := 167) F.1 F.2.1 dX7_goToNext_109 (by decide) (fun c => ?_) (fun c => ?_)
          · have h := op_t h c
            exact hK ps_12 _ _ _ h G (lv_sub hl [] rfl)
          · have h := op_f h c
            refine lv_aload_n F.1 F.2.1 dX7_goToNext_112 rfl (lv_at hl 0 rfl) ?_
            refine k_get F G 2 rfl (N := 4) (Tt := TX7) rfl kf7 2 (by decide) kl246 (v := .int (ps_12 1 0)) rfl dX7_goToNext_113 ?_
            refine lv_aload_n F.1 F.2.1 dX7_goToNext_116 rfl (lv_at hl 0 rfl) ?_
            refine k_get F G 2 rfl (N := 4) (Tt := TX7) rfl kf7 3 (by decide) kl247 (v := .int (ps_12 2 0)) rfl dX7_goToNext_117 ?_
            refine lv_iadd F.1 F.2.1 dX7_goToNext_120 ?_
            refine lv_aload_n F.1 F.2.1 dX7_goToNext_121 rfl (lv_at hl 0 rfl) ?_
            refine k_get F G 2 rfl (N := 4) (Tt := TX7) rfl kf7 0 (by decide) kl226 (v := .ref (aR 0)) rfl dX7_goToNext_122 ?_
            refine k_get F G 0 rfl (N := 2) (Tt := TX6) rfl kf6 1 (by decide) kl248 (v := .int (tx 0 0)) rfl dX7_goToNext_125 ?_
            refine lv_icmp_ge (tgt := 167) F.1 F.2.1 dX7_goToNext_128 (by decide) (fun c => ?_) (fun c => ?_)
            · have h := op_t h c
              exact hK ps_12 _ _ _ h G (lv_sub hl [] rfl)
            · have h := op_f h c
              refine lv_aload_n F.1 F.2.1 dX7_goToNext_131 rfl (lv_at hl 0 rfl) ?_
              refine k_get F G 2 rfl (N := 4) (Tt := TX7) rfl kf7 0 (by decide) kl226 (v := .ref (aR 0)) rfl dX7_goToNext_132 ?_
              refine lv_aload_n F.1 F.2.1 dX7_goToNext_135 rfl (lv_at hl 0 rfl) ?_
              refine k_get F G 2 rfl (N := 4) (Tt := TX7) rfl kf7 2 (by decide) kl246 (v := .int (ps_12 1 0)) rfl dX7_goToNext_136 ?_
              refine lv_aload_n F.1 F.2.1 dX7_goToNext_139 rfl (lv_at hl 0 rfl) ?_
              refine k_get F G 2 rfl (N := 4) (Tt := TX7) rfl kf7 3 (by decide) kl247 (v := .int (ps_12 2 0)) rfl dX7_goToNext_140 ?_
              refine lv_iadd F.1 F.2.1 dX7_goToNext_143 ?_
              obtain ⟨r_14, hc, h⟩ := op_b h
              refine k_callV (rv := (some (.int r_14))) (Wc := (gT T aR tx)) (W2 := (gT T aR tx)) (Wn := (gR T aR aD tx ps_12 nm)) (As := [.int ((ps_12 1 0) + (ps_12 2 0))]) (rest := []) F G (mX6_kindAt l D T aR tx ((ps_12 1 0) + (ps_12 2 0)) hc) (cwV 1 F.2.2.2.2 (kg_c kl250 (kg_c kl251 (kg_c kl252 (kg_c kl253 (kg_c kl242 kg_a))))) rfl rfl rfl (by decide +kernel) ⟨Nat.le_of_ble_eq_true rfl, Nat.le_of_ble_eq_true rfl⟩) 0 rfl (q := (RX6, TX6, 2)) rfl rfl (kCut_R G [0, 1] rfl rfl) rfl hl.1 rfl (Nat.le_of_ble_eq_true rfl) dX7_goToNext_144 ⟨Nat.le_of_ble_eq_true rfl, Nat.le_of_ble_eq_true rfl⟩ (cN := 0) (sN := 0) ⟨rfl, rfl⟩ (fun H locs G => ?_)
              refine lv_aload_n F.1 F.2.1 dX7_goToNext_147 rfl (lv_at hl 0 rfl) ?_
              refine k_get F G 2 rfl (N := 4) (Tt := TX7) rfl kf7 1 (by decide) kl249 (v := .int (ps_12 0 0)) rfl dX7_goToNext_148 ?_
              refine lv_icmp_ne (tgt := 167) F.1 F.2.1 dX7_goToNext_151 (by decide) (fun c => ?_) (fun c => ?_)
              · have h := op_f h c
                exact hK ps_12 _ _ _ h G (lv_sub hl [] rfl)
              · have h := op_t h c
                refine lv_aload_n F.1 F.2.1 dX7_goToNext_154 rfl (lv_at hl 0 rfl) ?_
                refine lv_dup F.1 F.2.1 dX7_goToNext_155 rfl ?_
                refine k_get F G 2 rfl (N := 4) (Tt := TX7) rfl kf7 3 (by decide) kl247 (v := .int (ps_12 2 0)) rfl dX7_goToNext_156 ?_
                refine lv_iconst (v := 1) F.1 F.2.1 dX7_goToNext_159 (by decide) ?_
                refine lv_iadd F.1 F.2.1 dX7_goToNext_160 ?_
                obtain ⟨ps_15, e9, h⟩ := op_st h
                refine k_put F G 2 rfl (N := 4) (Tt := TX7) rfl kf7 tyX7_ok nmX7 3 (by decide) kl247 rfl (v := .int ((ps_12 2 0) + 1)) rfl rfl (Nat.le_of_ble_eq_true rfl) dX7_goToNext_161 (Wn := (gR T aR aD tx ps_15 nm)) (by subst e9; rfl) (fun H locs G => ?_)
                clear e9
                refine lv_goto (tgt := 108) F.1 F.2.1 dX7_goToNext_164 (by decide) ?_
                exact ih ps_15 _ _ _ h G hl
      refine L108 tx nm y_10 _ (fun ps_13 H locs ls h G hl => ?_) fu  ps_9 _ _ _ h G (lv_sub hl [1, 0] rfl)
      clear L108
      obtain rfl := op_1 h
      exact k_vret F hr hlk G dX7_goToNext_167
    clear hj107
    obtain ⟨j102, hj102, h⟩ := op_j h
    have J102 : ∀ (H : Heap) (locs : List Loc) (ls : Array Slot), j102 () = some (psR) → Rg D T A st (gR T aR aD tx ps_9 nm) H locs → lv_has ls 2 [(0, .ref (aR 2))] → W pr l en rmX7_goToNext st mi ag bl me co H locs 0 0 (MQ bl (kQ none D (gR T aR aD tx psR nm) A) ag st rmX7_goToNext.cells rmX7_goToNext.slots A) (F0 mi 102 ls []) := by
      intro H locs ls h G hl
      rw [hj102] at h
      refine lv_iconst (v := 1) F.1 F.2.1 dX7_goToNext_102 (by decide) ?_
      refine lv_goto (tgt := 107) F.1 F.2.1 dX7_goToNext_103 (by decide) ?_
      exact J107 1 _ _ _ h G hl
    clear hj102
    refine lv_icmp_eq (tgt := 102) F.1 F.2.1 dX7_goToNext_91 (by decide) (fun c => ?_) (fun c => ?_)
    · have h := op_t h c
      exact J102 _ _ _ h G hl
    · have h := op_f h c
      refine lv_aload_n F.1 F.2.1 dX7_goToNext_94 rfl (lv_at hl 0 rfl) ?_
      refine k_get F G 2 rfl (N := 4) (Tt := TX7) rfl kf7 1 (by decide) kl249 (v := .int (ps_9 0 0)) rfl dX7_goToNext_95 ?_
      refine lv_iconst (v := 2) F.1 F.2.1 dX7_goToNext_98 (by decide) ?_
      refine lv_icmp_ne (tgt := 106) F.1 F.2.1 dX7_goToNext_99 (by decide) (fun c => ?_) (fun c => ?_)
      · have h := op_f h c
        refine lv_iconst (v := 0) F.1 F.2.1 dX7_goToNext_106 (by decide) ?_
        exact J107 0 _ _ _ h G hl
      · have h := op_t h c
        exact J102 _ _ _ h G hl
  clear hj83
  refine lv_if_ne (tgt := 82) F.1 F.2.1 dX7_goToNext_75 (by decide) (fun c => ?_) (fun c => ?_)
  · have h := op_f h c
    refine lv_iconst (v := 1) F.1 F.2.1 dX7_goToNext_82 (by decide) ?_
    exact J83 1 _ _ _ h G hl
  · have h := op_t h c
    refine lv_iconst (v := 0) F.1 F.2.1 dX7_goToNext_78 (by decide) ?_
    refine lv_goto (tgt := 83) F.1 F.2.1 dX7_goToNext_79 (by decide) ?_
    exact J83 0 _ _ _ h G hl
abbrev rmX7_goToFirst : Room := ({ frames := 2, cells := 0, slots := 0, locals := 43 } : Room)
noncomputable def qX7_goToFirst (tx : Nat → Nat → Int32) (ps : Nat → Nat → Int32) (nm : Nat → Int64) : Option ((Nat → Nat → Int32)) :=
  (bs (va_up ps 1 (fun _ => 0)) fun ps_1 => (bs (va_up ps_1 2 (fun _ => 0)) fun ps_2 => bd (qX7_goToNext tx ps_2 nm) fun ps_3 => some ps_3))

set_option maxHeartbeats 4000000 in
set_option maxRecDepth 100000 in
theorem mX7_goToFirst (l : Launch) (D : va_G) (T : Nat → ClassId) (aR : Nat → Nat) (aD : Nat → Nat) (tx : Nat → Nat → Int32) (ps : Nat → Nat → Int32) (nm : Nat → Int64) {psR : Nat → Nat → Int32} (hres : qX7_goToFirst tx ps nm = some (psR)) : Ct l yX7_goToFirst (Cond.code yX7_goToFirst cX7_goToFirst 1 none :: kAll) rmX7_goToFirst D T [.ref (aR 2)] (gR T aR aD tx ps nm) none (gR T aR aD tx psR nm) := by
  refine Ct.of (cc := cX7_goToFirst) (maxL := 1) (ret := none) (by decide +kernel) rfl (Nat.le_of_ble_eq_true rfl) ?_
  intro pr en st mi ag bl me co A ls F hr hlk hnm G hl
  have hl : lv_has ls 1 [(0, .ref (aR 2))] := hl
  have h := hres
  unfold qX7_goToFirst at h
  refine lv_aload_n F.1 F.2.1 dX7_goToFirst_0 rfl (lv_at hl 0 rfl) ?_
  refine lv_iconst (v := 0) F.1 F.2.1 dX7_goToFirst_1 (by decide) ?_
  obtain ⟨ps_1, e9, h⟩ := op_st h
  refine k_put F G 2 rfl (N := 4) (Tt := TX7) rfl kf7 tyX7_ok nmX7 2 (by decide) kl246 rfl (v := .int 0) rfl rfl (Nat.le_of_ble_eq_true rfl) dX7_goToFirst_2 (Wn := (gR T aR aD tx ps_1 nm)) (by subst e9; rfl) (fun H locs G => ?_)
  clear e9
  refine lv_aload_n F.1 F.2.1 dX7_goToFirst_5 rfl (lv_at hl 0 rfl) ?_
  refine lv_iconst (v := 0) F.1 F.2.1 dX7_goToFirst_6 (by decide) ?_
  obtain ⟨ps_2, e9, h⟩ := op_st h
  refine k_put F G 2 rfl (N := 4) (Tt := TX7) rfl kf7 tyX7_ok nmX7 3 (by decide) kl247 rfl (v := .int 0) rfl rfl (Nat.le_of_ble_eq_true rfl) dX7_goToFirst_7 (Wn := (gR T aR aD tx ps_2 nm)) (by subst e9; rfl) (fun H locs G => ?_)
  clear e9
  refine lv_aload_n F.1 F.2.1 dX7_goToFirst_10 rfl (lv_at hl 0 rfl) ?_
  obtain ⟨ps_3, hc, h⟩ := op_b h
  refine k_callV (rv := none) (Wc := (gR T aR aD tx ps_2 nm)) (W2 := (gR T aR aD tx ps_3 nm)) (Wn := (gR T aR aD tx ps_3 nm)) (As := []) (rest := []) F G (mX7_goToNext l D T aR aD tx ps_2 nm hc) (cwV 0 F.2.2.2.2 (kg_c kl255 (kg_c kl256 (kg_c kl257 (kg_c kl236 (kg_c kl245 kg_a))))) rfl rfl rfl (by decide +kernel) ⟨Nat.le_of_ble_eq_true rfl, Nat.le_of_ble_eq_true rfl⟩) 2 rfl (q := (RX7, TX7, 4)) rfl rfl (kCut_F G) rfl hl.1 rfl (Nat.le_of_ble_eq_true rfl) dX7_goToFirst_11 ⟨Nat.le_of_ble_eq_true rfl, Nat.le_of_ble_eq_true rfl⟩ (cN := 0) (sN := 0) ⟨rfl, rfl⟩ (fun H locs G => ?_)
  obtain rfl := op_1 h
  exact k_vret F hr hlk G dX7_goToFirst_14
abbrev rmX7_isWord : Room := ({ frames := 5, cells := 0, slots := 0, locals := 111 } : Room)
noncomputable def qX7_isWord_L23 (wi : Nat) (tx : Nat → Nat → Int32) (ps : Nat → Nat → Int32) (nm : Nat → Int64) (K : Unit → Option (Int32)) : Nat → Int32 → Option (Int32)
  | 0, _ => none
  | n + 1, x2_1 =>
    if (kLenI wi) ≤ x2_1 then (K ()) else bd (qX6_byteAt tx ((ps 1 0) + x2_1)) fun r_2 => gd (vp_in x2_1 (kLen.getD wi 0)) (if r_2 = (kChr wi x2_1) then (qX7_isWord_L23 wi tx ps nm K n (x2_1 + 1)) else some 0)

noncomputable def qX7_isWord (tx : Nat → Nat → Int32) (ps : Nat → Nat → Int32) (nm : Nat → Int64) (wi : Nat) : Option (Int32) :=
  if (ps 0 0) = 1 then if (ps 2 0) = (kLenI wi) then (qX7_isWord_L23 wi tx ps nm  (fun (_u : Unit) => some 1) fu 0 ) else some 0 else some 0

set_option maxHeartbeats 4000000 in
set_option maxRecDepth 100000 in
theorem mX7_isWord (l : Launch) (D : va_G) (T : Nat → ClassId) (aR : Nat → Nat) (aD : Nat → Nat) (tx : Nat → Nat → Int32) (ps : Nat → Nat → Int32) (nm : Nat → Int64) (wi : Nat) {rR : Int32} (hw : wi < 9) (hres : qX7_isWord tx ps nm wi = some (rR)) : Ct l yX7_isWord (Cond.code yX7_isWord cX7_isWord 3 (some .boolean) :: kAll) rmX7_isWord D T [.ref (aR 2), .ref (T (100 + wi))] (gR T aR aD tx ps nm) (some (.int rR)) (gR T aR aD tx ps nm) := by
  refine Ct.of (cc := cX7_isWord) (maxL := 3) (ret := (some .boolean)) (by decide +kernel) rfl (Nat.le_of_ble_eq_true rfl) ?_
  intro pr en st mi ag bl me co A ls F hr hlk hnm G hl
  have hl : lv_has ls 3 [(0, .ref (aR 2)), (1, .ref (T (100 + wi)))] := hl
  have h := hres
  unfold qX7_isWord at h
  refine lv_aload_n F.1 F.2.1 dX7_isWord_0 rfl (lv_at hl 0 rfl) ?_
  refine k_get F G 2 rfl (N := 4) (Tt := TX7) rfl kf7 1 (by decide) kl249 (v := .int (ps 0 0)) rfl dX7_isWord_1 ?_
  refine lv_iconst (v := 1) F.1 F.2.1 dX7_isWord_4 (by decide) ?_
  refine lv_icmp_ne (tgt := 19) F.1 F.2.1 dX7_isWord_5 (by decide) (fun c => ?_) (fun c => ?_)
  · have h := op_f h c
    refine lv_iconst (v := 0) F.1 F.2.1 dX7_isWord_19 (by decide) ?_
    obtain rfl := op_1 h
    exact k_zret F hr rfl hlk G dX7_isWord_20
  · have h := op_t h c
    refine lv_aload_n F.1 F.2.1 dX7_isWord_8 rfl (lv_at hl 0 rfl) ?_
    refine k_get F G 2 rfl (N := 4) (Tt := TX7) rfl kf7 3 (by decide) kl247 (v := .int (ps 2 0)) rfl dX7_isWord_9 ?_
    refine lv_aload_n F.1 F.2.1 dX7_isWord_12 rfl (lv_at hl 1 rfl) ?_
    refine k_callVR (rv := some (.int (kLenI wi))) (Wc := []) (W2 := []) (Wn := (gR T aR aD tx ps nm)) (As := []) (rest := [.int (ps 2 0)]) F G (mJ0_length_8abf5 l D T wi hw) (cwV 0 F.2.2.2.2 (kg_c kl303 (kg_c kl304 (kg_c kl305 (kg_c kl266 (kg_c kl261 kg_a))))) rfl rfl rfl (by decide +kernel) ⟨Nat.le_of_ble_eq_true rfl, Nat.le_of_ble_eq_true rfl⟩) (k_strv G hw) (kCut_0 G) rfl hl.1 rfl (Nat.le_of_ble_eq_true rfl) dX7_isWord_13 ⟨Nat.le_of_ble_eq_true rfl, Nat.le_of_ble_eq_true rfl⟩ (cN := 0) (sN := 0) ⟨rfl, rfl⟩ (fun H locs G => ?_)
    refine lv_icmp_eq (tgt := 21) F.1 F.2.1 dX7_isWord_16 (by decide) (fun c => ?_) (fun c => ?_)
    · have h := op_t h c
      refine lv_iconst (v := 0) F.1 F.2.1 dX7_isWord_21 (by decide) ?_
      refine lv_istore_n (lv' := [(2, .int 0), (0, .ref (aR 2)), (1, .ref (T (100 + wi)))]) F.1 F.2.1 dX7_isWord_22 rfl hl (by decide) rfl (fun ls hl => ?_)
      have L23 : ∀ (tx : Nat → Nat → Int32) (ps : Nat → Nat → Int32) (nm : Nat → Int64) (K : Unit → Option (Int32)) (hK : ∀ (_u : Unit) (H : Heap) (locs : List Loc) (ls : Array Slot), K _u = some (rR) → Rg D T A st (gR T aR aD tx ps nm) H locs → lv_has ls 3 [] → W pr l en rmX7_isWord st mi ag bl me co H locs 0 0 (MQ bl (kQ (some (.int rR)) D (gR T aR aD tx ps nm) A) ag st rmX7_isWord.cells rmX7_isWord.slots A) (F0 mi 60 ls [])) (n : Nat) (x2_1 : Int32) (H : Heap) (locs : List Loc) (ls : Array Slot), qX7_isWord_L23 wi tx ps nm K n x2_1 = some (rR) → Rg D T A st (gR T aR aD tx ps nm) H locs → lv_has ls 3 [(0, .ref (aR 2)), (1, .ref (T (100 + wi))), (2, .int x2_1)] → W pr l en rmX7_isWord st mi ag bl me co H locs 0 0 (MQ bl (kQ (some (.int rR)) D (gR T aR aD tx ps nm) A) ag st rmX7_isWord.cells rmX7_isWord.slots A) (F0 mi 23 ls []) := by
        intro tx ps nm K hK n
        induction n with
        | zero => intro x2_1 H locs ls h; exact op_n h
        | succ n ih =>
          intro x2_1 H locs ls h G hl
          rw [qX7_isWord_L23] at h
          refine lv_iload_n F.1 F.2.1 dX7_isWord_23 rfl (lv_at hl 2 rfl) ?_
          refine lv_aload_n F.1 F.2.1 dX7_isWord_24 rfl (lv_at hl 1 rfl) ?_
          refine k_callVR (rv := some (.int (kLenI wi))) (Wc := []) (W2 := []) (Wn := (gR T aR aD tx ps nm)) (As := []) (rest := [.int x2_1]) F G (mJ0_length_8abf5 l D T wi hw) (cwV 0 F.2.2.2.2 (kg_c kl303 (kg_c kl304 (kg_c kl305 (kg_c kl266 (kg_c kl261 kg_a))))) rfl rfl rfl (by decide +kernel) ⟨Nat.le_of_ble_eq_true rfl, Nat.le_of_ble_eq_true rfl⟩) (k_strv G hw) (kCut_0 G) rfl hl.1 rfl (Nat.le_of_ble_eq_true rfl) dX7_isWord_25 ⟨Nat.le_of_ble_eq_true rfl, Nat.le_of_ble_eq_true rfl⟩ (cN := 0) (sN := 0) ⟨rfl, rfl⟩ (fun H locs G => ?_)
          refine lv_icmp_ge (tgt := 60) F.1 F.2.1 dX7_isWord_28 (by decide) (fun c => ?_) (fun c => ?_)
          · have h := op_t h c
            exact hK () _ _ _ h G (lv_sub hl [] rfl)
          · have h := op_f h c
            refine lv_aload_n F.1 F.2.1 dX7_isWord_31 rfl (lv_at hl 0 rfl) ?_
            refine k_get F G 2 rfl (N := 4) (Tt := TX7) rfl kf7 0 (by decide) kl226 (v := .ref (aR 0)) rfl dX7_isWord_32 ?_
            refine lv_aload_n F.1 F.2.1 dX7_isWord_35 rfl (lv_at hl 0 rfl) ?_
            refine k_get F G 2 rfl (N := 4) (Tt := TX7) rfl kf7 2 (by decide) kl246 (v := .int (ps 1 0)) rfl dX7_isWord_36 ?_
            refine lv_iload_n F.1 F.2.1 dX7_isWord_39 rfl (lv_at hl 2 rfl) ?_
            refine lv_iadd F.1 F.2.1 dX7_isWord_40 ?_
            obtain ⟨r_2, hc, h⟩ := op_b h
            refine k_callV (rv := (some (.int r_2))) (Wc := (gT T aR tx)) (W2 := (gT T aR tx)) (Wn := (gR T aR aD tx ps nm)) (As := [.int ((ps 1 0) + x2_1)]) (rest := []) F G (mX6_byteAt l D T aR tx ((ps 1 0) + x2_1) hc) (cwV 1 F.2.2.2.2 (kg_c kl306 (kg_c kl307 (kg_c kl308 (kg_c kl253 (kg_c kl267 kg_a))))) rfl rfl rfl (by decide +kernel) ⟨Nat.le_of_ble_eq_true rfl, Nat.le_of_ble_eq_true rfl⟩) 0 rfl (q := (RX6, TX6, 2)) rfl rfl (kCut_R G [0, 1] rfl rfl) rfl hl.1 rfl (Nat.le_of_ble_eq_true rfl) dX7_isWord_41 ⟨Nat.le_of_ble_eq_true rfl, Nat.le_of_ble_eq_true rfl⟩ (cN := 0) (sN := 0) ⟨rfl, rfl⟩ (fun H locs G => ?_)
            refine lv_aload_n F.1 F.2.1 dX7_isWord_44 rfl (lv_at hl 1 rfl) ?_
            refine lv_iload_n F.1 F.2.1 dX7_isWord_45 rfl (lv_at hl 2 rfl) ?_
            obtain ⟨c, h⟩ := op_g h
            refine k_callVR (rv := some (.int (kChr wi x2_1))) (Wc := []) (W2 := []) (Wn := (gR T aR aD tx ps nm)) (As := [.int x2_1]) (rest := [.int r_2]) F G (mJ0_charAt_5068e l D T wi x2_1 hw c) (cwV 1 F.2.2.2.2 (kg_c kl309 (kg_c kl310 (kg_c kl311 (kg_c kl266 (kg_c kl293 kg_a))))) rfl rfl rfl (by decide +kernel) ⟨Nat.le_of_ble_eq_true rfl, Nat.le_of_ble_eq_true rfl⟩) (k_strv G hw) (kCut_0 G) rfl hl.1 rfl (Nat.le_of_ble_eq_true rfl) dX7_isWord_46 ⟨Nat.le_of_ble_eq_true rfl, Nat.le_of_ble_eq_true rfl⟩ (cN := 0) (sN := 0) ⟨rfl, rfl⟩ (fun H locs G => ?_)
            refine lv_icmp_eq (tgt := 54) F.1 F.2.1 dX7_isWord_49 (by decide) (fun c => ?_) (fun c => ?_)
            · have h := op_t h c
              refine lv_iinc (v := (x2_1 + 1)) (lv' := [(2, .int (x2_1 + 1)), (0, .ref (aR 2)), (1, .ref (T (100 + wi)))]) F.1 F.2.1 dX7_isWord_54 hl (k := 2) rfl rfl (by decide) rfl (fun ls hl => ?_)
              refine lv_goto (tgt := 23) F.1 F.2.1 dX7_isWord_57 (by decide) ?_
              exact ih (x2_1 + 1) _ _ _ h G (lv_sub hl [1, 2, 0] rfl)
            · have h := op_f h c
              refine lv_iconst (v := 0) F.1 F.2.1 dX7_isWord_52 (by decide) ?_
              obtain rfl := op_1 h
              exact k_zret F hr rfl hlk G dX7_isWord_53
      refine L23 tx ps nm  _ (fun _u H locs ls h G hl => ?_) fu 0  _ _ _ h G (lv_sub hl [1, 2, 0] rfl)
      clear L23
      refine lv_iconst (v := 1) F.1 F.2.1 dX7_isWord_60 (by decide) ?_
      obtain rfl := op_1 h
      exact k_zret F hr rfl hlk G dX7_isWord_61
    · have h := op_f h c
      refine lv_iconst (v := 0) F.1 F.2.1 dX7_isWord_19 (by decide) ?_
      obtain rfl := op_1 h
      exact k_zret F hr rfl hlk G dX7_isWord_20
abbrev rmX4_stopAt : Room := ({ frames := 0, cells := 0, slots := 0, locals := 0 } : Room)
noncomputable def qX4_stopAt (tx : Nat → Nat → Int32) (ps : Nat → Nat → Int32) (nm : Nat → Int64) (x1 : Int32) : Option ((Nat → Nat → Int32)) :=
  if (ps 3 0) = 0 then (bs (va_up ps 3 (fun _ => x1)) fun ps_1 => (bs (va_up ps_1 4 (fun _ => (ps_1 1 0))) fun ps_2 => some ps_2)) else some ps

set_option maxHeartbeats 4000000 in
set_option maxRecDepth 100000 in
theorem mX4_stopAt (l : Launch) (D : va_G) (T : Nat → ClassId) (aR : Nat → Nat) (aD : Nat → Nat) (tx : Nat → Nat → Int32) (ps : Nat → Nat → Int32) (nm : Nat → Int64) (x1 : Int32) {psR : Nat → Nat → Int32} (hres : qX4_stopAt tx ps nm x1 = some (psR)) : Ct l yX4_stopAt (Cond.code yX4_stopAt cX4_stopAt 2 none :: kAll) rmX4_stopAt D T [.ref (aR 3), .int x1] (gR T aR aD tx ps nm) none (gR T aR aD tx psR nm) := by
  refine Ct.of (cc := cX4_stopAt) (maxL := 2) (ret := none) (by decide +kernel) rfl (Nat.le_of_ble_eq_true rfl) ?_
  intro pr en st mi ag bl me co A ls F hr hlk hnm G hl
  have hl : lv_has ls 2 [(0, .ref (aR 3)), (1, .int x1)] := hl
  have h := hres
  unfold qX4_stopAt at h
  refine lv_aload_n F.1 F.2.1 dX4_stopAt_0 rfl (lv_at hl 0 rfl) ?_
  refine k_get F G 3 rfl (N := 6) (Tt := TX4) rfl kf4 3 (by decide) kl313 (v := .int (ps 3 0)) rfl dX4_stopAt_1 ?_
  refine lv_if_ne (tgt := 23) F.1 F.2.1 dX4_stopAt_4 (by decide) (fun c => ?_) (fun c => ?_)
  · have h := op_f h c
    obtain rfl := op_1 h
    exact k_vret F hr hlk G dX4_stopAt_23
  · have h := op_t h c
    refine lv_aload_n F.1 F.2.1 dX4_stopAt_7 rfl (lv_at hl 0 rfl) ?_
    refine lv_iload_n F.1 F.2.1 dX4_stopAt_8 rfl (lv_at hl 1 rfl) ?_
    obtain ⟨ps_1, e9, h⟩ := op_st h
    refine k_put F G 3 rfl (N := 6) (Tt := TX4) rfl kf4 tyX4_ok nmX4 3 (by decide) kl313 rfl (v := .int x1) rfl rfl (Nat.le_of_ble_eq_true rfl) dX4_stopAt_9 (Wn := (gR T aR aD tx ps_1 nm)) (by subst e9; rfl) (fun H locs G => ?_)
    clear e9
    refine lv_aload_n F.1 F.2.1 dX4_stopAt_12 rfl (lv_at hl 0 rfl) ?_
    refine lv_aload_n F.1 F.2.1 dX4_stopAt_13 rfl (lv_at hl 0 rfl) ?_
    refine k_get F G 3 rfl (N := 6) (Tt := TX4) rfl kf4 1 (by decide) kl237 (v := .ref (aR 2)) rfl dX4_stopAt_14 ?_
    refine k_get F G 2 rfl (N := 4) (Tt := TX7) rfl kf7 2 (by decide) kl314 (v := .int (ps_1 1 0)) rfl dX4_stopAt_17 ?_
    obtain ⟨ps_2, e9, h⟩ := op_st h
    refine k_put F G 3 rfl (N := 6) (Tt := TX4) rfl kf4 tyX4_ok nmX4 4 (by decide) kl232 rfl (v := .int (ps_1 1 0)) rfl rfl (Nat.le_of_ble_eq_true rfl) dX4_stopAt_20 (Wn := (gR T aR aD tx ps_2 nm)) (by subst e9; rfl) (fun H locs G => ?_)
    clear e9
    obtain rfl := op_1 h
    exact k_vret F hr hlk G dX4_stopAt_23
abbrev rmX4_readSemicolon : Room := ({ frames := 2, cells := 0, slots := 0, locals := 43 } : Room)
noncomputable def qX4_readSemicolon (tx : Nat → Nat → Int32) (ps : Nat → Nat → Int32) (nm : Nat → Int64) : Option ((Nat → Nat → Int32)) :=
  if (ps 3 0) = 0 then if (ps 0 0) = 3 then bd (qX7_goToNext tx ps nm) fun ps_1 => some ps_1 else bd (qX4_stopAt tx ps nm 1) fun ps_2 => some ps_2 else some ps

set_option maxHeartbeats 4000000 in
set_option maxRecDepth 100000 in
theorem mX4_readSemicolon (l : Launch) (D : va_G) (T : Nat → ClassId) (aR : Nat → Nat) (aD : Nat → Nat) (tx : Nat → Nat → Int32) (ps : Nat → Nat → Int32) (nm : Nat → Int64) {psR : Nat → Nat → Int32} (hres : qX4_readSemicolon tx ps nm = some (psR)) : Ct l yX4_readSemicolon (Cond.code yX4_readSemicolon cX4_readSemicolon 1 none :: kAll) rmX4_readSemicolon D T [.ref (aR 3)] (gR T aR aD tx ps nm) none (gR T aR aD tx psR nm) := by
  refine Ct.of (cc := cX4_readSemicolon) (maxL := 1) (ret := none) (by decide +kernel) rfl (Nat.le_of_ble_eq_true rfl) ?_
  intro pr en st mi ag bl me co A ls F hr hlk hnm G hl
  have hl : lv_has ls 1 [(0, .ref (aR 3))] := hl
  have h := hres
  unfold qX4_readSemicolon at h
  refine lv_aload_n F.1 F.2.1 dX4_readSemicolon_0 rfl (lv_at hl 0 rfl) ?_
  refine k_get F G 3 rfl (N := 6) (Tt := TX4) rfl kf4 3 (by decide) kl313 (v := .int (ps 3 0)) rfl dX4_readSemicolon_1 ?_
  refine lv_if_eq (tgt := 8) F.1 F.2.1 dX4_readSemicolon_4 (by decide) (fun c => ?_) (fun c => ?_)
  · have h := op_t h c
    refine lv_aload_n F.1 F.2.1 dX4_readSemicolon_8 rfl (lv_at hl 0 rfl) ?_
    refine k_get F G 3 rfl (N := 6) (Tt := TX4) rfl kf4 1 (by decide) kl237 (v := .ref (aR 2)) rfl dX4_readSemicolon_9 ?_
    refine k_get F G 2 rfl (N := 4) (Tt := TX7) rfl kf7 1 (by decide) kl316 (v := .int (ps 0 0)) rfl dX4_readSemicolon_12 ?_
    refine lv_iconst (v := 3) F.1 F.2.1 dX4_readSemicolon_15 (by decide) ?_
    refine lv_icmp_eq (tgt := 25) F.1 F.2.1 dX4_readSemicolon_16 (by decide) (fun c => ?_) (fun c => ?_)
    · have h := op_t h c
      refine lv_aload_n F.1 F.2.1 dX4_readSemicolon_25 rfl (lv_at hl 0 rfl) ?_
      refine k_get F G 3 rfl (N := 6) (Tt := TX4) rfl kf4 1 (by decide) kl237 (v := .ref (aR 2)) rfl dX4_readSemicolon_26 ?_
      obtain ⟨ps_1, hc, h⟩ := op_b h
      refine k_callV (rv := none) (Wc := (gR T aR aD tx ps nm)) (W2 := (gR T aR aD tx ps_1 nm)) (Wn := (gR T aR aD tx ps_1 nm)) (As := []) (rest := []) F G (mX7_goToNext l D T aR aD tx ps nm hc) (cwV 0 F.2.2.2.2 (kg_c kl323 (kg_c kl256 (kg_c kl257 (kg_c kl236 (kg_c kl245 kg_a))))) rfl rfl rfl (by decide +kernel) ⟨Nat.le_of_ble_eq_true rfl, Nat.le_of_ble_eq_true rfl⟩) 2 rfl (q := (RX7, TX7, 4)) rfl rfl (kCut_F G) rfl hl.1 rfl (Nat.le_of_ble_eq_true rfl) dX4_readSemicolon_29 ⟨Nat.le_of_ble_eq_true rfl, Nat.le_of_ble_eq_true rfl⟩ (cN := 0) (sN := 0) ⟨rfl, rfl⟩ (fun H locs G => ?_)
      obtain rfl := op_1 h
      exact k_vret F hr hlk G dX4_readSemicolon_32
    · have h := op_f h c
      refine lv_aload_n F.1 F.2.1 dX4_readSemicolon_19 rfl (lv_at hl 0 rfl) ?_
      refine lv_iconst (v := 1) F.1 F.2.1 dX4_readSemicolon_20 (by decide) ?_
      obtain ⟨ps_2, hc, h⟩ := op_b h
      refine k_callV (rv := none) (Wc := (gR T aR aD tx ps nm)) (W2 := (gR T aR aD tx ps_2 nm)) (Wn := (gR T aR aD tx ps_2 nm)) (As := [.int 1]) (rest := []) F G (mX4_stopAt l D T aR aD tx ps nm 1 hc) (cwV 1 F.2.2.2.2 (kg_c kl318 (kg_c kl319 (kg_c kl320 (kg_c kl321 (kg_c kl312 kg_a))))) rfl rfl rfl (by decide +kernel) ⟨Nat.le_of_ble_eq_true rfl, Nat.le_of_ble_eq_true rfl⟩) 3 rfl (q := (RX4, TX4, 6)) rfl rfl (kCut_F G) rfl hl.1 rfl (Nat.le_of_ble_eq_true rfl) dX4_readSemicolon_21 ⟨Nat.le_of_ble_eq_true rfl, Nat.le_of_ble_eq_true rfl⟩ (cN := 0) (sN := 0) ⟨rfl, rfl⟩ (fun H locs G => ?_)
      obtain rfl := op_1 h
      exact k_vret F hr hlk G dX4_readSemicolon_24
  · have h := op_f h c
    obtain rfl := op_1 h
    exact k_vret F hr hlk G dX4_readSemicolon_7
abbrev rmX4_readNumber : Room := ({ frames := 2, cells := 0, slots := 0, locals := 43 } : Room)
noncomputable def qX4_readNumber_L43 (tx : Nat → Nat → Int32) (ps_6 : Nat → Nat → Int32) (nm : Nat → Int64) (x1_2 : Int32) (x2_3 : Int32) (K : Int32 → Option (Int32 × (Nat → Nat → Int32))) : Nat → Int32 → Int32 → Option (Int32 × (Nat → Nat → Int32))
  | 0, _, _ => none
  | n + 1, x3_4, x4_5 =>
    if (ps_6 2 0) ≤ x4_5 then (K x3_4) else bd (qX6_byteAt tx ((ps_6 1 0) + x4_5)) fun r_8 => (qX4_readNumber_L43 tx ps_6 nm x1_2 x2_3 K n (((10 * x3_4) + r_8) - 48) (x4_5 + 1))

noncomputable def qX4_readNumber (tx : Nat → Nat → Int32) (ps : Nat → Nat → Int32) (nm : Nat → Int64) (x1 : Int32) (x2 : Int32) : Option (Int32 × (Nat → Nat → Int32)) :=
  if (ps 3 0) = 0 then (jn (fun (_ : Unit) => bd (qX4_stopAt tx ps nm 1) fun ps_1 => some ((-1), ps_1)) fun j31 => if (ps 0 0) = 2 then if (ps 2 0) ≤ 4 then (qX4_readNumber_L43 tx ps nm x1 x2 (fun (x3_7 : Int32) => (jn (fun (_ : Unit) => bd (qX4_stopAt tx ps nm 2) fun ps_9 => some ((-1), ps_9)) fun j97 => if x3_7 < x1 then (j97 ()) else if x3_7 ≤ x2 then bd (qX7_goToNext tx ps nm) fun ps_10 => some (x3_7, ps_10) else (j97 ()))) fu 0 0 ) else (j31 ()) else (j31 ())) else some ((-1), ps)

set_option maxHeartbeats 4000000 in
set_option maxRecDepth 100000 in
theorem mX4_readNumber (l : Launch) (D : va_G) (T : Nat → ClassId) (aR : Nat → Nat) (aD : Nat → Nat) (tx : Nat → Nat → Int32) (ps : Nat → Nat → Int32) (nm : Nat → Int64) (x1 : Int32) (x2 : Int32) {rR : Int32} {psR : Nat → Nat → Int32} (hres : qX4_readNumber tx ps nm x1 x2 = some (rR, psR)) : Ct l yX4_readNumber (Cond.code yX4_readNumber cX4_readNumber 5 (some .int) :: kAll) rmX4_readNumber D T [.ref (aR 3), .int x1, .int x2] (gR T aR aD tx ps nm) (some (.int rR)) (gR T aR aD tx psR nm) := by
  refine Ct.of (cc := cX4_readNumber) (maxL := 5) (ret := (some .int)) (by decide +kernel) rfl (Nat.le_of_ble_eq_true rfl) ?_
  intro pr en st mi ag bl me co A ls F hr hlk hnm G hl
  have hl : lv_has ls 5 [(0, .ref (aR 3)), (1, .int x1), (2, .int x2)] := hl
  have h := hres
  unfold qX4_readNumber at h
  refine lv_aload_n F.1 F.2.1 dX4_readNumber_0 rfl (lv_at hl 0 rfl) ?_
  refine k_get F G 3 rfl (N := 6) (Tt := TX4) rfl kf4 3 (by decide) kl313 (v := .int (ps 3 0)) rfl dX4_readNumber_1 ?_
  refine lv_if_eq (tgt := 9) F.1 F.2.1 dX4_readNumber_4 (by decide) (fun c => ?_) (fun c => ?_)
  · have h := op_t h c
    refine lv_aload_n F.1 F.2.1 dX4_readNumber_9 rfl (lv_at hl 0 rfl) ?_
    refine k_get F G 3 rfl (N := 6) (Tt := TX4) rfl kf4 1 (by decide) kl237 (v := .ref (aR 2)) rfl dX4_readNumber_10 ?_
    refine k_get F G 2 rfl (N := 4) (Tt := TX7) rfl kf7 1 (by decide) kl316 (v := .int (ps 0 0)) rfl dX4_readNumber_13 ?_
    refine lv_iconst (v := 2) F.1 F.2.1 dX4_readNumber_16 (by decide) ?_
    obtain ⟨j31, hj31, h⟩ := op_j h
    have J31 : ∀ (H : Heap) (locs : List Loc) (ls : Array Slot), j31 () = some (rR, psR) → Rg D T A st (gR T aR aD tx ps nm) H locs → lv_has ls 5 [(0, .ref (aR 3))] → W pr l en rmX4_readNumber st mi ag bl me co H locs 0 0 (MQ bl (kQ (some (.int rR)) D (gR T aR aD tx psR nm) A) ag st rmX4_readNumber.cells rmX4_readNumber.slots A) (F0 mi 31 ls []) := by
      intro H locs ls h G hl
      rw [hj31] at h
      refine lv_aload_n F.1 F.2.1 dX4_readNumber_31 rfl (lv_at hl 0 rfl) ?_
      refine lv_iconst (v := 1) F.1 F.2.1 dX4_readNumber_32 (by decide) ?_
      obtain ⟨ps_1, hc, h⟩ := op_b h
      refine k_callV (rv := none) (Wc := (gR T aR aD tx ps nm)) (W2 := (gR T aR aD tx ps_1 nm)) (Wn := (gR T aR aD tx ps_1 nm)) (As := [.int 1]) (rest := []) F G (mX4_stopAt l D T aR aD tx ps nm 1 hc) (cwV 1 F.2.2.2.2 (kg_c kl318 (kg_c kl319 (kg_c kl320 (kg_c kl321 (kg_c kl312 kg_a))))) rfl rfl rfl (by decide +kernel) ⟨Nat.le_of_ble_eq_true rfl, Nat.le_of_ble_eq_true rfl⟩) 3 rfl (q := (RX4, TX4, 6)) rfl rfl (kCut_F G) rfl hl.1 rfl (Nat.le_of_ble_eq_true rfl) dX4_readNumber_33 ⟨Nat.le_of_ble_eq_true rfl, Nat.le_of_ble_eq_true rfl⟩ (cN := 0) (sN := 0) ⟨rfl, rfl⟩ (fun H locs G => ?_)
      refine lv_iconst (v := (-1)) F.1 F.2.1 dX4_readNumber_36 (by decide) ?_
      obtain ⟨rfl, rfl⟩ := op_2 h
      exact k_iret F hr hlk G dX4_readNumber_37
    clear hj31
    refine lv_icmp_ne (tgt := 31) F.1 F.2.1 dX4_readNumber_17 (by decide) (fun c => ?_) (fun c => ?_)
    · have h := op_f h c
      exact J31 _ _ _ h G (lv_sub hl [0] rfl)
    · have h := op_t h c
      refine lv_aload_n F.1 F.2.1 dX4_readNumber_20 rfl (lv_at hl 0 rfl) ?_
      refine k_get F G 3 rfl (N := 6) (Tt := TX4) rfl kf4 1 (by decide) kl237 (v := .ref (aR 2)) rfl dX4_readNumber_21 ?_
      refine k_get F G 2 rfl (N := 4) (Tt := TX7) rfl kf7 3 (by decide) kl317 (v := .int (ps 2 0)) rfl dX4_readNumber_24 ?_
      refine lv_iconst (v := 4) F.1 F.2.1 dX4_readNumber_27 (by decide) ?_
      refine lv_icmp_le (tgt := 38) F.1 F.2.1 dX4_readNumber_28 (by decide) (fun c => ?_) (fun c => ?_)
      · have h := op_t h c
        refine lv_iconst (v := 0) F.1 F.2.1 dX4_readNumber_38 (by decide) ?_
        refine lv_istore_n (lv' := [(3, .int 0), (0, .ref (aR 3)), (1, .int x1), (2, .int x2)]) F.1 F.2.1 dX4_readNumber_39 rfl hl (by decide) rfl (fun ls hl => ?_)
        refine lv_iconst (v := 0) F.1 F.2.1 dX4_readNumber_40 (by decide) ?_
        refine lv_istore (lv' := [(4, .int 0), (3, .int 0), (0, .ref (aR 3)), (1, .int x1), (2, .int x2)]) F.1 F.2.1 dX4_readNumber_41 hl (by decide) rfl (fun ls hl => ?_)
        have L43 : ∀ (tx : Nat → Nat → Int32) (ps_6 : Nat → Nat → Int32) (nm : Nat → Int64) (x1_2 : Int32) (x2_3 : Int32) (K : Int32 → Option (Int32 × (Nat → Nat → Int32))) (hK : ∀ (x3_7 : Int32) (H : Heap) (locs : List Loc) (ls : Array Slot), K x3_7 = some (rR, psR) → Rg D T A st (gR T aR aD tx ps_6 nm) H locs → lv_has ls 5 [(0, .ref (aR 3)), (1, .int x1_2), (2, .int x2_3), (3, .int x3_7)] → W pr l en rmX4_readNumber st mi ag bl me co H locs 0 0 (MQ bl (kQ (some (.int rR)) D (gR T aR aD tx psR nm) A) ag st rmX4_readNumber.cells rmX4_readNumber.slots A) (F0 mi 87 ls [])) (n : Nat) (x3_4 : Int32) (x4_5 : Int32) (H : Heap) (locs : List Loc) (ls : Array Slot), qX4_readNumber_L43 tx ps_6 nm x1_2 x2_3 K n x3_4 x4_5 = some (rR, psR) → Rg D T A st (gR T aR aD tx ps_6 nm) H locs → lv_has ls 5 [(0, .ref (aR 3)), (1, .int x1_2), (2, .int x2_3), (3, .int x3_4), (4, .int x4_5)] → W pr l en rmX4_readNumber st mi ag bl me co H locs 0 0 (MQ bl (kQ (some (.int rR)) D (gR T aR aD tx psR nm) A) ag st rmX4_readNumber.cells rmX4_readNumber.slots A) (F0 mi 43 ls []) := by
          intro tx ps_6 nm x1_2 x2_3 K hK n
          induction n with
          | zero => intro x3_4 x4_5 H locs ls h; exact op_n h
          | succ n ih =>
            intro x3_4 x4_5 H locs ls h G hl
            rw [qX4_readNumber_L43] at h
            refine lv_iload F.1 F.2.1 dX4_readNumber_43 (lv_at hl 4 rfl) ?_
            refine lv_aload_n F.1 F.2.1 dX4_readNumber_45 rfl (lv_at hl 0 rfl) ?_
            refine k_get F G 3 rfl (N := 6) (Tt := TX4) rfl kf4 1 (by decide) kl237 (v := .ref (aR 2)) rfl dX4_readNumber_46 ?_
            refine k_get F G 2 rfl (N := 4) (Tt := TX7) rfl kf7 3 (by decide) kl317 (v := .int (ps_6 2 0)) rfl dX4_readNumber_49 ?_
            refine lv_icmp_ge (tgt := 87) F.1 F.2.1 dX4_readNumber_52 (by decide) (fun c => ?_) (fun c => ?_)
            · have h := op_t h c
              exact hK x3_4 _ _ _ h G (lv_sub hl [0, 1, 2, 3] rfl)
            · have h := op_f h c
              refine lv_bipush (v := 10) F.1 F.2.1 dX4_readNumber_55 (by decide) ?_
              refine lv_iload_n F.1 F.2.1 dX4_readNumber_57 rfl (lv_at hl 3 rfl) ?_
              refine lv_imul F.1 F.2.1 dX4_readNumber_58 ?_
              refine lv_aload_n F.1 F.2.1 dX4_readNumber_59 rfl (lv_at hl 0 rfl) ?_
              refine k_get F G 3 rfl (N := 6) (Tt := TX4) rfl kf4 0 (by decide) kl233 (v := .ref (aR 0)) rfl dX4_readNumber_60 ?_
              refine lv_aload_n F.1 F.2.1 dX4_readNumber_63 rfl (lv_at hl 0 rfl) ?_
              refine k_get F G 3 rfl (N := 6) (Tt := TX4) rfl kf4 1 (by decide) kl237 (v := .ref (aR 2)) rfl dX4_readNumber_64 ?_
              refine k_get F G 2 rfl (N := 4) (Tt := TX7) rfl kf7 2 (by decide) kl314 (v := .int (ps_6 1 0)) rfl dX4_readNumber_67 ?_
              refine lv_iload F.1 F.2.1 dX4_readNumber_70 (lv_at hl 4 rfl) ?_
              refine lv_iadd F.1 F.2.1 dX4_readNumber_72 ?_
              obtain ⟨r_8, hc, h⟩ := op_b h
              refine k_callV (rv := (some (.int r_8))) (Wc := (gT T aR tx)) (W2 := (gT T aR tx)) (Wn := (gR T aR aD tx ps_6 nm)) (As := [.int ((ps_6 1 0) + x4_5)]) (rest := [.int (10 * x3_4)]) F G (mX6_byteAt l D T aR tx ((ps_6 1 0) + x4_5) hc) (cwV 1 F.2.2.2.2 (kg_c kl322 (kg_c kl307 (kg_c kl308 (kg_c kl253 (kg_c kl267 kg_a))))) rfl rfl rfl (by decide +kernel) ⟨Nat.le_of_ble_eq_true rfl, Nat.le_of_ble_eq_true rfl⟩) 0 rfl (q := (RX6, TX6, 2)) rfl rfl (kCut_R G [0, 1] rfl rfl) rfl hl.1 rfl (Nat.le_of_ble_eq_true rfl) dX4_readNumber_73 ⟨Nat.le_of_ble_eq_true rfl, Nat.le_of_ble_eq_true rfl⟩ (cN := 0) (sN := 0) ⟨rfl, rfl⟩ (fun H locs G => ?_)
              refine lv_iadd F.1 F.2.1 dX4_readNumber_76 ?_
              refine lv_bipush (v := 48) F.1 F.2.1 dX4_readNumber_77 (by decide) ?_
              refine lv_isub F.1 F.2.1 dX4_readNumber_79 ?_
              refine lv_istore_n (lv' := [(3, .int (((10 * x3_4) + r_8) - 48)), (0, .ref (aR 3)), (1, .int x1_2), (2, .int x2_3), (4, .int x4_5)]) F.1 F.2.1 dX4_readNumber_80 rfl hl (by decide) rfl (fun ls hl => ?_)
              refine lv_iinc (v := (x4_5 + 1)) (lv' := [(4, .int (x4_5 + 1)), (3, .int (((10 * x3_4) + r_8) - 48)), (0, .ref (aR 3)), (1, .int x1_2), (2, .int x2_3)]) F.1 F.2.1 dX4_readNumber_81 hl (k := 4) rfl rfl (by decide) rfl (fun ls hl => ?_)
              refine lv_goto (tgt := 43) F.1 F.2.1 dX4_readNumber_84 (by decide) ?_
              exact ih (((10 * x3_4) + r_8) - 48) (x4_5 + 1) _ _ _ h G (lv_sub hl [2, 3, 4, 1, 0] rfl)
        refine L43 tx ps nm x1 x2 _ (fun x3_7 H locs ls h G hl => ?_) fu 0 0  _ _ _ h G (lv_sub hl [2, 3, 4, 1, 0] rfl)
        clear L43
        refine lv_iload_n F.1 F.2.1 dX4_readNumber_87 rfl (lv_at hl 3 rfl) ?_
        refine lv_iload_n F.1 F.2.1 dX4_readNumber_88 rfl (lv_at hl 1 rfl) ?_
        obtain ⟨j97, hj97, h⟩ := op_j h
        have J97 : ∀ (H : Heap) (locs : List Loc) (ls : Array Slot), j97 () = some (rR, psR) → Rg D T A st (gR T aR aD tx ps nm) H locs → lv_has ls 5 [(0, .ref (aR 3))] → W pr l en rmX4_readNumber st mi ag bl me co H locs 0 0 (MQ bl (kQ (some (.int rR)) D (gR T aR aD tx psR nm) A) ag st rmX4_readNumber.cells rmX4_readNumber.slots A) (F0 mi 97 ls []) := by
          intro H locs ls h G hl
          rw [hj97] at h
          refine lv_aload_n F.1 F.2.1 dX4_readNumber_97 rfl (lv_at hl 0 rfl) ?_
          refine lv_iconst (v := 2) F.1 F.2.1 dX4_readNumber_98 (by decide) ?_
          obtain ⟨ps_9, hc, h⟩ := op_b h
          refine k_callV (rv := none) (Wc := (gR T aR aD tx ps nm)) (W2 := (gR T aR aD tx ps_9 nm)) (Wn := (gR T aR aD tx ps_9 nm)) (As := [.int 2]) (rest := []) F G (mX4_stopAt l D T aR aD tx ps nm 2 hc) (cwV 1 F.2.2.2.2 (kg_c kl318 (kg_c kl319 (kg_c kl320 (kg_c kl321 (kg_c kl312 kg_a))))) rfl rfl rfl (by decide +kernel) ⟨Nat.le_of_ble_eq_true rfl, Nat.le_of_ble_eq_true rfl⟩) 3 rfl (q := (RX4, TX4, 6)) rfl rfl (kCut_F G) rfl hl.1 rfl (Nat.le_of_ble_eq_true rfl) dX4_readNumber_99 ⟨Nat.le_of_ble_eq_true rfl, Nat.le_of_ble_eq_true rfl⟩ (cN := 0) (sN := 0) ⟨rfl, rfl⟩ (fun H locs G => ?_)
          refine lv_iconst (v := (-1)) F.1 F.2.1 dX4_readNumber_102 (by decide) ?_
          obtain ⟨rfl, rfl⟩ := op_2 h
          exact k_iret F hr hlk G dX4_readNumber_103
        clear hj97
        refine lv_icmp_lt (tgt := 97) F.1 F.2.1 dX4_readNumber_89 (by decide) (fun c => ?_) (fun c => ?_)
        · have h := op_t h c
          exact J97 _ _ _ h G (lv_sub hl [0] rfl)
        · have h := op_f h c
          refine lv_iload_n F.1 F.2.1 dX4_readNumber_92 rfl (lv_at hl 3 rfl) ?_
          refine lv_iload_n F.1 F.2.1 dX4_readNumber_93 rfl (lv_at hl 2 rfl) ?_
          refine lv_icmp_le (tgt := 104) F.1 F.2.1 dX4_readNumber_94 (by decide) (fun c => ?_) (fun c => ?_)
          · have h := op_t h c
            refine lv_aload_n F.1 F.2.1 dX4_readNumber_104 rfl (lv_at hl 0 rfl) ?_
            refine k_get F G 3 rfl (N := 6) (Tt := TX4) rfl kf4 1 (by decide) kl237 (v := .ref (aR 2)) rfl dX4_readNumber_105 ?_
            obtain ⟨ps_10, hc, h⟩ := op_b h
            refine k_callV (rv := none) (Wc := (gR T aR aD tx ps nm)) (W2 := (gR T aR aD tx ps_10 nm)) (Wn := (gR T aR aD tx ps_10 nm)) (As := []) (rest := []) F G (mX7_goToNext l D T aR aD tx ps nm hc) (cwV 0 F.2.2.2.2 (kg_c kl323 (kg_c kl256 (kg_c kl257 (kg_c kl236 (kg_c kl245 kg_a))))) rfl rfl rfl (by decide +kernel) ⟨Nat.le_of_ble_eq_true rfl, Nat.le_of_ble_eq_true rfl⟩) 2 rfl (q := (RX7, TX7, 4)) rfl rfl (kCut_F G) rfl hl.1 rfl (Nat.le_of_ble_eq_true rfl) dX4_readNumber_108 ⟨Nat.le_of_ble_eq_true rfl, Nat.le_of_ble_eq_true rfl⟩ (cN := 0) (sN := 0) ⟨rfl, rfl⟩ (fun H locs G => ?_)
            refine lv_iload_n F.1 F.2.1 dX4_readNumber_111 rfl (lv_at hl 3 rfl) ?_
            obtain ⟨rfl, rfl⟩ := op_2 h
            exact k_iret F hr hlk G dX4_readNumber_112
          · have h := op_f h c
            exact J97 _ _ _ h G (lv_sub hl [0] rfl)
      · have h := op_f h c
        exact J31 _ _ _ h G (lv_sub hl [0] rfl)
  · have h := op_f h c
    refine lv_iconst (v := (-1)) F.1 F.2.1 dX4_readNumber_7 (by decide) ?_
    obtain ⟨rfl, rfl⟩ := op_2 h
    exact k_iret F hr hlk G dX4_readNumber_8
abbrev rmX4_nameHere : Room := ({ frames := 1, cells := 0, slots := 0, locals := 26 } : Room)
noncomputable def qX4_nameHere (tx : Nat → Nat → Int32) (ps : Nat → Nat → Int32) (nm : Nat → Int64) : Option (Int64 × (Nat → Nat → Int32)) :=
  if (ps 3 0) = 0 then (jn (fun (y_1 : Int32) => bd (qX6_nameAt tx (ps 1 0) y_1) fun r_2 => if (lg_cmp r_2 0) = 0 then bd (qX4_stopAt tx ps nm 1) fun ps_3 => some (r_2, ps_3) else some (r_2, ps)) fun j42 => if (ps 0 0) = 1 then (j42 (ps 2 0)) else (j42 0)) else some (0, ps)

set_option maxHeartbeats 4000000 in
set_option maxRecDepth 100000 in
theorem mX4_nameHere (l : Launch) (D : va_G) (T : Nat → ClassId) (aR : Nat → Nat) (aD : Nat → Nat) (tx : Nat → Nat → Int32) (ps : Nat → Nat → Int32) (nm : Nat → Int64) {rR : Int64} {psR : Nat → Nat → Int32} (hres : qX4_nameHere tx ps nm = some (rR, psR)) : Ct l yX4_nameHere (Cond.code yX4_nameHere cX4_nameHere 3 (some .long) :: kAll) rmX4_nameHere D T [.ref (aR 3)] (gR T aR aD tx ps nm) (some (.long rR)) (gR T aR aD tx psR nm) := by
  refine Ct.of (cc := cX4_nameHere) (maxL := 3) (ret := (some .long)) (by decide +kernel) rfl (Nat.le_of_ble_eq_true rfl) ?_
  intro pr en st mi ag bl me co A ls F hr hlk hnm G hl
  have hl : lv_has ls 3 [(0, .ref (aR 3))] := hl
  have h := hres
  unfold qX4_nameHere at h
  refine lv_aload_n F.1 F.2.1 dX4_nameHere_0 rfl (lv_at hl 0 rfl) ?_
  refine k_get F G 3 rfl (N := 6) (Tt := TX4) rfl kf4 3 (by decide) kl313 (v := .int (ps 3 0)) rfl dX4_nameHere_1 ?_
  refine lv_if_eq (tgt := 9) F.1 F.2.1 dX4_nameHere_4 (by decide) (fun c => ?_) (fun c => ?_)
  · have h := op_t h c
    refine lv_aload_n F.1 F.2.1 dX4_nameHere_9 rfl (lv_at hl 0 rfl) ?_
    refine k_get F G 3 rfl (N := 6) (Tt := TX4) rfl kf4 0 (by decide) kl233 (v := .ref (aR 0)) rfl dX4_nameHere_10 ?_
    refine lv_aload_n F.1 F.2.1 dX4_nameHere_13 rfl (lv_at hl 0 rfl) ?_
    refine k_get F G 3 rfl (N := 6) (Tt := TX4) rfl kf4 1 (by decide) kl237 (v := .ref (aR 2)) rfl dX4_nameHere_14 ?_
    refine k_get F G 2 rfl (N := 4) (Tt := TX7) rfl kf7 2 (by decide) kl314 (v := .int (ps 1 0)) rfl dX4_nameHere_17 ?_
    refine lv_aload_n F.1 F.2.1 dX4_nameHere_20 rfl (lv_at hl 0 rfl) ?_
    refine k_get F G 3 rfl (N := 6) (Tt := TX4) rfl kf4 1 (by decide) kl237 (v := .ref (aR 2)) rfl dX4_nameHere_21 ?_
    refine k_get F G 2 rfl (N := 4) (Tt := TX7) rfl kf7 1 (by decide) kl316 (v := .int (ps 0 0)) rfl dX4_nameHere_24 ?_
    refine lv_iconst (v := 1) F.1 F.2.1 dX4_nameHere_27 (by decide) ?_
    obtain ⟨j42, hj42, h⟩ := op_j h
    have J42 : ∀ (y_1 : Int32) (H : Heap) (locs : List Loc) (ls : Array Slot), j42 y_1 = some (rR, psR) → Rg D T A st (gR T aR aD tx ps nm) H locs → lv_has ls 3 [(0, .ref (aR 3))] → W pr l en rmX4_nameHere st mi ag bl me co H locs 0 0 (MQ bl (kQ (some (.long rR)) D (gR T aR aD tx psR nm) A) ag st rmX4_nameHere.cells rmX4_nameHere.slots A) (F0 mi 42 ls [.int y_1, .int (ps 1 0), .ref (aR 0)]) := by
      intro y_1 H locs ls h G hl
      rw [hj42] at h
      obtain ⟨r_2, hc, h⟩ := op_b h
      refine k_callV (rv := (some (.long r_2))) (Wc := (gT T aR tx)) (W2 := (gT T aR tx)) (Wn := (gR T aR aD tx ps nm)) (As := [.int (ps 1 0), .int y_1]) (rest := []) F G (mX6_nameAt l D T aR tx (ps 1 0) y_1 hc) (cwV 2 F.2.2.2.2 (kg_c kl338 (kg_c kl339 (kg_c kl340 (kg_c kl253 (kg_c kl336 kg_a))))) rfl rfl rfl (by decide +kernel) ⟨Nat.le_of_ble_eq_true rfl, Nat.le_of_ble_eq_true rfl⟩) 0 rfl (q := (RX6, TX6, 2)) rfl rfl (kCut_R G [0, 1] rfl rfl) rfl hl.1 rfl (Nat.le_of_ble_eq_true rfl) dX4_nameHere_42 ⟨Nat.le_of_ble_eq_true rfl, Nat.le_of_ble_eq_true rfl⟩ (cN := 0) (sN := 0) ⟨rfl, rfl⟩ (fun H locs G => ?_)
      refine lv_lstore_n (lv' := [(1, .long r_2), (0, .ref (aR 3))]) F.1 F.2.1 dX4_nameHere_45 rfl hl (by decide) rfl (fun ls hl => ?_)
      refine lv_lload_n F.1 F.2.1 dX4_nameHere_46 rfl (lv_at hl 0 rfl) ?_
      refine lv_lconst (v := 0) F.1 F.2.1 dX4_nameHere_47 (by decide) ?_
      refine W.lcmp F.1 F.2.1 dX4_nameHere_48 ?_
      refine lv_if_ne (tgt := 57) F.1 F.2.1 dX4_nameHere_49 (by decide) (fun c => ?_) (fun c => ?_)
      · have h := op_f h c
        refine lv_lload_n F.1 F.2.1 dX4_nameHere_57 rfl (lv_at hl 0 rfl) ?_
        obtain ⟨rfl, rfl⟩ := op_2 h
        exact k_lret F hr hlk G dX4_nameHere_58
      · have h := op_t h c
        refine lv_aload_n F.1 F.2.1 dX4_nameHere_52 rfl (lv_at hl 1 rfl) ?_
        refine lv_iconst (v := 1) F.1 F.2.1 dX4_nameHere_53 (by decide) ?_
        obtain ⟨ps_3, hc, h⟩ := op_b h
        refine k_callV (rv := none) (Wc := (gR T aR aD tx ps nm)) (W2 := (gR T aR aD tx ps_3 nm)) (Wn := (gR T aR aD tx ps_3 nm)) (As := [.int 1]) (rest := []) F G (mX4_stopAt l D T aR aD tx ps nm 1 hc) (cwV 1 F.2.2.2.2 (kg_c kl318 (kg_c kl319 (kg_c kl320 (kg_c kl321 (kg_c kl312 kg_a))))) rfl rfl rfl (by decide +kernel) ⟨Nat.le_of_ble_eq_true rfl, Nat.le_of_ble_eq_true rfl⟩) 3 rfl (q := (RX4, TX4, 6)) rfl rfl (kCut_F G) rfl hl.1 rfl (Nat.le_of_ble_eq_true rfl) dX4_nameHere_54 ⟨Nat.le_of_ble_eq_true rfl, Nat.le_of_ble_eq_true rfl⟩ (cN := 0) (sN := 0) ⟨rfl, rfl⟩ (fun H locs G => ?_)
        refine lv_lload_n F.1 F.2.1 dX4_nameHere_57 rfl (lv_at hl 0 rfl) ?_
        obtain ⟨rfl, rfl⟩ := op_2 h
        exact k_lret F hr hlk G dX4_nameHere_58
    clear hj42
    refine lv_icmp_ne (tgt := 41) F.1 F.2.1 dX4_nameHere_28 (by decide) (fun c => ?_) (fun c => ?_)
    · have h := op_f h c
      refine lv_iconst (v := 0) F.1 F.2.1 dX4_nameHere_41 (by decide) ?_
      exact J42 0 _ _ _ h G hl
    · have h := op_t h c
      refine lv_aload_n F.1 F.2.1 dX4_nameHere_31 rfl (lv_at hl 0 rfl) ?_
      refine k_get F G 3 rfl (N := 6) (Tt := TX4) rfl kf4 1 (by decide) kl237 (v := .ref (aR 2)) rfl dX4_nameHere_32 ?_
      refine k_get F G 2 rfl (N := 4) (Tt := TX7) rfl kf7 3 (by decide) kl317 (v := .int (ps 2 0)) rfl dX4_nameHere_35 ?_
      refine lv_goto (tgt := 42) F.1 F.2.1 dX4_nameHere_38 (by decide) ?_
      exact J42 (ps 2 0) _ _ _ h G hl
  · have h := op_f h c
    refine lv_lconst (v := 0) F.1 F.2.1 dX4_nameHere_7 (by decide) ?_
    obtain ⟨rfl, rfl⟩ := op_2 h
    exact k_lret F hr hlk G dX4_nameHere_8
abbrev rmX4_readNewName : Room := ({ frames := 2, cells := 0, slots := 0, locals := 48 } : Room)
noncomputable def qX4_readNewName (tx : Nat → Nat → Int32) (ps : Nat → Nat → Int32) (nm : Nat → Int64) : Option (Int64 × (Nat → Nat → Int32)) :=
  bd2 (qX4_nameHere tx ps nm) fun r_1 ps_2 => (jn (fun (ps_3 : Nat → Nat → Int32) => if (ps_3 3 0) = 0 then bd (qX7_goToNext tx ps_3 nm) fun ps_4 => some (r_1, ps_4) else some (r_1, ps_3)) fun j28 => if (lg_cmp r_1 0) = 0 then (j28 ps_2) else bd (qX5_numberOf (fun i => ps_2 (6 + i)) nm r_1) fun r_5 => if r_5 = (-1) then (j28 ps_2) else bd (qX4_stopAt tx ps_2 nm 3) fun ps_6 => (j28 ps_6))

set_option maxHeartbeats 4000000 in
set_option maxRecDepth 100000 in
theorem mX4_readNewName (l : Launch) (D : va_G) (T : Nat → ClassId) (aR : Nat → Nat) (aD : Nat → Nat) (tx : Nat → Nat → Int32) (ps : Nat → Nat → Int32) (nm : Nat → Int64) {rR : Int64} {psR : Nat → Nat → Int32} (hres : qX4_readNewName tx ps nm = some (rR, psR)) : Ct l yX4_readNewName (Cond.code yX4_readNewName cX4_readNewName 3 (some .long) :: kAll) rmX4_readNewName D T [.ref (aR 3)] (gR T aR aD tx ps nm) (some (.long rR)) (gR T aR aD tx psR nm) := by
  refine Ct.of (cc := cX4_readNewName) (maxL := 3) (ret := (some .long)) (by decide +kernel) rfl (Nat.le_of_ble_eq_true rfl) ?_
  intro pr en st mi ag bl me co A ls F hr hlk hnm G hl
  have hl : lv_has ls 3 [(0, .ref (aR 3))] := hl
  have h := hres
  unfold qX4_readNewName at h
  refine lv_aload_n F.1 F.2.1 dX4_readNewName_0 rfl (lv_at hl 0 rfl) ?_
  obtain ⟨r_1, ps_2, hc, h⟩ := op_b2 h
  refine k_callV (rv := (some (.long r_1))) (Wc := (gR T aR aD tx ps nm)) (W2 := (gR T aR aD tx ps_2 nm)) (Wn := (gR T aR aD tx ps_2 nm)) (As := []) (rest := []) F G (mX4_nameHere l D T aR aD tx ps nm hc) (cwV 0 F.2.2.2.2 (kg_c kl343 (kg_c kl344 (kg_c kl345 (kg_c kl321 (kg_c kl337 kg_a))))) rfl rfl rfl (by decide +kernel) ⟨Nat.le_of_ble_eq_true rfl, Nat.le_of_ble_eq_true rfl⟩) 3 rfl (q := (RX4, TX4, 6)) rfl rfl (kCut_F G) rfl hl.1 rfl (Nat.le_of_ble_eq_true rfl) dX4_readNewName_1 ⟨Nat.le_of_ble_eq_true rfl, Nat.le_of_ble_eq_true rfl⟩ (cN := 0) (sN := 0) ⟨rfl, rfl⟩ (fun H locs G => ?_)
  refine lv_lstore_n (lv' := [(1, .long r_1), (0, .ref (aR 3))]) F.1 F.2.1 dX4_readNewName_4 rfl hl (by decide) rfl (fun ls hl => ?_)
  refine lv_lload_n F.1 F.2.1 dX4_readNewName_5 rfl (lv_at hl 0 rfl) ?_
  refine lv_lconst (v := 0) F.1 F.2.1 dX4_readNewName_6 (by decide) ?_
  refine W.lcmp F.1 F.2.1 dX4_readNewName_7 ?_
  obtain ⟨j28, hj28, h⟩ := op_j h
  have J28 : ∀ (ps_3 : Nat → Nat → Int32) (H : Heap) (locs : List Loc) (ls : Array Slot), j28 ps_3 = some (rR, psR) → Rg D T A st (gR T aR aD tx ps_3 nm) H locs → lv_has ls 3 [(0, .ref (aR 3)), (1, .long r_1)] → W pr l en rmX4_readNewName st mi ag bl me co H locs 0 0 (MQ bl (kQ (some (.long rR)) D (gR T aR aD tx psR nm) A) ag st rmX4_readNewName.cells rmX4_readNewName.slots A) (F0 mi 28 ls []) := by
    intro ps_3 H locs ls h G hl
    rw [hj28] at h
    refine lv_aload_n F.1 F.2.1 dX4_readNewName_28 rfl (lv_at hl 0 rfl) ?_
    refine k_get F G 3 rfl (N := 6) (Tt := TX4) rfl kf4 3 (by decide) kl313 (v := .int (ps_3 3 0)) rfl dX4_readNewName_29 ?_
    refine lv_if_ne (tgt := 42) F.1 F.2.1 dX4_readNewName_32 (by decide) (fun c => ?_) (fun c => ?_)
    · have h := op_f h c
      refine lv_lload_n F.1 F.2.1 dX4_readNewName_42 rfl (lv_at hl 1 rfl) ?_
      obtain ⟨rfl, rfl⟩ := op_2 h
      exact k_lret F hr hlk G dX4_readNewName_43
    · have h := op_t h c
      refine lv_aload_n F.1 F.2.1 dX4_readNewName_35 rfl (lv_at hl 0 rfl) ?_
      refine k_get F G 3 rfl (N := 6) (Tt := TX4) rfl kf4 1 (by decide) kl237 (v := .ref (aR 2)) rfl dX4_readNewName_36 ?_
      obtain ⟨ps_4, hc, h⟩ := op_b h
      refine k_callV (rv := none) (Wc := (gR T aR aD tx ps_3 nm)) (W2 := (gR T aR aD tx ps_4 nm)) (Wn := (gR T aR aD tx ps_4 nm)) (As := []) (rest := []) F G (mX7_goToNext l D T aR aD tx ps_3 nm hc) (cwV 0 F.2.2.2.2 (kg_c kl323 (kg_c kl256 (kg_c kl257 (kg_c kl236 (kg_c kl245 kg_a))))) rfl rfl rfl (by decide +kernel) ⟨Nat.le_of_ble_eq_true rfl, Nat.le_of_ble_eq_true rfl⟩) 2 rfl (q := (RX7, TX7, 4)) rfl rfl (kCut_F G) rfl hl.1 rfl (Nat.le_of_ble_eq_true rfl) dX4_readNewName_39 ⟨Nat.le_of_ble_eq_true rfl, Nat.le_of_ble_eq_true rfl⟩ (cN := 0) (sN := 0) ⟨rfl, rfl⟩ (fun H locs G => ?_)
      refine lv_lload_n F.1 F.2.1 dX4_readNewName_42 rfl (lv_at hl 1 rfl) ?_
      obtain ⟨rfl, rfl⟩ := op_2 h
      exact k_lret F hr hlk G dX4_readNewName_43
  clear hj28
  refine lv_if_eq (tgt := 28) F.1 F.2.1 dX4_readNewName_8 (by decide) (fun c => ?_) (fun c => ?_)
  · have h := op_t h c
    exact J28 ps_2 _ _ _ h G (lv_sub hl [1, 0] rfl)
  · have h := op_f h c
    refine lv_aload_n F.1 F.2.1 dX4_readNewName_11 rfl (lv_at hl 1 rfl) ?_
    refine k_get F G 3 rfl (N := 6) (Tt := TX4) rfl kf4 2 (by decide) kl231 (v := .ref (aD 0)) rfl dX4_readNewName_12 ?_
    refine lv_lload_n F.1 F.2.1 dX4_readNewName_15 rfl (lv_at hl 0 rfl) ?_
    obtain ⟨r_5, hc, h⟩ := op_b h
    refine k_callV (rv := (some (.int r_5))) (Wc := (gP T aD (fun i => ps_2 (6 + i)) nm)) (W2 := (gP T aD (fun i => ps_2 (6 + i)) nm)) (Wn := (gR T aR aD tx ps_2 nm)) (As := [.long r_1]) (rest := []) F G (mX5_numberOf l D T aD (fun i => ps_2 (6 + i)) nm r_1 hc) (cwV 1 F.2.2.2.2 (kg_c kl346 (kg_c kl347 (kg_c kl348 (kg_c kl223 (kg_c kl341 kg_a))))) rfl rfl rfl (by decide +kernel) ⟨Nat.le_of_ble_eq_true rfl, Nat.le_of_ble_eq_true rfl⟩) 4 rfl (q := (RX5, TX5, 18)) rfl rfl (kCut_R G [4, 5, 6, 7, 8, 9, 10, 11, 12, 13] rfl rfl) rfl hl.1 rfl (Nat.le_of_ble_eq_true rfl) dX4_readNewName_16 ⟨Nat.le_of_ble_eq_true rfl, Nat.le_of_ble_eq_true rfl⟩ (cN := 0) (sN := 0) ⟨rfl, rfl⟩ (fun H locs G => ?_)
    refine lv_iconst (v := (-1)) F.1 F.2.1 dX4_readNewName_19 (by decide) ?_
    refine lv_icmp_eq (tgt := 28) F.1 F.2.1 dX4_readNewName_20 (by decide) (fun c => ?_) (fun c => ?_)
    · have h := op_t h c
      exact J28 ps_2 _ _ _ h G (lv_sub hl [1, 0] rfl)
    · have h := op_f h c
      refine lv_aload_n F.1 F.2.1 dX4_readNewName_23 rfl (lv_at hl 1 rfl) ?_
      refine lv_iconst (v := 3) F.1 F.2.1 dX4_readNewName_24 (by decide) ?_
      obtain ⟨ps_6, hc, h⟩ := op_b h
      refine k_callV (rv := none) (Wc := (gR T aR aD tx ps_2 nm)) (W2 := (gR T aR aD tx ps_6 nm)) (Wn := (gR T aR aD tx ps_6 nm)) (As := [.int 3]) (rest := []) F G (mX4_stopAt l D T aR aD tx ps_2 nm 3 hc) (cwV 1 F.2.2.2.2 (kg_c kl318 (kg_c kl319 (kg_c kl320 (kg_c kl321 (kg_c kl312 kg_a))))) rfl rfl rfl (by decide +kernel) ⟨Nat.le_of_ble_eq_true rfl, Nat.le_of_ble_eq_true rfl⟩) 3 rfl (q := (RX4, TX4, 6)) rfl rfl (kCut_F G) rfl hl.1 rfl (Nat.le_of_ble_eq_true rfl) dX4_readNewName_25 ⟨Nat.le_of_ble_eq_true rfl, Nat.le_of_ble_eq_true rfl⟩ (cN := 0) (sN := 0) ⟨rfl, rfl⟩ (fun H locs G => ?_)
      exact J28 ps_6 _ _ _ h G (lv_sub hl [1, 0] rfl)
abbrev rmX4_readOutletName : Room := ({ frames := 2, cells := 0, slots := 0, locals := 48 } : Room)
noncomputable def qX4_readOutletName (tx : Nat → Nat → Int32) (ps : Nat → Nat → Int32) (nm : Nat → Int64) : Option (Int32 × (Nat → Nat → Int32)) :=
  bd2 (qX4_nameHere tx ps nm) fun r_1 ps_2 => if (lg_cmp r_1 0) = 0 then some ((-1), ps_2) else bd (qX5_numberOf (fun i => ps_2 (6 + i)) nm r_1) fun r_3 => if r_3 = (-1) then bd (qX4_stopAt tx ps_2 nm 4) fun ps_4 => some (r_3, ps_4) else some (r_3, ps_2)

set_option maxHeartbeats 4000000 in
set_option maxRecDepth 100000 in
theorem mX4_readOutletName (l : Launch) (D : va_G) (T : Nat → ClassId) (aR : Nat → Nat) (aD : Nat → Nat) (tx : Nat → Nat → Int32) (ps : Nat → Nat → Int32) (nm : Nat → Int64) {rR : Int32} {psR : Nat → Nat → Int32} (hres : qX4_readOutletName tx ps nm = some (rR, psR)) : Ct l yX4_readOutletName (Cond.code yX4_readOutletName cX4_readOutletName 4 (some .int) :: kAll) rmX4_readOutletName D T [.ref (aR 3)] (gR T aR aD tx ps nm) (some (.int rR)) (gR T aR aD tx psR nm) := by
  refine Ct.of (cc := cX4_readOutletName) (maxL := 4) (ret := (some .int)) (by decide +kernel) rfl (Nat.le_of_ble_eq_true rfl) ?_
  intro pr en st mi ag bl me co A ls F hr hlk hnm G hl
  have hl : lv_has ls 4 [(0, .ref (aR 3))] := hl
  have h := hres
  unfold qX4_readOutletName at h
  refine lv_aload_n F.1 F.2.1 dX4_readOutletName_0 rfl (lv_at hl 0 rfl) ?_
  obtain ⟨r_1, ps_2, hc, h⟩ := op_b2 h
  refine k_callV (rv := (some (.long r_1))) (Wc := (gR T aR aD tx ps nm)) (W2 := (gR T aR aD tx ps_2 nm)) (Wn := (gR T aR aD tx ps_2 nm)) (As := []) (rest := []) F G (mX4_nameHere l D T aR aD tx ps nm hc) (cwV 0 F.2.2.2.2 (kg_c kl343 (kg_c kl344 (kg_c kl345 (kg_c kl321 (kg_c kl337 kg_a))))) rfl rfl rfl (by decide +kernel) ⟨Nat.le_of_ble_eq_true rfl, Nat.le_of_ble_eq_true rfl⟩) 3 rfl (q := (RX4, TX4, 6)) rfl rfl (kCut_F G) rfl hl.1 rfl (Nat.le_of_ble_eq_true rfl) dX4_readOutletName_1 ⟨Nat.le_of_ble_eq_true rfl, Nat.le_of_ble_eq_true rfl⟩ (cN := 0) (sN := 0) ⟨rfl, rfl⟩ (fun H locs G => ?_)
  refine lv_lstore_n (lv' := [(1, .long r_1), (0, .ref (aR 3))]) F.1 F.2.1 dX4_readOutletName_4 rfl hl (by decide) rfl (fun ls hl => ?_)
  refine lv_lload_n F.1 F.2.1 dX4_readOutletName_5 rfl (lv_at hl 0 rfl) ?_
  refine lv_lconst (v := 0) F.1 F.2.1 dX4_readOutletName_6 (by decide) ?_
  refine W.lcmp F.1 F.2.1 dX4_readOutletName_7 ?_
  refine lv_if_ne (tgt := 13) F.1 F.2.1 dX4_readOutletName_8 (by decide) (fun c => ?_) (fun c => ?_)
  · have h := op_f h c
    refine lv_aload_n F.1 F.2.1 dX4_readOutletName_13 rfl (lv_at hl 1 rfl) ?_
    refine k_get F G 3 rfl (N := 6) (Tt := TX4) rfl kf4 2 (by decide) kl231 (v := .ref (aD 0)) rfl dX4_readOutletName_14 ?_
    refine lv_lload_n F.1 F.2.1 dX4_readOutletName_17 rfl (lv_at hl 0 rfl) ?_
    obtain ⟨r_3, hc, h⟩ := op_b h
    refine k_callV (rv := (some (.int r_3))) (Wc := (gP T aD (fun i => ps_2 (6 + i)) nm)) (W2 := (gP T aD (fun i => ps_2 (6 + i)) nm)) (Wn := (gR T aR aD tx ps_2 nm)) (As := [.long r_1]) (rest := []) F G (mX5_numberOf l D T aD (fun i => ps_2 (6 + i)) nm r_1 hc) (cwV 1 F.2.2.2.2 (kg_c kl346 (kg_c kl347 (kg_c kl348 (kg_c kl223 (kg_c kl341 kg_a))))) rfl rfl rfl (by decide +kernel) ⟨Nat.le_of_ble_eq_true rfl, Nat.le_of_ble_eq_true rfl⟩) 4 rfl (q := (RX5, TX5, 18)) rfl rfl (kCut_R G [4, 5, 6, 7, 8, 9, 10, 11, 12, 13] rfl rfl) rfl hl.1 rfl (Nat.le_of_ble_eq_true rfl) dX4_readOutletName_18 ⟨Nat.le_of_ble_eq_true rfl, Nat.le_of_ble_eq_true rfl⟩ (cN := 0) (sN := 0) ⟨rfl, rfl⟩ (fun H locs G => ?_)
    refine lv_istore_n (lv' := [(3, .int r_3), (1, .long r_1), (0, .ref (aR 3))]) F.1 F.2.1 dX4_readOutletName_21 rfl hl (by decide) rfl (fun ls hl => ?_)
    refine lv_iload_n F.1 F.2.1 dX4_readOutletName_22 rfl (lv_at hl 0 rfl) ?_
    refine lv_iconst (v := (-1)) F.1 F.2.1 dX4_readOutletName_23 (by decide) ?_
    refine lv_icmp_ne (tgt := 32) F.1 F.2.1 dX4_readOutletName_24 (by decide) (fun c => ?_) (fun c => ?_)
    · have h := op_f h c
      refine lv_iload_n F.1 F.2.1 dX4_readOutletName_32 rfl (lv_at hl 0 rfl) ?_
      obtain ⟨rfl, rfl⟩ := op_2 h
      exact k_iret F hr hlk G dX4_readOutletName_33
    · have h := op_t h c
      refine lv_aload_n F.1 F.2.1 dX4_readOutletName_27 rfl (lv_at hl 2 rfl) ?_
      refine lv_iconst (v := 4) F.1 F.2.1 dX4_readOutletName_28 (by decide) ?_
      obtain ⟨ps_4, hc, h⟩ := op_b h
      refine k_callV (rv := none) (Wc := (gR T aR aD tx ps_2 nm)) (W2 := (gR T aR aD tx ps_4 nm)) (Wn := (gR T aR aD tx ps_4 nm)) (As := [.int 4]) (rest := []) F G (mX4_stopAt l D T aR aD tx ps_2 nm 4 hc) (cwV 1 F.2.2.2.2 (kg_c kl318 (kg_c kl319 (kg_c kl320 (kg_c kl321 (kg_c kl312 kg_a))))) rfl rfl rfl (by decide +kernel) ⟨Nat.le_of_ble_eq_true rfl, Nat.le_of_ble_eq_true rfl⟩) 3 rfl (q := (RX4, TX4, 6)) rfl rfl (kCut_F G) rfl hl.1 rfl (Nat.le_of_ble_eq_true rfl) dX4_readOutletName_29 ⟨Nat.le_of_ble_eq_true rfl, Nat.le_of_ble_eq_true rfl⟩ (cN := 0) (sN := 0) ⟨rfl, rfl⟩ (fun H locs G => ?_)
      refine lv_iload_n F.1 F.2.1 dX4_readOutletName_32 rfl (lv_at hl 0 rfl) ?_
      obtain ⟨rfl, rfl⟩ := op_2 h
      exact k_iret F hr hlk G dX4_readOutletName_33
  · have h := op_t h c
    refine lv_iconst (v := (-1)) F.1 F.2.1 dX4_readOutletName_11 (by decide) ?_
    obtain ⟨rfl, rfl⟩ := op_2 h
    exact k_iret F hr hlk G dX4_readOutletName_12
abbrev rmX4_passOnce : Room := ({ frames := 2, cells := 0, slots := 0, locals := 43 } : Room)
noncomputable def qX4_passOnce (tx : Nat → Nat → Int32) (ps : Nat → Nat → Int32) (nm : Nat → Int64) (x1 : Int32) : Option (Int32 × (Nat → Nat → Int32)) :=
  if ((ps 5 0) &&& x1) = 0 then (bs (va_up ps 5 (fun _ => ((ps 5 0) ||| x1))) fun ps_1 => bd (qX7_goToNext tx ps_1 nm) fun ps_2 => some (1, ps_2)) else bd (qX4_stopAt tx ps nm 5) fun ps_3 => some (0, ps_3)

set_option maxHeartbeats 4000000 in
set_option maxRecDepth 100000 in
theorem mX4_passOnce (l : Launch) (D : va_G) (T : Nat → ClassId) (aR : Nat → Nat) (aD : Nat → Nat) (tx : Nat → Nat → Int32) (ps : Nat → Nat → Int32) (nm : Nat → Int64) (x1 : Int32) {rR : Int32} {psR : Nat → Nat → Int32} (hres : qX4_passOnce tx ps nm x1 = some (rR, psR)) : Ct l yX4_passOnce (Cond.code yX4_passOnce cX4_passOnce 2 (some .boolean) :: kAll) rmX4_passOnce D T [.ref (aR 3), .int x1] (gR T aR aD tx ps nm) (some (.int rR)) (gR T aR aD tx psR nm) := by
  refine Ct.of (cc := cX4_passOnce) (maxL := 2) (ret := (some .boolean)) (by decide +kernel) rfl (Nat.le_of_ble_eq_true rfl) ?_
  intro pr en st mi ag bl me co A ls F hr hlk hnm G hl
  have hl : lv_has ls 2 [(0, .ref (aR 3)), (1, .int x1)] := hl
  have h := hres
  unfold qX4_passOnce at h
  refine lv_aload_n F.1 F.2.1 dX4_passOnce_0 rfl (lv_at hl 0 rfl) ?_
  refine k_get F G 3 rfl (N := 6) (Tt := TX4) rfl kf4 5 (by decide) kl378 (v := .int (ps 5 0)) rfl dX4_passOnce_1 ?_
  refine lv_iload_n F.1 F.2.1 dX4_passOnce_4 rfl (lv_at hl 1 rfl) ?_
  refine lv_iand F.1 F.2.1 dX4_passOnce_5 ?_
  refine lv_if_eq (tgt := 16) F.1 F.2.1 dX4_passOnce_6 (by decide) (fun c => ?_) (fun c => ?_)
  · have h := op_t h c
    refine lv_aload_n F.1 F.2.1 dX4_passOnce_16 rfl (lv_at hl 0 rfl) ?_
    refine lv_dup F.1 F.2.1 dX4_passOnce_17 rfl ?_
    refine k_get F G 3 rfl (N := 6) (Tt := TX4) rfl kf4 5 (by decide) kl378 (v := .int (ps 5 0)) rfl dX4_passOnce_18 ?_
    refine lv_iload_n F.1 F.2.1 dX4_passOnce_21 rfl (lv_at hl 1 rfl) ?_
    refine lv_ior F.1 F.2.1 dX4_passOnce_22 ?_
    obtain ⟨ps_1, e9, h⟩ := op_st h
    refine k_put F G 3 rfl (N := 6) (Tt := TX4) rfl kf4 tyX4_ok nmX4 5 (by decide) kl378 rfl (v := .int ((ps 5 0) ||| x1)) rfl rfl (Nat.le_of_ble_eq_true rfl) dX4_passOnce_23 (Wn := (gR T aR aD tx ps_1 nm)) (by subst e9; rfl) (fun H locs G => ?_)
    clear e9
    refine lv_aload_n F.1 F.2.1 dX4_passOnce_26 rfl (lv_at hl 0 rfl) ?_
    refine k_get F G 3 rfl (N := 6) (Tt := TX4) rfl kf4 1 (by decide) kl237 (v := .ref (aR 2)) rfl dX4_passOnce_27 ?_
    obtain ⟨ps_2, hc, h⟩ := op_b h
    refine k_callV (rv := none) (Wc := (gR T aR aD tx ps_1 nm)) (W2 := (gR T aR aD tx ps_2 nm)) (Wn := (gR T aR aD tx ps_2 nm)) (As := []) (rest := []) F G (mX7_goToNext l D T aR aD tx ps_1 nm hc) (cwV 0 F.2.2.2.2 (kg_c kl323 (kg_c kl256 (kg_c kl257 (kg_c kl236 (kg_c kl245 kg_a))))) rfl rfl rfl (by decide +kernel) ⟨Nat.le_of_ble_eq_true rfl, Nat.le_of_ble_eq_true rfl⟩) 2 rfl (q := (RX7, TX7, 4)) rfl rfl (kCut_F G) rfl hl.1 rfl (Nat.le_of_ble_eq_true rfl) dX4_passOnce_30 ⟨Nat.le_of_ble_eq_true rfl, Nat.le_of_ble_eq_true rfl⟩ (cN := 0) (sN := 0) ⟨rfl, rfl⟩ (fun H locs G => ?_)
    refine lv_iconst (v := 1) F.1 F.2.1 dX4_passOnce_33 (by decide) ?_
    obtain ⟨rfl, rfl⟩ := op_2 h
    exact k_zret F hr rfl hlk G dX4_passOnce_34
  · have h := op_f h c
    refine lv_aload_n F.1 F.2.1 dX4_passOnce_9 rfl (lv_at hl 0 rfl) ?_
    refine lv_iconst (v := 5) F.1 F.2.1 dX4_passOnce_10 (by decide) ?_
    obtain ⟨ps_3, hc, h⟩ := op_b h
    refine k_callV (rv := none) (Wc := (gR T aR aD tx ps nm)) (W2 := (gR T aR aD tx ps_3 nm)) (Wn := (gR T aR aD tx ps_3 nm)) (As := [.int 5]) (rest := []) F G (mX4_stopAt l D T aR aD tx ps nm 5 hc) (cwV 1 F.2.2.2.2 (kg_c kl318 (kg_c kl319 (kg_c kl320 (kg_c kl321 (kg_c kl312 kg_a))))) rfl rfl rfl (by decide +kernel) ⟨Nat.le_of_ble_eq_true rfl, Nat.le_of_ble_eq_true rfl⟩) 3 rfl (q := (RX4, TX4, 6)) rfl rfl (kCut_F G) rfl hl.1 rfl (Nat.le_of_ble_eq_true rfl) dX4_passOnce_11 ⟨Nat.le_of_ble_eq_true rfl, Nat.le_of_ble_eq_true rfl⟩ (cN := 0) (sN := 0) ⟨rfl, rfl⟩ (fun H locs G => ?_)
    refine lv_iconst (v := 0) F.1 F.2.1 dX4_passOnce_14 (by decide) ?_
    obtain ⟨rfl, rfl⟩ := op_2 h
    exact k_zret F hr rfl hlk G dX4_passOnce_15
abbrev rmX4_readScript : Room := ({ frames := 2, cells := 0, slots := 0, locals := 43 } : Room)
noncomputable def qX4_readScript_L33 (tx : Nat → Nat → Int32) (ps_4 : Nat → Nat → Int32) (nm : Nat → Int64) (K : Int32 → Option ((Nat → Nat → Int32))) : Nat → Int32 → Int32 → Option ((Nat → Nat → Int32))
  | 0, _, _ => none
  | n + 1, x1_2, x2_3 =>
    if (ps_4 2 0) ≤ x2_3 then (K x1_2) else bd (qX6_byteAt tx ((ps_4 1 0) + x2_3)) fun r_6 => (jn (fun (_ : Unit) => (qX4_readScript_L33 tx ps_4 nm K n (x1_2 ||| ((r_6 - 48) <<< (x2_3 &&& 31))) (x2_3 + 1))) fun j79 => if (r_6 - 48) = 0 then (j79 ()) else if (r_6 - 48) = 1 then (j79 ()) else bd (qX4_stopAt tx ps_4 nm 1) fun ps_7 => some ps_7)

noncomputable def qX4_readScript (tx : Nat → Nat → Int32) (ps : Nat → Nat → Int32) (nm : Nat → Int64) : Option ((Nat → Nat → Int32)) :=
  (jn (fun (_ : Unit) => bd (qX4_stopAt tx ps nm 1) fun ps_1 => some ps_1) fun j23 => if (ps 0 0) = 2 then if (ps 2 0) ≤ 24 then (qX4_readScript_L33 tx ps nm  (fun (x1_5 : Int32) => (bs (va_up ps 12 (fun _ => x1_5)) fun ps_8 => (bs (va_up ps_8 13 (fun _ => (ps_8 2 0))) fun ps_9 => bd (qX7_goToNext tx ps_9 nm) fun ps_10 => some ps_10))) fu 0 0 ) else (j23 ()) else (j23 ()))

set_option maxHeartbeats 4000000 in
set_option maxRecDepth 100000 in
theorem mX4_readScript (l : Launch) (D : va_G) (T : Nat → ClassId) (aR : Nat → Nat) (aD : Nat → Nat) (tx : Nat → Nat → Int32) (ps : Nat → Nat → Int32) (nm : Nat → Int64) {psR : Nat → Nat → Int32} (hres : qX4_readScript tx ps nm = some (psR)) : Ct l yX4_readScript (Cond.code yX4_readScript cX4_readScript 4 none :: kAll) rmX4_readScript D T [.ref (aR 3)] (gR T aR aD tx ps nm) none (gR T aR aD tx psR nm) := by
  refine Ct.of (cc := cX4_readScript) (maxL := 4) (ret := none) (by decide +kernel) rfl (Nat.le_of_ble_eq_true rfl) ?_
  intro pr en st mi ag bl me co A ls F hr hlk hnm G hl
  have hl : lv_has ls 4 [(0, .ref (aR 3))] := hl
  have h := hres
  unfold qX4_readScript at h
  refine lv_aload_n F.1 F.2.1 dX4_readScript_0 rfl (lv_at hl 0 rfl) ?_
  refine k_get F G 3 rfl (N := 6) (Tt := TX4) rfl kf4 1 (by decide) kl237 (v := .ref (aR 2)) rfl dX4_readScript_1 ?_
  refine k_get F G 2 rfl (N := 4) (Tt := TX7) rfl kf7 1 (by decide) kl316 (v := .int (ps 0 0)) rfl dX4_readScript_4 ?_
  refine lv_iconst (v := 2) F.1 F.2.1 dX4_readScript_7 (by decide) ?_
  obtain ⟨j23, hj23, h⟩ := op_j h
  have J23 : ∀ (H : Heap) (locs : List Loc) (ls : Array Slot), j23 () = some (psR) → Rg D T A st (gR T aR aD tx ps nm) H locs → lv_has ls 4 [(0, .ref (aR 3))] → W pr l en rmX4_readScript st mi ag bl me co H locs 0 0 (MQ bl (kQ none D (gR T aR aD tx psR nm) A) ag st rmX4_readScript.cells rmX4_readScript.slots A) (F0 mi 23 ls []) := by
    intro H locs ls h G hl
    rw [hj23] at h
    refine lv_aload_n F.1 F.2.1 dX4_readScript_23 rfl (lv_at hl 0 rfl) ?_
    refine lv_iconst (v := 1) F.1 F.2.1 dX4_readScript_24 (by decide) ?_
    obtain ⟨ps_1, hc, h⟩ := op_b h
    refine k_callV (rv := none) (Wc := (gR T aR aD tx ps nm)) (W2 := (gR T aR aD tx ps_1 nm)) (Wn := (gR T aR aD tx ps_1 nm)) (As := [.int 1]) (rest := []) F G (mX4_stopAt l D T aR aD tx ps nm 1 hc) (cwV 1 F.2.2.2.2 (kg_c kl318 (kg_c kl319 (kg_c kl320 (kg_c kl321 (kg_c kl312 kg_a))))) rfl rfl rfl (by decide +kernel) ⟨Nat.le_of_ble_eq_true rfl, Nat.le_of_ble_eq_true rfl⟩) 3 rfl (q := (RX4, TX4, 6)) rfl rfl (kCut_F G) rfl hl.1 rfl (Nat.le_of_ble_eq_true rfl) dX4_readScript_25 ⟨Nat.le_of_ble_eq_true rfl, Nat.le_of_ble_eq_true rfl⟩ (cN := 0) (sN := 0) ⟨rfl, rfl⟩ (fun H locs G => ?_)
    obtain rfl := op_1 h
    exact k_vret F hr hlk G dX4_readScript_28
  clear hj23
  refine lv_icmp_ne (tgt := 23) F.1 F.2.1 dX4_readScript_8 (by decide) (fun c => ?_) (fun c => ?_)
  · have h := op_f h c
    exact J23 _ _ _ h G hl
  · have h := op_t h c
    refine lv_aload_n F.1 F.2.1 dX4_readScript_11 rfl (lv_at hl 0 rfl) ?_
    refine k_get F G 3 rfl (N := 6) (Tt := TX4) rfl kf4 1 (by decide) kl237 (v := .ref (aR 2)) rfl dX4_readScript_12 ?_
    refine k_get F G 2 rfl (N := 4) (Tt := TX7) rfl kf7 3 (by decide) kl317 (v := .int (ps 2 0)) rfl dX4_readScript_15 ?_
    refine lv_bipush (v := 24) F.1 F.2.1 dX4_readScript_18 (by decide) ?_
    refine lv_icmp_le (tgt := 29) F.1 F.2.1 dX4_readScript_20 (by decide) (fun c => ?_) (fun c => ?_)
    · have h := op_t h c
      refine lv_iconst (v := 0) F.1 F.2.1 dX4_readScript_29 (by decide) ?_
      refine lv_istore_n (lv' := [(1, .int 0), (0, .ref (aR 3))]) F.1 F.2.1 dX4_readScript_30 rfl hl (by decide) rfl (fun ls hl => ?_)
      refine lv_iconst (v := 0) F.1 F.2.1 dX4_readScript_31 (by decide) ?_
      refine lv_istore_n (lv' := [(2, .int 0), (1, .int 0), (0, .ref (aR 3))]) F.1 F.2.1 dX4_readScript_32 rfl hl (by decide) rfl (fun ls hl => ?_)
      have L33 : ∀ (tx : Nat → Nat → Int32) (ps_4 : Nat → Nat → Int32) (nm : Nat → Int64) (K : Int32 → Option ((Nat → Nat → Int32))) (hK : ∀ (x1_5 : Int32) (H : Heap) (locs : List Loc) (ls : Array Slot), K x1_5 = some (psR) → Rg D T A st (gR T aR aD tx ps_4 nm) H locs → lv_has ls 4 [(0, .ref (aR 3)), (1, .int x1_5)] → W pr l en rmX4_readScript st mi ag bl me co H locs 0 0 (MQ bl (kQ none D (gR T aR aD tx psR nm) A) ag st rmX4_readScript.cells rmX4_readScript.slots A) (F0 mi 91 ls [])) (n : Nat) (x1_2 : Int32) (x2_3 : Int32) (H : Heap) (locs : List Loc) (ls : Array Slot), qX4_readScript_L33 tx ps_4 nm K n x1_2 x2_3 = some (psR) → Rg D T A st (gR T aR aD tx ps_4 nm) H locs → lv_has ls 4 [(0, .ref (aR 3)), (1, .int x1_2), (2, .int x2_3)] → W pr l en rmX4_readScript st mi ag bl me co H locs 0 0 (MQ bl (kQ none D (gR T aR aD tx psR nm) A) ag st rmX4_readScript.cells rmX4_readScript.slots A) (F0 mi 33 ls []) := by
        intro tx ps_4 nm K hK n
        induction n with
        | zero => intro x1_2 x2_3 H locs ls h; exact op_n h
        | succ n ih =>
          intro x1_2 x2_3 H locs ls h G hl
          rw [qX4_readScript_L33] at h
          refine lv_iload_n F.1 F.2.1 dX4_readScript_33 rfl (lv_at hl 2 rfl) ?_
          refine lv_aload_n F.1 F.2.1 dX4_readScript_34 rfl (lv_at hl 0 rfl) ?_
          refine k_get F G 3 rfl (N := 6) (Tt := TX4) rfl kf4 1 (by decide) kl237 (v := .ref (aR 2)) rfl dX4_readScript_35 ?_
          refine k_get F G 2 rfl (N := 4) (Tt := TX7) rfl kf7 3 (by decide) kl317 (v := .int (ps_4 2 0)) rfl dX4_readScript_38 ?_
          refine lv_icmp_ge (tgt := 91) F.1 F.2.1 dX4_readScript_41 (by decide) (fun c => ?_) (fun c => ?_)
          · have h := op_t h c
            exact hK x1_2 _ _ _ h G (lv_sub hl [0, 1] rfl)
          · have h := op_f h c
            refine lv_aload_n F.1 F.2.1 dX4_readScript_44 rfl (lv_at hl 0 rfl) ?_
            refine k_get F G 3 rfl (N := 6) (Tt := TX4) rfl kf4 0 (by decide) kl233 (v := .ref (aR 0)) rfl dX4_readScript_45 ?_
            refine lv_aload_n F.1 F.2.1 dX4_readScript_48 rfl (lv_at hl 0 rfl) ?_
            refine k_get F G 3 rfl (N := 6) (Tt := TX4) rfl kf4 1 (by decide) kl237 (v := .ref (aR 2)) rfl dX4_readScript_49 ?_
            refine k_get F G 2 rfl (N := 4) (Tt := TX7) rfl kf7 2 (by decide) kl314 (v := .int (ps_4 1 0)) rfl dX4_readScript_52 ?_
            refine lv_iload_n F.1 F.2.1 dX4_readScript_55 rfl (lv_at hl 2 rfl) ?_
            refine lv_iadd F.1 F.2.1 dX4_readScript_56 ?_
            obtain ⟨r_6, hc, h⟩ := op_b h
            refine k_callV (rv := (some (.int r_6))) (Wc := (gT T aR tx)) (W2 := (gT T aR tx)) (Wn := (gR T aR aD tx ps_4 nm)) (As := [.int ((ps_4 1 0) + x2_3)]) (rest := []) F G (mX6_byteAt l D T aR tx ((ps_4 1 0) + x2_3) hc) (cwV 1 F.2.2.2.2 (kg_c kl322 (kg_c kl307 (kg_c kl308 (kg_c kl253 (kg_c kl267 kg_a))))) rfl rfl rfl (by decide +kernel) ⟨Nat.le_of_ble_eq_true rfl, Nat.le_of_ble_eq_true rfl⟩) 0 rfl (q := (RX6, TX6, 2)) rfl rfl (kCut_R G [0, 1] rfl rfl) rfl hl.1 rfl (Nat.le_of_ble_eq_true rfl) dX4_readScript_57 ⟨Nat.le_of_ble_eq_true rfl, Nat.le_of_ble_eq_true rfl⟩ (cN := 0) (sN := 0) ⟨rfl, rfl⟩ (fun H locs G => ?_)
            refine lv_bipush (v := 48) F.1 F.2.1 dX4_readScript_60 (by decide) ?_
            refine lv_isub F.1 F.2.1 dX4_readScript_62 ?_
            refine lv_istore_n (lv' := [(3, .int (r_6 - 48)), (0, .ref (aR 3)), (1, .int x1_2), (2, .int x2_3)]) F.1 F.2.1 dX4_readScript_63 rfl hl (by decide) rfl (fun ls hl => ?_)
            refine lv_iload_n F.1 F.2.1 dX4_readScript_64 rfl (lv_at hl 0 rfl) ?_
            obtain ⟨j79, hj79, h⟩ := op_j h
            have J79 : ∀ (H : Heap) (locs : List Loc) (ls : Array Slot), j79 () = some (psR) → Rg D T A st (gR T aR aD tx ps_4 nm) H locs → lv_has ls 4 [(0, .ref (aR 3)), (1, .int x1_2), (2, .int x2_3), (3, .int (r_6 - 48))] → W pr l en rmX4_readScript st mi ag bl me co H locs 0 0 (MQ bl (kQ none D (gR T aR aD tx psR nm) A) ag st rmX4_readScript.cells rmX4_readScript.slots A) (F0 mi 79 ls []) := by
              intro H locs ls h G hl
              rw [hj79] at h
              refine lv_iload_n F.1 F.2.1 dX4_readScript_79 rfl (lv_at hl 1 rfl) ?_
              refine lv_iload_n F.1 F.2.1 dX4_readScript_80 rfl (lv_at hl 3 rfl) ?_
              refine lv_iload_n F.1 F.2.1 dX4_readScript_81 rfl (lv_at hl 2 rfl) ?_
              refine lv_ishl F.1 F.2.1 dX4_readScript_82 ?_
              refine lv_ior F.1 F.2.1 dX4_readScript_83 ?_
              refine lv_istore_n (lv' := [(1, .int (x1_2 ||| ((r_6 - 48) <<< (x2_3 &&& 31)))), (0, .ref (aR 3)), (2, .int x2_3), (3, .int (r_6 - 48))]) F.1 F.2.1 dX4_readScript_84 rfl hl (by decide) rfl (fun ls hl => ?_)
              refine lv_iinc (v := (x2_3 + 1)) (lv' := [(2, .int (x2_3 + 1)), (1, .int (x1_2 ||| ((r_6 - 48) <<< (x2_3 &&& 31)))), (0, .ref (aR 3)), (3, .int (r_6 - 48))]) F.1 F.2.1 dX4_readScript_85 hl (k := 2) rfl rfl (by decide) rfl (fun ls hl => ?_)
              refine lv_goto (tgt := 33) F.1 F.2.1 dX4_readScript_88 (by decide) ?_
              exact ih (x1_2 ||| ((r_6 - 48) <<< (x2_3 &&& 31))) (x2_3 + 1) _ _ _ h G (lv_sub hl [2, 1, 0] rfl)
            clear hj79
            refine lv_if_eq (tgt := 79) F.1 F.2.1 dX4_readScript_65 (by decide) (fun c => ?_) (fun c => ?_)
            · have h := op_t h c
              exact J79 _ _ _ h G (lv_sub hl [1, 2, 3, 0] rfl)
            · have h := op_f h c
              refine lv_iload_n F.1 F.2.1 dX4_readScript_68 rfl (lv_at hl 0 rfl) ?_
              refine lv_iconst (v := 1) F.1 F.2.1 dX4_readScript_69 (by decide) ?_
              refine lv_icmp_eq (tgt := 79) F.1 F.2.1 dX4_readScript_70 (by decide) (fun c => ?_) (fun c => ?_)
              · have h := op_t h c
                exact J79 _ _ _ h G (lv_sub hl [1, 2, 3, 0] rfl)
              · have h := op_f h c
                refine lv_aload_n F.1 F.2.1 dX4_readScript_73 rfl (lv_at hl 1 rfl) ?_
                refine lv_iconst (v := 1) F.1 F.2.1 dX4_readScript_74 (by decide) ?_
                obtain ⟨ps_7, hc, h⟩ := op_b h
                refine k_callV (rv := none) (Wc := (gR T aR aD tx ps_4 nm)) (W2 := (gR T aR aD tx ps_7 nm)) (Wn := (gR T aR aD tx ps_7 nm)) (As := [.int 1]) (rest := []) F G (mX4_stopAt l D T aR aD tx ps_4 nm 1 hc) (cwV 1 F.2.2.2.2 (kg_c kl318 (kg_c kl319 (kg_c kl320 (kg_c kl321 (kg_c kl312 kg_a))))) rfl rfl rfl (by decide +kernel) ⟨Nat.le_of_ble_eq_true rfl, Nat.le_of_ble_eq_true rfl⟩) 3 rfl (q := (RX4, TX4, 6)) rfl rfl (kCut_F G) rfl hl.1 rfl (Nat.le_of_ble_eq_true rfl) dX4_readScript_75 ⟨Nat.le_of_ble_eq_true rfl, Nat.le_of_ble_eq_true rfl⟩ (cN := 0) (sN := 0) ⟨rfl, rfl⟩ (fun H locs G => ?_)
                obtain rfl := op_1 h
                exact k_vret F hr hlk G dX4_readScript_78
      refine L33 tx ps nm  _ (fun x1_5 H locs ls h G hl => ?_) fu 0 0  _ _ _ h G (lv_sub hl [2, 1, 0] rfl)
      clear L33
      refine lv_aload_n F.1 F.2.1 dX4_readScript_91 rfl (lv_at hl 0 rfl) ?_
      refine k_get F G 3 rfl (N := 6) (Tt := TX4) rfl kf4 2 (by decide) kl231 (v := .ref (aD 0)) rfl dX4_readScript_92 ?_
      refine lv_iload_n F.1 F.2.1 dX4_readScript_95 rfl (lv_at hl 1 rfl) ?_
      obtain ⟨ps_8, e9, h⟩ := op_st h
      refine k_put F G 4 rfl (N := 18) (Tt := TX5) rfl kf5 tyX5_ok nmX5 13 (by decide) kl380 rfl (v := .int x1_5) rfl rfl (Nat.le_of_ble_eq_true rfl) dX4_readScript_96 (Wn := (gR T aR aD tx ps_8 nm)) (by subst e9; rfl) (fun H locs G => ?_)
      clear e9
      refine lv_aload_n F.1 F.2.1 dX4_readScript_99 rfl (lv_at hl 0 rfl) ?_
      refine k_get F G 3 rfl (N := 6) (Tt := TX4) rfl kf4 2 (by decide) kl231 (v := .ref (aD 0)) rfl dX4_readScript_100 ?_
      refine lv_aload_n F.1 F.2.1 dX4_readScript_103 rfl (lv_at hl 0 rfl) ?_
      refine k_get F G 3 rfl (N := 6) (Tt := TX4) rfl kf4 1 (by decide) kl237 (v := .ref (aR 2)) rfl dX4_readScript_104 ?_
      refine k_get F G 2 rfl (N := 4) (Tt := TX7) rfl kf7 3 (by decide) kl317 (v := .int (ps_8 2 0)) rfl dX4_readScript_107 ?_
      obtain ⟨ps_9, e9, h⟩ := op_st h
      refine k_put F G 4 rfl (N := 18) (Tt := TX5) rfl kf5 tyX5_ok nmX5 14 (by decide) kl381 rfl (v := .int (ps_8 2 0)) rfl rfl (Nat.le_of_ble_eq_true rfl) dX4_readScript_110 (Wn := (gR T aR aD tx ps_9 nm)) (by subst e9; rfl) (fun H locs G => ?_)
      clear e9
      refine lv_aload_n F.1 F.2.1 dX4_readScript_113 rfl (lv_at hl 0 rfl) ?_
      refine k_get F G 3 rfl (N := 6) (Tt := TX4) rfl kf4 1 (by decide) kl237 (v := .ref (aR 2)) rfl dX4_readScript_114 ?_
      obtain ⟨ps_10, hc, h⟩ := op_b h
      refine k_callV (rv := none) (Wc := (gR T aR aD tx ps_9 nm)) (W2 := (gR T aR aD tx ps_10 nm)) (Wn := (gR T aR aD tx ps_10 nm)) (As := []) (rest := []) F G (mX7_goToNext l D T aR aD tx ps_9 nm hc) (cwV 0 F.2.2.2.2 (kg_c kl323 (kg_c kl256 (kg_c kl257 (kg_c kl236 (kg_c kl245 kg_a))))) rfl rfl rfl (by decide +kernel) ⟨Nat.le_of_ble_eq_true rfl, Nat.le_of_ble_eq_true rfl⟩) 2 rfl (q := (RX7, TX7, 4)) rfl rfl (kCut_F G) rfl hl.1 rfl (Nat.le_of_ble_eq_true rfl) dX4_readScript_117 ⟨Nat.le_of_ble_eq_true rfl, Nat.le_of_ble_eq_true rfl⟩ (cN := 0) (sN := 0) ⟨rfl, rfl⟩ (fun H locs G => ?_)
      obtain rfl := op_1 h
      exact k_vret F hr hlk G dX4_readScript_120
    · have h := op_f h c
      exact J23 _ _ _ h G hl
abbrev rmX4_readOff : Room := ({ frames := 3, cells := 0, slots := 0, locals := 71 } : Room)
noncomputable def qX4_readOff (tx : Nat → Nat → Int32) (ps : Nat → Nat → Int32) (nm : Nat → Int64) : Option ((Nat → Nat → Int32)) :=
  bd (qX7_goToNext tx ps nm) fun ps_1 => bd2 (qX4_readOutletName tx ps_1 nm) fun r_2 ps_3 => if r_2 = (-1) then some ps_3 else (bs (va_up ps_3 7 (fun _ => ((ps_3 7 0) ||| (1 <<< (r_2 &&& 31))))) fun ps_4 => bd (qX7_goToNext tx ps_4 nm) fun ps_5 => some ps_5)

set_option maxHeartbeats 4000000 in
set_option maxRecDepth 100000 in
theorem mX4_readOff (l : Launch) (D : va_G) (T : Nat → ClassId) (aR : Nat → Nat) (aD : Nat → Nat) (tx : Nat → Nat → Int32) (ps : Nat → Nat → Int32) (nm : Nat → Int64) {psR : Nat → Nat → Int32} (hres : qX4_readOff tx ps nm = some (psR)) : Ct l yX4_readOff (Cond.code yX4_readOff cX4_readOff 2 none :: kAll) rmX4_readOff D T [.ref (aR 3)] (gR T aR aD tx ps nm) none (gR T aR aD tx psR nm) := by
  refine Ct.of (cc := cX4_readOff) (maxL := 2) (ret := none) (by decide +kernel) rfl (Nat.le_of_ble_eq_true rfl) ?_
  intro pr en st mi ag bl me co A ls F hr hlk hnm G hl
  have hl : lv_has ls 2 [(0, .ref (aR 3))] := hl
  have h := hres
  unfold qX4_readOff at h
  refine lv_aload_n F.1 F.2.1 dX4_readOff_0 rfl (lv_at hl 0 rfl) ?_
  refine k_get F G 3 rfl (N := 6) (Tt := TX4) rfl kf4 1 (by decide) kl237 (v := .ref (aR 2)) rfl dX4_readOff_1 ?_
  obtain ⟨ps_1, hc, h⟩ := op_b h
  refine k_callV (rv := none) (Wc := (gR T aR aD tx ps nm)) (W2 := (gR T aR aD tx ps_1 nm)) (Wn := (gR T aR aD tx ps_1 nm)) (As := []) (rest := []) F G (mX7_goToNext l D T aR aD tx ps nm hc) (cwV 0 F.2.2.2.2 (kg_c kl323 (kg_c kl256 (kg_c kl257 (kg_c kl236 (kg_c kl245 kg_a))))) rfl rfl rfl (by decide +kernel) ⟨Nat.le_of_ble_eq_true rfl, Nat.le_of_ble_eq_true rfl⟩) 2 rfl (q := (RX7, TX7, 4)) rfl rfl (kCut_F G) rfl hl.1 rfl (Nat.le_of_ble_eq_true rfl) dX4_readOff_4 ⟨Nat.le_of_ble_eq_true rfl, Nat.le_of_ble_eq_true rfl⟩ (cN := 0) (sN := 0) ⟨rfl, rfl⟩ (fun H locs G => ?_)
  refine lv_aload_n F.1 F.2.1 dX4_readOff_7 rfl (lv_at hl 0 rfl) ?_
  obtain ⟨r_2, ps_3, hc, h⟩ := op_b2 h
  refine k_callV (rv := (some (.int r_2))) (Wc := (gR T aR aD tx ps_1 nm)) (W2 := (gR T aR aD tx ps_3 nm)) (Wn := (gR T aR aD tx ps_3 nm)) (As := []) (rest := []) F G (mX4_readOutletName l D T aR aD tx ps_1 nm hc) (cwV 0 F.2.2.2.2 (kg_c kl374 (kg_c kl375 (kg_c kl376 (kg_c kl321 (kg_c kl369 kg_a))))) rfl rfl rfl (by decide +kernel) ⟨Nat.le_of_ble_eq_true rfl, Nat.le_of_ble_eq_true rfl⟩) 3 rfl (q := (RX4, TX4, 6)) rfl rfl (kCut_F G) rfl hl.1 rfl (Nat.le_of_ble_eq_true rfl) dX4_readOff_8 ⟨Nat.le_of_ble_eq_true rfl, Nat.le_of_ble_eq_true rfl⟩ (cN := 0) (sN := 0) ⟨rfl, rfl⟩ (fun H locs G => ?_)
  refine lv_istore_n (lv' := [(1, .int r_2), (0, .ref (aR 3))]) F.1 F.2.1 dX4_readOff_11 rfl hl (by decide) rfl (fun ls hl => ?_)
  refine lv_iload_n F.1 F.2.1 dX4_readOff_12 rfl (lv_at hl 0 rfl) ?_
  refine lv_iconst (v := (-1)) F.1 F.2.1 dX4_readOff_13 (by decide) ?_
  refine lv_icmp_eq (tgt := 39) F.1 F.2.1 dX4_readOff_14 (by decide) (fun c => ?_) (fun c => ?_)
  · have h := op_t h c
    obtain rfl := op_1 h
    exact k_vret F hr hlk G dX4_readOff_39
  · have h := op_f h c
    refine lv_aload_n F.1 F.2.1 dX4_readOff_17 rfl (lv_at hl 1 rfl) ?_
    refine k_get F G 3 rfl (N := 6) (Tt := TX4) rfl kf4 2 (by decide) kl231 (v := .ref (aD 0)) rfl dX4_readOff_18 ?_
    refine lv_dup F.1 F.2.1 dX4_readOff_21 rfl ?_
    refine k_get F G 4 rfl (N := 18) (Tt := TX5) rfl kf5 8 (by decide) kl383 (v := .int (ps_3 7 0)) rfl dX4_readOff_22 ?_
    refine lv_iconst (v := 1) F.1 F.2.1 dX4_readOff_25 (by decide) ?_
    refine lv_iload_n F.1 F.2.1 dX4_readOff_26 rfl (lv_at hl 0 rfl) ?_
    refine lv_ishl F.1 F.2.1 dX4_readOff_27 ?_
    refine lv_ior F.1 F.2.1 dX4_readOff_28 ?_
    obtain ⟨ps_4, e9, h⟩ := op_st h
    refine k_put F G 4 rfl (N := 18) (Tt := TX5) rfl kf5 tyX5_ok nmX5 8 (by decide) kl383 rfl (v := .int ((ps_3 7 0) ||| (1 <<< (r_2 &&& 31)))) rfl rfl (Nat.le_of_ble_eq_true rfl) dX4_readOff_29 (Wn := (gR T aR aD tx ps_4 nm)) (by subst e9; rfl) (fun H locs G => ?_)
    clear e9
    refine lv_aload_n F.1 F.2.1 dX4_readOff_32 rfl (lv_at hl 1 rfl) ?_
    refine k_get F G 3 rfl (N := 6) (Tt := TX4) rfl kf4 1 (by decide) kl237 (v := .ref (aR 2)) rfl dX4_readOff_33 ?_
    obtain ⟨ps_5, hc, h⟩ := op_b h
    refine k_callV (rv := none) (Wc := (gR T aR aD tx ps_4 nm)) (W2 := (gR T aR aD tx ps_5 nm)) (Wn := (gR T aR aD tx ps_5 nm)) (As := []) (rest := []) F G (mX7_goToNext l D T aR aD tx ps_4 nm hc) (cwV 0 F.2.2.2.2 (kg_c kl323 (kg_c kl256 (kg_c kl257 (kg_c kl236 (kg_c kl245 kg_a))))) rfl rfl rfl (by decide +kernel) ⟨Nat.le_of_ble_eq_true rfl, Nat.le_of_ble_eq_true rfl⟩) 2 rfl (q := (RX7, TX7, 4)) rfl rfl (kCut_F G) rfl hl.1 rfl (Nat.le_of_ble_eq_true rfl) dX4_readOff_36 ⟨Nat.le_of_ble_eq_true rfl, Nat.le_of_ble_eq_true rfl⟩ (cN := 0) (sN := 0) ⟨rfl, rfl⟩ (fun H locs G => ?_)
    obtain rfl := op_1 h
    exact k_vret F hr hlk G dX4_readOff_39
abbrev rmX4_readDark : Room := ({ frames := 3, cells := 0, slots := 0, locals := 67 } : Room)
noncomputable def qX4_readDark (tx : Nat → Nat → Int32) (ps : Nat → Nat → Int32) (nm : Nat → Int64) : Option ((Nat → Nat → Int32)) :=
  (jn (fun (_ : Unit) => bd (qX4_stopAt tx ps nm 5) fun ps_1 => some ps_1) fun j17 => if (ps 14 0) < 0 then (j17 ()) else if (ps 14 0) < 4 then bd (qX7_goToNext tx ps nm) fun ps_2 => bd2 (qX4_readNumber tx ps_2 nm 1 999) fun r_3 ps_4 => gd (vp_in (ps 14 0) 4) (bs (va_up ps_4 21 (upd (ps_4 21) (ps 14 0).toNatClampNeg r_3)) fun ps_5 => bd2 (qX4_readNumber tx ps_5 nm 1 50) fun r_6 ps_7 => gd (vp_in (ps 14 0) 4) (bs (va_up ps_7 22 (upd (ps_7 22) (ps 14 0).toNatClampNeg r_6)) fun ps_8 => (bs (va_up ps_8 14 (fun _ => ((ps 14 0) + 1))) fun ps_9 => some ps_9))) else (j17 ()))

set_option maxHeartbeats 4000000 in
set_option maxRecDepth 100000 in
theorem mX4_readDark (l : Launch) (D : va_G) (T : Nat → ClassId) (aR : Nat → Nat) (aD : Nat → Nat) (tx : Nat → Nat → Int32) (ps : Nat → Nat → Int32) (nm : Nat → Int64) {psR : Nat → Nat → Int32} (hres : qX4_readDark tx ps nm = some (psR)) : Ct l yX4_readDark (Cond.code yX4_readDark cX4_readDark 2 none :: kAll) rmX4_readDark D T [.ref (aR 3)] (gR T aR aD tx ps nm) none (gR T aR aD tx psR nm) := by
  refine Ct.of (cc := cX4_readDark) (maxL := 2) (ret := none) (by decide +kernel) rfl (Nat.le_of_ble_eq_true rfl) ?_
  intro pr en st mi ag bl me co A ls F hr hlk hnm G hl
  have hl : lv_has ls 2 [(0, .ref (aR 3))] := hl
  have h := hres
  unfold qX4_readDark at h
  refine lv_aload_n F.1 F.2.1 dX4_readDark_0 rfl (lv_at hl 0 rfl) ?_
  refine k_get F G 3 rfl (N := 6) (Tt := TX4) rfl kf4 2 (by decide) kl231 (v := .ref (aD 0)) rfl dX4_readDark_1 ?_
  refine k_get F G 4 rfl (N := 18) (Tt := TX5) rfl kf5 15 (by decide) kl385 (v := .int (ps 14 0)) rfl dX4_readDark_4 ?_
  refine lv_istore_n (lv' := [(1, .int (ps 14 0)), (0, .ref (aR 3))]) F.1 F.2.1 dX4_readDark_7 rfl hl (by decide) rfl (fun ls hl => ?_)
  refine lv_iload_n F.1 F.2.1 dX4_readDark_8 rfl (lv_at hl 0 rfl) ?_
  obtain ⟨j17, hj17, h⟩ := op_j h
  have J17 : ∀ (H : Heap) (locs : List Loc) (ls : Array Slot), j17 () = some (psR) → Rg D T A st (gR T aR aD tx ps nm) H locs → lv_has ls 2 [(0, .ref (aR 3))] → W pr l en rmX4_readDark st mi ag bl me co H locs 0 0 (MQ bl (kQ none D (gR T aR aD tx psR nm) A) ag st rmX4_readDark.cells rmX4_readDark.slots A) (F0 mi 17 ls []) := by
    intro H locs ls h G hl
    rw [hj17] at h
    refine lv_aload_n F.1 F.2.1 dX4_readDark_17 rfl (lv_at hl 0 rfl) ?_
    refine lv_iconst (v := 5) F.1 F.2.1 dX4_readDark_18 (by decide) ?_
    obtain ⟨ps_1, hc, h⟩ := op_b h
    refine k_callV (rv := none) (Wc := (gR T aR aD tx ps nm)) (W2 := (gR T aR aD tx ps_1 nm)) (Wn := (gR T aR aD tx ps_1 nm)) (As := [.int 5]) (rest := []) F G (mX4_stopAt l D T aR aD tx ps nm 5 hc) (cwV 1 F.2.2.2.2 (kg_c kl318 (kg_c kl319 (kg_c kl320 (kg_c kl321 (kg_c kl312 kg_a))))) rfl rfl rfl (by decide +kernel) ⟨Nat.le_of_ble_eq_true rfl, Nat.le_of_ble_eq_true rfl⟩) 3 rfl (q := (RX4, TX4, 6)) rfl rfl (kCut_F G) rfl hl.1 rfl (Nat.le_of_ble_eq_true rfl) dX4_readDark_19 ⟨Nat.le_of_ble_eq_true rfl, Nat.le_of_ble_eq_true rfl⟩ (cN := 0) (sN := 0) ⟨rfl, rfl⟩ (fun H locs G => ?_)
    obtain rfl := op_1 h
    exact k_vret F hr hlk G dX4_readDark_22
  clear hj17
  refine lv_if_lt (tgt := 17) F.1 F.2.1 dX4_readDark_9 (by decide) (fun c => ?_) (fun c => ?_)
  · have h := op_t h c
    exact J17 _ _ _ h G (lv_sub hl [1] rfl)
  · have h := op_f h c
    refine lv_iload_n F.1 F.2.1 dX4_readDark_12 rfl (lv_at hl 0 rfl) ?_
    refine lv_iconst (v := 4) F.1 F.2.1 dX4_readDark_13 (by decide) ?_
    refine lv_icmp_lt (tgt := 23) F.1 F.2.1 dX4_readDark_14 (by decide) (fun c => ?_) (fun c => ?_)
    · have h := op_t h c
      refine lv_aload_n F.1 F.2.1 dX4_readDark_23 rfl (lv_at hl 1 rfl) ?_
      refine k_get F G 3 rfl (N := 6) (Tt := TX4) rfl kf4 1 (by decide) kl237 (v := .ref (aR 2)) rfl dX4_readDark_24 ?_
      obtain ⟨ps_2, hc, h⟩ := op_b h
      refine k_callV (rv := none) (Wc := (gR T aR aD tx ps nm)) (W2 := (gR T aR aD tx ps_2 nm)) (Wn := (gR T aR aD tx ps_2 nm)) (As := []) (rest := []) F G (mX7_goToNext l D T aR aD tx ps nm hc) (cwV 0 F.2.2.2.2 (kg_c kl323 (kg_c kl256 (kg_c kl257 (kg_c kl236 (kg_c kl245 kg_a))))) rfl rfl rfl (by decide +kernel) ⟨Nat.le_of_ble_eq_true rfl, Nat.le_of_ble_eq_true rfl⟩) 2 rfl (q := (RX7, TX7, 4)) rfl rfl (kCut_F G) rfl hl.1 rfl (Nat.le_of_ble_eq_true rfl) dX4_readDark_27 ⟨Nat.le_of_ble_eq_true rfl, Nat.le_of_ble_eq_true rfl⟩ (cN := 0) (sN := 0) ⟨rfl, rfl⟩ (fun H locs G => ?_)
      refine lv_aload_n F.1 F.2.1 dX4_readDark_30 rfl (lv_at hl 1 rfl) ?_
      refine k_get F G 3 rfl (N := 6) (Tt := TX4) rfl kf4 2 (by decide) kl231 (v := .ref (aD 0)) rfl dX4_readDark_31 ?_
      refine k_get F G 4 rfl (N := 18) (Tt := TX5) rfl kf5 16 (by decide) kl386 (v := .ref (aD 7)) rfl dX4_readDark_34 ?_
      refine lv_iload_n F.1 F.2.1 dX4_readDark_37 rfl (lv_at hl 0 rfl) ?_
      refine lv_aload_n F.1 F.2.1 dX4_readDark_38 rfl (lv_at hl 1 rfl) ?_
      refine lv_iconst (v := 1) F.1 F.2.1 dX4_readDark_39 (by decide) ?_
      refine lv_sipush (v := 999) F.1 F.2.1 dX4_readDark_40 (by decide) ?_
      obtain ⟨r_3, ps_4, hc, h⟩ := op_b2 h
      refine k_callV (rv := (some (.int r_3))) (Wc := (gR T aR aD tx ps_2 nm)) (W2 := (gR T aR aD tx ps_4 nm)) (Wn := (gR T aR aD tx ps_4 nm)) (As := [.int 1, .int 999]) (rest := [.int (ps 14 0), .ref (aD 7)]) F G (mX4_readNumber l D T aR aD tx ps_2 nm 1 999 hc) (cwV 2 F.2.2.2.2 (kg_c kl330 (kg_c kl331 (kg_c kl332 (kg_c kl321 (kg_c kl315 kg_a))))) rfl rfl rfl (by decide +kernel) ⟨Nat.le_of_ble_eq_true rfl, Nat.le_of_ble_eq_true rfl⟩) 3 rfl (q := (RX4, TX4, 6)) rfl rfl (kCut_F G) rfl hl.1 rfl (Nat.le_of_ble_eq_true rfl) dX4_readDark_43 ⟨Nat.le_of_ble_eq_true rfl, Nat.le_of_ble_eq_true rfl⟩ (cN := 0) (sN := 0) ⟨rfl, rfl⟩ (fun H locs G => ?_)
      obtain ⟨c, h⟩ := op_g h
      obtain ⟨ps_5, e9, h⟩ := op_st h
      refine k_iast F G 11 rfl c dX4_readDark_46 (Wn := (gR T aR aD tx ps_5 nm)) (by subst e9; rfl) (fun H locs G => ?_)
      clear e9
      refine lv_aload_n F.1 F.2.1 dX4_readDark_47 rfl (lv_at hl 1 rfl) ?_
      refine k_get F G 3 rfl (N := 6) (Tt := TX4) rfl kf4 2 (by decide) kl231 (v := .ref (aD 0)) rfl dX4_readDark_48 ?_
      refine k_get F G 4 rfl (N := 18) (Tt := TX5) rfl kf5 17 (by decide) kl387 (v := .ref (aD 8)) rfl dX4_readDark_51 ?_
      refine lv_iload_n F.1 F.2.1 dX4_readDark_54 rfl (lv_at hl 0 rfl) ?_
      refine lv_aload_n F.1 F.2.1 dX4_readDark_55 rfl (lv_at hl 1 rfl) ?_
      refine lv_iconst (v := 1) F.1 F.2.1 dX4_readDark_56 (by decide) ?_
      refine lv_bipush (v := 50) F.1 F.2.1 dX4_readDark_57 (by decide) ?_
      obtain ⟨r_6, ps_7, hc, h⟩ := op_b2 h
      refine k_callV (rv := (some (.int r_6))) (Wc := (gR T aR aD tx ps_5 nm)) (W2 := (gR T aR aD tx ps_7 nm)) (Wn := (gR T aR aD tx ps_7 nm)) (As := [.int 1, .int 50]) (rest := [.int (ps 14 0), .ref (aD 8)]) F G (mX4_readNumber l D T aR aD tx ps_5 nm 1 50 hc) (cwV 2 F.2.2.2.2 (kg_c kl330 (kg_c kl331 (kg_c kl332 (kg_c kl321 (kg_c kl315 kg_a))))) rfl rfl rfl (by decide +kernel) ⟨Nat.le_of_ble_eq_true rfl, Nat.le_of_ble_eq_true rfl⟩) 3 rfl (q := (RX4, TX4, 6)) rfl rfl (kCut_F G) rfl hl.1 rfl (Nat.le_of_ble_eq_true rfl) dX4_readDark_59 ⟨Nat.le_of_ble_eq_true rfl, Nat.le_of_ble_eq_true rfl⟩ (cN := 0) (sN := 0) ⟨rfl, rfl⟩ (fun H locs G => ?_)
      obtain ⟨c, h⟩ := op_g h
      obtain ⟨ps_8, e9, h⟩ := op_st h
      refine k_iast F G 12 rfl c dX4_readDark_62 (Wn := (gR T aR aD tx ps_8 nm)) (by subst e9; rfl) (fun H locs G => ?_)
      clear e9
      refine lv_aload_n F.1 F.2.1 dX4_readDark_63 rfl (lv_at hl 1 rfl) ?_
      refine k_get F G 3 rfl (N := 6) (Tt := TX4) rfl kf4 2 (by decide) kl231 (v := .ref (aD 0)) rfl dX4_readDark_64 ?_
      refine lv_iload_n F.1 F.2.1 dX4_readDark_67 rfl (lv_at hl 0 rfl) ?_
      refine lv_iconst (v := 1) F.1 F.2.1 dX4_readDark_68 (by decide) ?_
      refine lv_iadd F.1 F.2.1 dX4_readDark_69 ?_
      obtain ⟨ps_9, e9, h⟩ := op_st h
      refine k_put F G 4 rfl (N := 18) (Tt := TX5) rfl kf5 tyX5_ok nmX5 15 (by decide) kl385 rfl (v := .int ((ps 14 0) + 1)) rfl rfl (Nat.le_of_ble_eq_true rfl) dX4_readDark_70 (Wn := (gR T aR aD tx ps_9 nm)) (by subst e9; rfl) (fun H locs G => ?_)
      clear e9
      obtain rfl := op_1 h
      exact k_vret F hr hlk G dX4_readDark_73
    · have h := op_f h c
      exact J17 _ _ _ h G (lv_sub hl [1] rfl)
abbrev rmX4_readFuse : Room := ({ frames := 6, cells := 0, slots := 0, locals := 133 } : Room)
noncomputable def qX4_readFuse (tx : Nat → Nat → Int32) (ps : Nat → Nat → Int32) (nm : Nat → Int64) : Option ((Nat → Nat → Int32)) :=
  bd (qX7_isWord tx ps nm 0) fun r_1 => if r_1 = 0 then bd (qX4_stopAt tx ps nm 1) fun ps_7 => some ps_7 else bd (qX7_goToNext tx ps nm) fun ps_2 => bd2 (qX4_readNumber tx ps_2 nm 1 9999) fun r_3 ps_4 => (bs (va_up ps_4 8 (fun _ => r_3)) fun ps_5 => bd (qX4_readSemicolon tx ps_5 nm) fun ps_6 => some ps_6)

set_option maxHeartbeats 4000000 in
set_option maxRecDepth 100000 in
theorem mX4_readFuse (l : Launch) (D : va_G) (T : Nat → ClassId) (aR : Nat → Nat) (aD : Nat → Nat) (tx : Nat → Nat → Int32) (ps : Nat → Nat → Int32) (nm : Nat → Int64) {psR : Nat → Nat → Int32} (hres : qX4_readFuse tx ps nm = some (psR)) : Ct l yX4_readFuse (Cond.code yX4_readFuse cX4_readFuse 1 none :: kAll) rmX4_readFuse D T [.ref (aR 3)] (gR T aR aD tx ps nm) none (gR T aR aD tx psR nm) := by
  refine Ct.of (cc := cX4_readFuse) (maxL := 1) (ret := none) (by decide +kernel) rfl (Nat.le_of_ble_eq_true rfl) ?_
  intro pr en st mi ag bl me co A ls F hr hlk hnm G hl
  have hl : lv_has ls 1 [(0, .ref (aR 3))] := hl
  have h := hres
  unfold qX4_readFuse at h
  refine lv_aload_n F.1 F.2.1 dX4_readFuse_0 rfl (lv_at hl 0 rfl) ?_
  refine k_get F G 3 rfl (N := 6) (Tt := TX4) rfl kf4 1 (by decide) kl237 (v := .ref (aR 2)) rfl dX4_readFuse_1 ?_
  refine va_ldcS (own := RX4) (index := 76) (tx := "fuse") (q := T (100 + 0)) F.1 F.2.1 F.2.2.2.1 (k_refE G 0 rfl) dX4_readFuse_4 ?_
  obtain ⟨r_1, hc, h⟩ := op_b h
  refine k_callV (rv := (some (.int r_1))) (Wc := (gR T aR aD tx ps nm)) (W2 := (gR T aR aD tx ps nm)) (Wn := (gR T aR aD tx ps nm)) (As := [.ref (T (100 + 0))]) (rest := []) F G (mX7_isWord l D T aR aD tx ps nm 0 (by decide) hc) (cwV 1 F.2.2.2.2 (kg_c kl327 (kg_c kl328 (kg_c kl329 (kg_c kl236 (kg_c kl302 kg_a))))) rfl rfl rfl (by decide +kernel) ⟨Nat.le_of_ble_eq_true rfl, Nat.le_of_ble_eq_true rfl⟩) 2 rfl (q := (RX7, TX7, 4)) rfl rfl (kCut_F G) rfl hl.1 rfl (Nat.le_of_ble_eq_true rfl) dX4_readFuse_6 ⟨Nat.le_of_ble_eq_true rfl, Nat.le_of_ble_eq_true rfl⟩ (cN := 0) (sN := 0) ⟨rfl, rfl⟩ (fun H locs G => ?_)
  refine lv_if_ne (tgt := 18) F.1 F.2.1 dX4_readFuse_9 (by decide) (fun c => ?_) (fun c => ?_)
  · have h := op_f h c
    refine lv_aload_n F.1 F.2.1 dX4_readFuse_18 rfl (lv_at hl 0 rfl) ?_
    refine k_get F G 3 rfl (N := 6) (Tt := TX4) rfl kf4 1 (by decide) kl237 (v := .ref (aR 2)) rfl dX4_readFuse_19 ?_
    obtain ⟨ps_2, hc, h⟩ := op_b h
    refine k_callV (rv := none) (Wc := (gR T aR aD tx ps nm)) (W2 := (gR T aR aD tx ps_2 nm)) (Wn := (gR T aR aD tx ps_2 nm)) (As := []) (rest := []) F G (mX7_goToNext l D T aR aD tx ps nm hc) (cwV 0 F.2.2.2.2 (kg_c kl323 (kg_c kl256 (kg_c kl257 (kg_c kl236 (kg_c kl245 kg_a))))) rfl rfl rfl (by decide +kernel) ⟨Nat.le_of_ble_eq_true rfl, Nat.le_of_ble_eq_true rfl⟩) 2 rfl (q := (RX7, TX7, 4)) rfl rfl (kCut_F G) rfl hl.1 rfl (Nat.le_of_ble_eq_true rfl) dX4_readFuse_22 ⟨Nat.le_of_ble_eq_true rfl, Nat.le_of_ble_eq_true rfl⟩ (cN := 0) (sN := 0) ⟨rfl, rfl⟩ (fun H locs G => ?_)
    refine lv_aload_n F.1 F.2.1 dX4_readFuse_25 rfl (lv_at hl 0 rfl) ?_
    refine k_get F G 3 rfl (N := 6) (Tt := TX4) rfl kf4 2 (by decide) kl231 (v := .ref (aD 0)) rfl dX4_readFuse_26 ?_
    refine lv_aload_n F.1 F.2.1 dX4_readFuse_29 rfl (lv_at hl 0 rfl) ?_
    refine lv_iconst (v := 1) F.1 F.2.1 dX4_readFuse_30 (by decide) ?_
    refine lv_sipush (v := 9999) F.1 F.2.1 dX4_readFuse_31 (by decide) ?_
    obtain ⟨r_3, ps_4, hc, h⟩ := op_b2 h
    refine k_callV (rv := (some (.int r_3))) (Wc := (gR T aR aD tx ps_2 nm)) (W2 := (gR T aR aD tx ps_4 nm)) (Wn := (gR T aR aD tx ps_4 nm)) (As := [.int 1, .int 9999]) (rest := [.ref (aD 0)]) F G (mX4_readNumber l D T aR aD tx ps_2 nm 1 9999 hc) (cwV 2 F.2.2.2.2 (kg_c kl330 (kg_c kl331 (kg_c kl332 (kg_c kl321 (kg_c kl315 kg_a))))) rfl rfl rfl (by decide +kernel) ⟨Nat.le_of_ble_eq_true rfl, Nat.le_of_ble_eq_true rfl⟩) 3 rfl (q := (RX4, TX4, 6)) rfl rfl (kCut_F G) rfl hl.1 rfl (Nat.le_of_ble_eq_true rfl) dX4_readFuse_34 ⟨Nat.le_of_ble_eq_true rfl, Nat.le_of_ble_eq_true rfl⟩ (cN := 0) (sN := 0) ⟨rfl, rfl⟩ (fun H locs G => ?_)
    obtain ⟨ps_5, e9, h⟩ := op_st h
    refine k_put F G 4 rfl (N := 18) (Tt := TX5) rfl kf5 tyX5_ok nmX5 9 (by decide) kl326 rfl (v := .int r_3) rfl rfl (Nat.le_of_ble_eq_true rfl) dX4_readFuse_37 (Wn := (gR T aR aD tx ps_5 nm)) (by subst e9; rfl) (fun H locs G => ?_)
    clear e9
    refine lv_aload_n F.1 F.2.1 dX4_readFuse_40 rfl (lv_at hl 0 rfl) ?_
    obtain ⟨ps_6, hc, h⟩ := op_b h
    refine k_callV (rv := none) (Wc := (gR T aR aD tx ps_5 nm)) (W2 := (gR T aR aD tx ps_6 nm)) (Wn := (gR T aR aD tx ps_6 nm)) (As := []) (rest := []) F G (mX4_readSemicolon l D T aR aD tx ps_5 nm hc) (cwV 0 F.2.2.2.2 (kg_c kl333 (kg_c kl334 (kg_c kl335 (kg_c kl321 (kg_c kl324 kg_a))))) rfl rfl rfl (by decide +kernel) ⟨Nat.le_of_ble_eq_true rfl, Nat.le_of_ble_eq_true rfl⟩) 3 rfl (q := (RX4, TX4, 6)) rfl rfl (kCut_F G) rfl hl.1 rfl (Nat.le_of_ble_eq_true rfl) dX4_readFuse_41 ⟨Nat.le_of_ble_eq_true rfl, Nat.le_of_ble_eq_true rfl⟩ (cN := 0) (sN := 0) ⟨rfl, rfl⟩ (fun H locs G => ?_)
    obtain rfl := op_1 h
    exact k_vret F hr hlk G dX4_readFuse_44
  · have h := op_t h c
    refine lv_aload_n F.1 F.2.1 dX4_readFuse_12 rfl (lv_at hl 0 rfl) ?_
    refine lv_iconst (v := 1) F.1 F.2.1 dX4_readFuse_13 (by decide) ?_
    obtain ⟨ps_7, hc, h⟩ := op_b h
    refine k_callV (rv := none) (Wc := (gR T aR aD tx ps nm)) (W2 := (gR T aR aD tx ps_7 nm)) (Wn := (gR T aR aD tx ps_7 nm)) (As := [.int 1]) (rest := []) F G (mX4_stopAt l D T aR aD tx ps nm 1 hc) (cwV 1 F.2.2.2.2 (kg_c kl318 (kg_c kl319 (kg_c kl320 (kg_c kl321 (kg_c kl312 kg_a))))) rfl rfl rfl (by decide +kernel) ⟨Nat.le_of_ble_eq_true rfl, Nat.le_of_ble_eq_true rfl⟩) 3 rfl (q := (RX4, TX4, 6)) rfl rfl (kCut_F G) rfl hl.1 rfl (Nat.le_of_ble_eq_true rfl) dX4_readFuse_14 ⟨Nat.le_of_ble_eq_true rfl, Nat.le_of_ble_eq_true rfl⟩ (cN := 0) (sN := 0) ⟨rfl, rfl⟩ (fun H locs G => ?_)
    obtain rfl := op_1 h
    exact k_vret F hr hlk G dX4_readFuse_17
abbrev rmX4_readNeed : Room := ({ frames := 3, cells := 0, slots := 0, locals := 71 } : Room)
noncomputable def qX4_readNeed (tx : Nat → Nat → Int32) (ps : Nat → Nat → Int32) (nm : Nat → Int64) : Option ((Nat → Nat → Int32)) :=
  bd (qX5_needsInAll (fun i => ps (6 + i))) fun r_1 => if r_1 < 16 then bd (qX7_goToNext tx ps nm) fun ps_2 => bd2 (qX4_readOutletName tx ps_2 nm) fun r_3 ps_4 => (jn (fun (ps_5 : Nat → Nat → Int32) => bd2 (qX4_readOutletName tx ps_5 nm) fun r_6 ps_7 => if (ps_7 3 0) = 0 then if r_3 = (-1) then some ps_7 else if r_6 = (-1) then some ps_7 else (jn (fun (_ : Unit) => bd (qX4_stopAt tx ps_7 nm 3) fun ps_8 => some ps_8) fun j88 => if r_6 = r_3 then (j88 ()) else gd (vp_in r_3 12) (bd (qX10_isIn ((ps_7 20) r_3.toNatClampNeg) r_6) fun r_9 => if r_9 = 0 then gd (vp_in r_3 12) (gd (vp_in r_3 12) (bs (va_up ps_7 20 (upd (ps_7 20) r_3.toNatClampNeg (((ps_7 20) r_3.toNatClampNeg) ||| (1 <<< (r_6 &&& 31))))) fun ps_10 => bd (qX7_goToNext tx ps_10 nm) fun ps_11 => some ps_11)) else (j88 ()))) else some ps_7) fun j44 => if (ps_4 3 0) = 0 then bd (qX7_goToNext tx ps_4 nm) fun ps_12 => (j44 ps_12) else (j44 ps_4)) else bd (qX4_stopAt tx ps nm 5) fun ps_13 => some ps_13

set_option maxHeartbeats 4000000 in
set_option maxRecDepth 100000 in
theorem mX4_readNeed (l : Launch) (D : va_G) (T : Nat → ClassId) (aR : Nat → Nat) (aD : Nat → Nat) (tx : Nat → Nat → Int32) (ps : Nat → Nat → Int32) (nm : Nat → Int64) {psR : Nat → Nat → Int32} (hres : qX4_readNeed tx ps nm = some (psR)) : Ct l yX4_readNeed (Cond.code yX4_readNeed cX4_readNeed 3 none :: kAll) rmX4_readNeed D T [.ref (aR 3)] (gR T aR aD tx ps nm) none (gR T aR aD tx psR nm) := by
  refine Ct.of (cc := cX4_readNeed) (maxL := 3) (ret := none) (by decide +kernel) rfl (Nat.le_of_ble_eq_true rfl) ?_
  intro pr en st mi ag bl me co A ls F hr hlk hnm G hl
  have hl : lv_has ls 3 [(0, .ref (aR 3))] := hl
  have h := hres
  unfold qX4_readNeed at h
  refine lv_aload_n F.1 F.2.1 dX4_readNeed_0 rfl (lv_at hl 0 rfl) ?_
  refine k_get F G 3 rfl (N := 6) (Tt := TX4) rfl kf4 2 (by decide) kl231 (v := .ref (aD 0)) rfl dX4_readNeed_1 ?_
  obtain ⟨r_1, hc, h⟩ := op_b h
  refine k_callV (rv := (some (.int r_1))) (Wc := (gV T aD (fun i => ps (6 + i)))) (W2 := (gV T aD (fun i => ps (6 + i)))) (Wn := (gR T aR aD tx ps nm)) (As := []) (rest := []) F G (mX5_needsInAll l D T aD (fun i => ps (6 + i)) hc) (cwV 0 F.2.2.2.2 (kg_c kl371 (kg_c kl372 (kg_c kl373 (kg_c kl223 (kg_c kl365 kg_a))))) rfl rfl rfl (by decide +kernel) ⟨Nat.le_of_ble_eq_true rfl, Nat.le_of_ble_eq_true rfl⟩) 4 rfl (q := (RX5, TX5, 18)) rfl rfl (kCut_R G [4, 5, 6, 7, 8, 9, 10, 11, 12] rfl rfl) rfl hl.1 rfl (Nat.le_of_ble_eq_true rfl) dX4_readNeed_4 ⟨Nat.le_of_ble_eq_true rfl, Nat.le_of_ble_eq_true rfl⟩ (cN := 0) (sN := 0) ⟨rfl, rfl⟩ (fun H locs G => ?_)
  refine lv_bipush (v := 16) F.1 F.2.1 dX4_readNeed_7 (by decide) ?_
  refine lv_icmp_lt (tgt := 18) F.1 F.2.1 dX4_readNeed_9 (by decide) (fun c => ?_) (fun c => ?_)
  · have h := op_t h c
    refine lv_aload_n F.1 F.2.1 dX4_readNeed_18 rfl (lv_at hl 0 rfl) ?_
    refine k_get F G 3 rfl (N := 6) (Tt := TX4) rfl kf4 1 (by decide) kl237 (v := .ref (aR 2)) rfl dX4_readNeed_19 ?_
    obtain ⟨ps_2, hc, h⟩ := op_b h
    refine k_callV (rv := none) (Wc := (gR T aR aD tx ps nm)) (W2 := (gR T aR aD tx ps_2 nm)) (Wn := (gR T aR aD tx ps_2 nm)) (As := []) (rest := []) F G (mX7_goToNext l D T aR aD tx ps nm hc) (cwV 0 F.2.2.2.2 (kg_c kl323 (kg_c kl256 (kg_c kl257 (kg_c kl236 (kg_c kl245 kg_a))))) rfl rfl rfl (by decide +kernel) ⟨Nat.le_of_ble_eq_true rfl, Nat.le_of_ble_eq_true rfl⟩) 2 rfl (q := (RX7, TX7, 4)) rfl rfl (kCut_F G) rfl hl.1 rfl (Nat.le_of_ble_eq_true rfl) dX4_readNeed_22 ⟨Nat.le_of_ble_eq_true rfl, Nat.le_of_ble_eq_true rfl⟩ (cN := 0) (sN := 0) ⟨rfl, rfl⟩ (fun H locs G => ?_)
    refine lv_aload_n F.1 F.2.1 dX4_readNeed_25 rfl (lv_at hl 0 rfl) ?_
    obtain ⟨r_3, ps_4, hc, h⟩ := op_b2 h
    refine k_callV (rv := (some (.int r_3))) (Wc := (gR T aR aD tx ps_2 nm)) (W2 := (gR T aR aD tx ps_4 nm)) (Wn := (gR T aR aD tx ps_4 nm)) (As := []) (rest := []) F G (mX4_readOutletName l D T aR aD tx ps_2 nm hc) (cwV 0 F.2.2.2.2 (kg_c kl374 (kg_c kl375 (kg_c kl376 (kg_c kl321 (kg_c kl369 kg_a))))) rfl rfl rfl (by decide +kernel) ⟨Nat.le_of_ble_eq_true rfl, Nat.le_of_ble_eq_true rfl⟩) 3 rfl (q := (RX4, TX4, 6)) rfl rfl (kCut_F G) rfl hl.1 rfl (Nat.le_of_ble_eq_true rfl) dX4_readNeed_26 ⟨Nat.le_of_ble_eq_true rfl, Nat.le_of_ble_eq_true rfl⟩ (cN := 0) (sN := 0) ⟨rfl, rfl⟩ (fun H locs G => ?_)
    refine lv_istore_n (lv' := [(1, .int r_3), (0, .ref (aR 3))]) F.1 F.2.1 dX4_readNeed_29 rfl hl (by decide) rfl (fun ls hl => ?_)
    refine lv_aload_n F.1 F.2.1 dX4_readNeed_30 rfl (lv_at hl 1 rfl) ?_
    refine k_get F G 3 rfl (N := 6) (Tt := TX4) rfl kf4 3 (by decide) kl313 (v := .int (ps_4 3 0)) rfl dX4_readNeed_31 ?_
    obtain ⟨j44, hj44, h⟩ := op_j h
    have J44 : ∀ (ps_5 : Nat → Nat → Int32) (H : Heap) (locs : List Loc) (ls : Array Slot), j44 ps_5 = some (psR) → Rg D T A st (gR T aR aD tx ps_5 nm) H locs → lv_has ls 3 [(0, .ref (aR 3)), (1, .int r_3)] → W pr l en rmX4_readNeed st mi ag bl me co H locs 0 0 (MQ bl (kQ none D (gR T aR aD tx psR nm) A) ag st rmX4_readNeed.cells rmX4_readNeed.slots A) (F0 mi 44 ls []) := by
      intro ps_5 H locs ls h G hl
      rw [hj44] at h
      refine lv_aload_n F.1 F.2.1 dX4_readNeed_44 rfl (lv_at hl 0 rfl) ?_
      obtain ⟨r_6, ps_7, hc, h⟩ := op_b2 h
      refine k_callV (rv := (some (.int r_6))) (Wc := (gR T aR aD tx ps_5 nm)) (W2 := (gR T aR aD tx ps_7 nm)) (Wn := (gR T aR aD tx ps_7 nm)) (As := []) (rest := []) F G (mX4_readOutletName l D T aR aD tx ps_5 nm hc) (cwV 0 F.2.2.2.2 (kg_c kl374 (kg_c kl375 (kg_c kl376 (kg_c kl321 (kg_c kl369 kg_a))))) rfl rfl rfl (by decide +kernel) ⟨Nat.le_of_ble_eq_true rfl, Nat.le_of_ble_eq_true rfl⟩) 3 rfl (q := (RX4, TX4, 6)) rfl rfl (kCut_F G) rfl hl.1 rfl (Nat.le_of_ble_eq_true rfl) dX4_readNeed_45 ⟨Nat.le_of_ble_eq_true rfl, Nat.le_of_ble_eq_true rfl⟩ (cN := 0) (sN := 0) ⟨rfl, rfl⟩ (fun H locs G => ?_)
      refine lv_istore_n (lv' := [(2, .int r_6), (0, .ref (aR 3)), (1, .int r_3)]) F.1 F.2.1 dX4_readNeed_48 rfl hl (by decide) rfl (fun ls hl => ?_)
      refine lv_aload_n F.1 F.2.1 dX4_readNeed_49 rfl (lv_at hl 1 rfl) ?_
      refine k_get F G 3 rfl (N := 6) (Tt := TX4) rfl kf4 3 (by decide) kl313 (v := .int (ps_7 3 0)) rfl dX4_readNeed_50 ?_
      refine lv_if_ne (tgt := 66) F.1 F.2.1 dX4_readNeed_53 (by decide) (fun c => ?_) (fun c => ?_)
      · have h := op_f h c
        obtain rfl := op_1 h
        exact k_vret F hr hlk G dX4_readNeed_66
      · have h := op_t h c
        refine lv_iload_n F.1 F.2.1 dX4_readNeed_56 rfl (lv_at hl 2 rfl) ?_
        refine lv_iconst (v := (-1)) F.1 F.2.1 dX4_readNeed_57 (by decide) ?_
        refine lv_icmp_eq (tgt := 66) F.1 F.2.1 dX4_readNeed_58 (by decide) (fun c => ?_) (fun c => ?_)
        · have h := op_t h c
          obtain rfl := op_1 h
          exact k_vret F hr hlk G dX4_readNeed_66
        · have h := op_f h c
          refine lv_iload_n F.1 F.2.1 dX4_readNeed_61 rfl (lv_at hl 0 rfl) ?_
          refine lv_iconst (v := (-1)) F.1 F.2.1 dX4_readNeed_62 (by decide) ?_
          refine lv_icmp_ne (tgt := 67) F.1 F.2.1 dX4_readNeed_63 (by decide) (fun c => ?_) (fun c => ?_)
          · have h := op_f h c
            refine lv_iload_n F.1 F.2.1 dX4_readNeed_67 rfl (lv_at hl 0 rfl) ?_
            refine lv_iload_n F.1 F.2.1 dX4_readNeed_68 rfl (lv_at hl 2 rfl) ?_
            obtain ⟨j88, hj88, h⟩ := op_j h
            have J88 : ∀ (H : Heap) (locs : List Loc) (ls : Array Slot), j88 () = some (psR) → Rg D T A st (gR T aR aD tx ps_7 nm) H locs → lv_has ls 3 [(0, .ref (aR 3))] → W pr l en rmX4_readNeed st mi ag bl me co H locs 0 0 (MQ bl (kQ none D (gR T aR aD tx psR nm) A) ag st rmX4_readNeed.cells rmX4_readNeed.slots A) (F0 mi 88 ls []) := by
              intro H locs ls h G hl
              rw [hj88] at h
              refine lv_aload_n F.1 F.2.1 dX4_readNeed_88 rfl (lv_at hl 0 rfl) ?_
              refine lv_iconst (v := 3) F.1 F.2.1 dX4_readNeed_89 (by decide) ?_
              obtain ⟨ps_8, hc, h⟩ := op_b h
              refine k_callV (rv := none) (Wc := (gR T aR aD tx ps_7 nm)) (W2 := (gR T aR aD tx ps_8 nm)) (Wn := (gR T aR aD tx ps_8 nm)) (As := [.int 3]) (rest := []) F G (mX4_stopAt l D T aR aD tx ps_7 nm 3 hc) (cwV 1 F.2.2.2.2 (kg_c kl318 (kg_c kl319 (kg_c kl320 (kg_c kl321 (kg_c kl312 kg_a))))) rfl rfl rfl (by decide +kernel) ⟨Nat.le_of_ble_eq_true rfl, Nat.le_of_ble_eq_true rfl⟩) 3 rfl (q := (RX4, TX4, 6)) rfl rfl (kCut_F G) rfl hl.1 rfl (Nat.le_of_ble_eq_true rfl) dX4_readNeed_90 ⟨Nat.le_of_ble_eq_true rfl, Nat.le_of_ble_eq_true rfl⟩ (cN := 0) (sN := 0) ⟨rfl, rfl⟩ (fun H locs G => ?_)
              obtain rfl := op_1 h
              exact k_vret F hr hlk G dX4_readNeed_93
            clear hj88
            refine lv_icmp_eq (tgt := 88) F.1 F.2.1 dX4_readNeed_69 (by decide) (fun c => ?_) (fun c => ?_)
            · have h := op_t h c
              exact J88 _ _ _ h G (lv_sub hl [1] rfl)
            · have h := op_f h c
              refine lv_aload_n F.1 F.2.1 dX4_readNeed_72 rfl (lv_at hl 1 rfl) ?_
              refine k_get F G 3 rfl (N := 6) (Tt := TX4) rfl kf4 2 (by decide) kl231 (v := .ref (aD 0)) rfl dX4_readNeed_73 ?_
              refine k_get F G 4 rfl (N := 18) (Tt := TX5) rfl kf5 7 (by decide) kl357 (v := .ref (aD 6)) rfl dX4_readNeed_76 ?_
              refine lv_iload_n F.1 F.2.1 dX4_readNeed_79 rfl (lv_at hl 2 rfl) ?_
              obtain ⟨c, h⟩ := op_g h
              refine k_iald F G 10 rfl c dX4_readNeed_80 ?_
              refine lv_iload_n F.1 F.2.1 dX4_readNeed_81 rfl (lv_at hl 0 rfl) ?_
              obtain ⟨r_9, hc, h⟩ := op_b h
              refine k_callSN (rv := (some (.int r_9))) (Wc := ([] : va_W)) (W2 := ([] : va_W)) (Wn := (gR T aR aD tx ps_7 nm)) (As := [.int ((ps_7 20) r_3.toNatClampNeg), .int r_6]) (rest := []) F G (mX10_isIn l D T ((ps_7 20) r_3.toNatClampNeg) r_6 hc) ⟨va_cnB 2 F.2.2.2.2 (kg_c kl119 kg_a) rfl rfl rfl (k_nest G 8 rfl) (F.2.2.2.2 _ kl80) (by decide +kernel) ⟨Nat.le_of_ble_eq_true rfl, Nat.le_of_ble_eq_true rfl⟩, F.2.2.2.2 _ kl122⟩ (kCut_0 G) rfl hl.1 rfl (Nat.le_of_ble_eq_true rfl) dX4_readNeed_82 ⟨Nat.le_of_ble_eq_true rfl, Nat.le_of_ble_eq_true rfl⟩ (cN := 0) (sN := 0) ⟨rfl, rfl⟩ (fun H locs G => ?_)
              refine lv_if_eq (tgt := 94) F.1 F.2.1 dX4_readNeed_85 (by decide) (fun c => ?_) (fun c => ?_)
              · have h := op_t h c
                refine lv_aload_n F.1 F.2.1 dX4_readNeed_94 rfl (lv_at hl 1 rfl) ?_
                refine k_get F G 3 rfl (N := 6) (Tt := TX4) rfl kf4 2 (by decide) kl231 (v := .ref (aD 0)) rfl dX4_readNeed_95 ?_
                refine k_get F G 4 rfl (N := 18) (Tt := TX5) rfl kf5 7 (by decide) kl357 (v := .ref (aD 6)) rfl dX4_readNeed_98 ?_
                refine lv_iload_n F.1 F.2.1 dX4_readNeed_101 rfl (lv_at hl 2 rfl) ?_
                refine lv_dup2_11 F.1 F.2.1 dX4_readNeed_102 rfl rfl ?_
                obtain ⟨c, h⟩ := op_g h
                refine k_iald F G 10 rfl c dX4_readNeed_103 ?_
                refine lv_iconst (v := 1) F.1 F.2.1 dX4_readNeed_104 (by decide) ?_
                refine lv_iload_n F.1 F.2.1 dX4_readNeed_105 rfl (lv_at hl 0 rfl) ?_
                refine lv_ishl F.1 F.2.1 dX4_readNeed_106 ?_
                refine lv_ior F.1 F.2.1 dX4_readNeed_107 ?_
                obtain ⟨c, h⟩ := op_g h
                obtain ⟨ps_10, e9, h⟩ := op_st h
                refine k_iast F G 10 rfl c dX4_readNeed_108 (Wn := (gR T aR aD tx ps_10 nm)) (by subst e9; rfl) (fun H locs G => ?_)
                clear e9
                refine lv_aload_n F.1 F.2.1 dX4_readNeed_109 rfl (lv_at hl 1 rfl) ?_
                refine k_get F G 3 rfl (N := 6) (Tt := TX4) rfl kf4 1 (by decide) kl237 (v := .ref (aR 2)) rfl dX4_readNeed_110 ?_
                obtain ⟨ps_11, hc, h⟩ := op_b h
                refine k_callV (rv := none) (Wc := (gR T aR aD tx ps_10 nm)) (W2 := (gR T aR aD tx ps_11 nm)) (Wn := (gR T aR aD tx ps_11 nm)) (As := []) (rest := []) F G (mX7_goToNext l D T aR aD tx ps_10 nm hc) (cwV 0 F.2.2.2.2 (kg_c kl323 (kg_c kl256 (kg_c kl257 (kg_c kl236 (kg_c kl245 kg_a))))) rfl rfl rfl (by decide +kernel) ⟨Nat.le_of_ble_eq_true rfl, Nat.le_of_ble_eq_true rfl⟩) 2 rfl (q := (RX7, TX7, 4)) rfl rfl (kCut_F G) rfl hl.1 rfl (Nat.le_of_ble_eq_true rfl) dX4_readNeed_113 ⟨Nat.le_of_ble_eq_true rfl, Nat.le_of_ble_eq_true rfl⟩ (cN := 0) (sN := 0) ⟨rfl, rfl⟩ (fun H locs G => ?_)
                obtain rfl := op_1 h
                exact k_vret F hr hlk G dX4_readNeed_116
              · have h := op_f h c
                exact J88 _ _ _ h G (lv_sub hl [1] rfl)
          · have h := op_t h c
            obtain rfl := op_1 h
            exact k_vret F hr hlk G dX4_readNeed_66
    clear hj44
    refine lv_if_ne (tgt := 44) F.1 F.2.1 dX4_readNeed_34 (by decide) (fun c => ?_) (fun c => ?_)
    · have h := op_f h c
      exact J44 ps_4 _ _ _ h G (lv_sub hl [1, 0] rfl)
    · have h := op_t h c
      refine lv_aload_n F.1 F.2.1 dX4_readNeed_37 rfl (lv_at hl 1 rfl) ?_
      refine k_get F G 3 rfl (N := 6) (Tt := TX4) rfl kf4 1 (by decide) kl237 (v := .ref (aR 2)) rfl dX4_readNeed_38 ?_
      obtain ⟨ps_12, hc, h⟩ := op_b h
      refine k_callV (rv := none) (Wc := (gR T aR aD tx ps_4 nm)) (W2 := (gR T aR aD tx ps_12 nm)) (Wn := (gR T aR aD tx ps_12 nm)) (As := []) (rest := []) F G (mX7_goToNext l D T aR aD tx ps_4 nm hc) (cwV 0 F.2.2.2.2 (kg_c kl323 (kg_c kl256 (kg_c kl257 (kg_c kl236 (kg_c kl245 kg_a))))) rfl rfl rfl (by decide +kernel) ⟨Nat.le_of_ble_eq_true rfl, Nat.le_of_ble_eq_true rfl⟩) 2 rfl (q := (RX7, TX7, 4)) rfl rfl (kCut_F G) rfl hl.1 rfl (Nat.le_of_ble_eq_true rfl) dX4_readNeed_41 ⟨Nat.le_of_ble_eq_true rfl, Nat.le_of_ble_eq_true rfl⟩ (cN := 0) (sN := 0) ⟨rfl, rfl⟩ (fun H locs G => ?_)
      exact J44 ps_12 _ _ _ h G (lv_sub hl [1, 0] rfl)
  · have h := op_f h c
    refine lv_aload_n F.1 F.2.1 dX4_readNeed_12 rfl (lv_at hl 0 rfl) ?_
    refine lv_iconst (v := 5) F.1 F.2.1 dX4_readNeed_13 (by decide) ?_
    obtain ⟨ps_13, hc, h⟩ := op_b h
    refine k_callV (rv := none) (Wc := (gR T aR aD tx ps nm)) (W2 := (gR T aR aD tx ps_13 nm)) (Wn := (gR T aR aD tx ps_13 nm)) (As := [.int 5]) (rest := []) F G (mX4_stopAt l D T aR aD tx ps nm 5 hc) (cwV 1 F.2.2.2.2 (kg_c kl318 (kg_c kl319 (kg_c kl320 (kg_c kl321 (kg_c kl312 kg_a))))) rfl rfl rfl (by decide +kernel) ⟨Nat.le_of_ble_eq_true rfl, Nat.le_of_ble_eq_true rfl⟩) 3 rfl (q := (RX4, TX4, 6)) rfl rfl (kCut_F G) rfl hl.1 rfl (Nat.le_of_ble_eq_true rfl) dX4_readNeed_14 ⟨Nat.le_of_ble_eq_true rfl, Nat.le_of_ble_eq_true rfl⟩ (cN := 0) (sN := 0) ⟨rfl, rfl⟩ (fun H locs G => ?_)
    obtain rfl := op_1 h
    exact k_vret F hr hlk G dX4_readNeed_17
abbrev rmX4_readRule : Room := ({ frames := 6, cells := 0, slots := 0, locals := 133 } : Room)
noncomputable def qX4_readRule (tx : Nat → Nat → Int32) (ps : Nat → Nat → Int32) (nm : Nat → Int64) : Option ((Nat → Nat → Int32)) :=
  bd (qX7_isWord tx ps nm 3) fun r_1 => if r_1 = 0 then bd (qX7_isWord tx ps nm 4) fun r_2 => if r_2 = 0 then bd (qX7_isWord tx ps nm 5) fun r_3 => if r_3 = 0 then bd (qX7_isWord tx ps nm 6) fun r_4 => if r_4 = 0 then bd (qX7_isWord tx ps nm 7) fun r_5 => if r_5 = 0 then bd (qX7_isWord tx ps nm 8) fun r_6 => if r_6 = 0 then bd (qX4_stopAt tx ps nm 1) fun ps_7 => some ps_7 else bd (qX4_readDark tx ps nm) fun ps_8 => some ps_8 else bd (qX4_readOff tx ps nm) fun ps_9 => some ps_9 else bd2 (qX4_passOnce tx ps nm 8) fun r_10 ps_11 => gd (narrow .boolean (.int r_10) = .int r_10 ∧ fits .boolean (.int r_10) = true) (bs (va_up ps_11 11 (fun _ => r_10)) fun ps_12 => some ps_12) else bd2 (qX4_passOnce tx ps nm 4) fun r_13 ps_14 => if r_13 = 0 then some ps_14 else bd2 (qX4_readNumber tx ps_14 nm 2 20) fun r_15 ps_16 => (bs (va_up ps_16 10 (fun _ => r_15)) fun ps_17 => some ps_17) else bd2 (qX4_passOnce tx ps nm 2) fun r_18 ps_19 => if r_18 = 0 then some ps_19 else bd2 (qX4_readNumber tx ps_19 nm 1 20) fun r_20 ps_21 => (bs (va_up ps_21 9 (fun _ => r_20)) fun ps_22 => some ps_22) else bd2 (qX4_passOnce tx ps nm 1) fun r_23 ps_24 => if r_23 = 0 then some ps_24 else bd (qX4_readScript tx ps_24 nm) fun ps_25 => some ps_25

set_option maxHeartbeats 4000000 in
set_option maxRecDepth 100000 in
theorem mX4_readRule (l : Launch) (D : va_G) (T : Nat → ClassId) (aR : Nat → Nat) (aD : Nat → Nat) (tx : Nat → Nat → Int32) (ps : Nat → Nat → Int32) (nm : Nat → Int64) {psR : Nat → Nat → Int32} (hres : qX4_readRule tx ps nm = some (psR)) : Ct l yX4_readRule (Cond.code yX4_readRule cX4_readRule 1 none :: kAll) rmX4_readRule D T [.ref (aR 3)] (gR T aR aD tx ps nm) none (gR T aR aD tx psR nm) := by
  refine Ct.of (cc := cX4_readRule) (maxL := 1) (ret := none) (by decide +kernel) rfl (Nat.le_of_ble_eq_true rfl) ?_
  intro pr en st mi ag bl me co A ls F hr hlk hnm G hl
  have hl : lv_has ls 1 [(0, .ref (aR 3))] := hl
  have h := hres
  unfold qX4_readRule at h
  refine lv_aload_n F.1 F.2.1 dX4_readRule_0 rfl (lv_at hl 0 rfl) ?_
  refine k_get F G 3 rfl (N := 6) (Tt := TX4) rfl kf4 1 (by decide) kl237 (v := .ref (aR 2)) rfl dX4_readRule_1 ?_
  refine va_ldcS (own := RX4) (index := 132) (tx := "loss") (q := T (100 + 3)) F.1 F.2.1 F.2.2.2.1 (k_refE G 3 rfl) dX4_readRule_4 ?_
  obtain ⟨r_1, hc, h⟩ := op_b h
  refine k_callV (rv := (some (.int r_1))) (Wc := (gR T aR aD tx ps nm)) (W2 := (gR T aR aD tx ps nm)) (Wn := (gR T aR aD tx ps nm)) (As := [.ref (T (100 + 3))]) (rest := []) F G (mX7_isWord l D T aR aD tx ps nm 3 (by decide) hc) (cwV 1 F.2.2.2.2 (kg_c kl327 (kg_c kl328 (kg_c kl329 (kg_c kl236 (kg_c kl302 kg_a))))) rfl rfl rfl (by decide +kernel) ⟨Nat.le_of_ble_eq_true rfl, Nat.le_of_ble_eq_true rfl⟩) 2 rfl (q := (RX7, TX7, 4)) rfl rfl (kCut_F G) rfl hl.1 rfl (Nat.le_of_ble_eq_true rfl) dX4_readRule_6 ⟨Nat.le_of_ble_eq_true rfl, Nat.le_of_ble_eq_true rfl⟩ (cN := 0) (sN := 0) ⟨rfl, rfl⟩ (fun H locs G => ?_)
  refine lv_if_eq (tgt := 27) F.1 F.2.1 dX4_readRule_9 (by decide) (fun c => ?_) (fun c => ?_)
  · have h := op_t h c
    refine lv_aload_n F.1 F.2.1 dX4_readRule_27 rfl (lv_at hl 0 rfl) ?_
    refine k_get F G 3 rfl (N := 6) (Tt := TX4) rfl kf4 1 (by decide) kl237 (v := .ref (aR 2)) rfl dX4_readRule_28 ?_
    refine va_ldcS (own := RX4) (index := 141) (tx := "retry") (q := T (100 + 4)) F.1 F.2.1 F.2.2.2.1 (k_refE G 4 rfl) dX4_readRule_31 ?_
    obtain ⟨r_2, hc, h⟩ := op_b h
    refine k_callV (rv := (some (.int r_2))) (Wc := (gR T aR aD tx ps nm)) (W2 := (gR T aR aD tx ps nm)) (Wn := (gR T aR aD tx ps nm)) (As := [.ref (T (100 + 4))]) (rest := []) F G (mX7_isWord l D T aR aD tx ps nm 4 (by decide) hc) (cwV 1 F.2.2.2.2 (kg_c kl327 (kg_c kl328 (kg_c kl329 (kg_c kl236 (kg_c kl302 kg_a))))) rfl rfl rfl (by decide +kernel) ⟨Nat.le_of_ble_eq_true rfl, Nat.le_of_ble_eq_true rfl⟩) 2 rfl (q := (RX7, TX7, 4)) rfl rfl (kCut_F G) rfl hl.1 rfl (Nat.le_of_ble_eq_true rfl) dX4_readRule_33 ⟨Nat.le_of_ble_eq_true rfl, Nat.le_of_ble_eq_true rfl⟩ (cN := 0) (sN := 0) ⟨rfl, rfl⟩ (fun H locs G => ?_)
    refine lv_if_eq (tgt := 64) F.1 F.2.1 dX4_readRule_36 (by decide) (fun c => ?_) (fun c => ?_)
    · have h := op_t h c
      refine lv_aload_n F.1 F.2.1 dX4_readRule_64 rfl (lv_at hl 0 rfl) ?_
      refine k_get F G 3 rfl (N := 6) (Tt := TX4) rfl kf4 1 (by decide) kl237 (v := .ref (aR 2)) rfl dX4_readRule_65 ?_
      refine va_ldcS (own := RX4) (index := 145) (tx := "patience") (q := T (100 + 5)) F.1 F.2.1 F.2.2.2.1 (k_refE G 5 rfl) dX4_readRule_68 ?_
      obtain ⟨r_3, hc, h⟩ := op_b h
      refine k_callV (rv := (some (.int r_3))) (Wc := (gR T aR aD tx ps nm)) (W2 := (gR T aR aD tx ps nm)) (Wn := (gR T aR aD tx ps nm)) (As := [.ref (T (100 + 5))]) (rest := []) F G (mX7_isWord l D T aR aD tx ps nm 5 (by decide) hc) (cwV 1 F.2.2.2.2 (kg_c kl327 (kg_c kl328 (kg_c kl329 (kg_c kl236 (kg_c kl302 kg_a))))) rfl rfl rfl (by decide +kernel) ⟨Nat.le_of_ble_eq_true rfl, Nat.le_of_ble_eq_true rfl⟩) 2 rfl (q := (RX7, TX7, 4)) rfl rfl (kCut_F G) rfl hl.1 rfl (Nat.le_of_ble_eq_true rfl) dX4_readRule_70 ⟨Nat.le_of_ble_eq_true rfl, Nat.le_of_ble_eq_true rfl⟩ (cN := 0) (sN := 0) ⟨rfl, rfl⟩ (fun H locs G => ?_)
      refine lv_if_eq (tgt := 101) F.1 F.2.1 dX4_readRule_73 (by decide) (fun c => ?_) (fun c => ?_)
      · have h := op_t h c
        refine lv_aload_n F.1 F.2.1 dX4_readRule_101 rfl (lv_at hl 0 rfl) ?_
        refine k_get F G 3 rfl (N := 6) (Tt := TX4) rfl kf4 1 (by decide) kl237 (v := .ref (aR 2)) rfl dX4_readRule_102 ?_
        refine va_ldcS (own := RX4) (index := 149) (tx := "strict") (q := T (100 + 6)) F.1 F.2.1 F.2.2.2.1 (k_refE G 6 rfl) dX4_readRule_105 ?_
        obtain ⟨r_4, hc, h⟩ := op_b h
        refine k_callV (rv := (some (.int r_4))) (Wc := (gR T aR aD tx ps nm)) (W2 := (gR T aR aD tx ps nm)) (Wn := (gR T aR aD tx ps nm)) (As := [.ref (T (100 + 6))]) (rest := []) F G (mX7_isWord l D T aR aD tx ps nm 6 (by decide) hc) (cwV 1 F.2.2.2.2 (kg_c kl327 (kg_c kl328 (kg_c kl329 (kg_c kl236 (kg_c kl302 kg_a))))) rfl rfl rfl (by decide +kernel) ⟨Nat.le_of_ble_eq_true rfl, Nat.le_of_ble_eq_true rfl⟩) 2 rfl (q := (RX7, TX7, 4)) rfl rfl (kCut_F G) rfl hl.1 rfl (Nat.le_of_ble_eq_true rfl) dX4_readRule_107 ⟨Nat.le_of_ble_eq_true rfl, Nat.le_of_ble_eq_true rfl⟩ (cN := 0) (sN := 0) ⟨rfl, rfl⟩ (fun H locs G => ?_)
        refine lv_if_eq (tgt := 129) F.1 F.2.1 dX4_readRule_110 (by decide) (fun c => ?_) (fun c => ?_)
        · have h := op_t h c
          refine lv_aload_n F.1 F.2.1 dX4_readRule_129 rfl (lv_at hl 0 rfl) ?_
          refine k_get F G 3 rfl (N := 6) (Tt := TX4) rfl kf4 1 (by decide) kl237 (v := .ref (aR 2)) rfl dX4_readRule_130 ?_
          refine va_ldcS (own := RX4) (index := 155) (tx := "off") (q := T (100 + 7)) F.1 F.2.1 F.2.2.2.1 (k_refE G 7 rfl) dX4_readRule_133 ?_
          obtain ⟨r_5, hc, h⟩ := op_b h
          refine k_callV (rv := (some (.int r_5))) (Wc := (gR T aR aD tx ps nm)) (W2 := (gR T aR aD tx ps nm)) (Wn := (gR T aR aD tx ps nm)) (As := [.ref (T (100 + 7))]) (rest := []) F G (mX7_isWord l D T aR aD tx ps nm 7 (by decide) hc) (cwV 1 F.2.2.2.2 (kg_c kl327 (kg_c kl328 (kg_c kl329 (kg_c kl236 (kg_c kl302 kg_a))))) rfl rfl rfl (by decide +kernel) ⟨Nat.le_of_ble_eq_true rfl, Nat.le_of_ble_eq_true rfl⟩) 2 rfl (q := (RX7, TX7, 4)) rfl rfl (kCut_F G) rfl hl.1 rfl (Nat.le_of_ble_eq_true rfl) dX4_readRule_135 ⟨Nat.le_of_ble_eq_true rfl, Nat.le_of_ble_eq_true rfl⟩ (cN := 0) (sN := 0) ⟨rfl, rfl⟩ (fun H locs G => ?_)
          refine lv_if_eq (tgt := 148) F.1 F.2.1 dX4_readRule_138 (by decide) (fun c => ?_) (fun c => ?_)
          · have h := op_t h c
            refine lv_aload_n F.1 F.2.1 dX4_readRule_148 rfl (lv_at hl 0 rfl) ?_
            refine k_get F G 3 rfl (N := 6) (Tt := TX4) rfl kf4 1 (by decide) kl237 (v := .ref (aR 2)) rfl dX4_readRule_149 ?_
            refine va_ldcS (own := RX4) (index := 160) (tx := "dark") (q := T (100 + 8)) F.1 F.2.1 F.2.2.2.1 (k_refE G 8 rfl) dX4_readRule_152 ?_
            obtain ⟨r_6, hc, h⟩ := op_b h
            refine k_callV (rv := (some (.int r_6))) (Wc := (gR T aR aD tx ps nm)) (W2 := (gR T aR aD tx ps nm)) (Wn := (gR T aR aD tx ps nm)) (As := [.ref (T (100 + 8))]) (rest := []) F G (mX7_isWord l D T aR aD tx ps nm 8 (by decide) hc) (cwV 1 F.2.2.2.2 (kg_c kl327 (kg_c kl328 (kg_c kl329 (kg_c kl236 (kg_c kl302 kg_a))))) rfl rfl rfl (by decide +kernel) ⟨Nat.le_of_ble_eq_true rfl, Nat.le_of_ble_eq_true rfl⟩) 2 rfl (q := (RX7, TX7, 4)) rfl rfl (kCut_F G) rfl hl.1 rfl (Nat.le_of_ble_eq_true rfl) dX4_readRule_154 ⟨Nat.le_of_ble_eq_true rfl, Nat.le_of_ble_eq_true rfl⟩ (cN := 0) (sN := 0) ⟨rfl, rfl⟩ (fun H locs G => ?_)
            refine lv_if_eq (tgt := 167) F.1 F.2.1 dX4_readRule_157 (by decide) (fun c => ?_) (fun c => ?_)
            · have h := op_t h c
              refine lv_aload_n F.1 F.2.1 dX4_readRule_167 rfl (lv_at hl 0 rfl) ?_
              refine lv_iconst (v := 1) F.1 F.2.1 dX4_readRule_168 (by decide) ?_
              obtain ⟨ps_7, hc, h⟩ := op_b h
              refine k_callV (rv := none) (Wc := (gR T aR aD tx ps nm)) (W2 := (gR T aR aD tx ps_7 nm)) (Wn := (gR T aR aD tx ps_7 nm)) (As := [.int 1]) (rest := []) F G (mX4_stopAt l D T aR aD tx ps nm 1 hc) (cwV 1 F.2.2.2.2 (kg_c kl318 (kg_c kl319 (kg_c kl320 (kg_c kl321 (kg_c kl312 kg_a))))) rfl rfl rfl (by decide +kernel) ⟨Nat.le_of_ble_eq_true rfl, Nat.le_of_ble_eq_true rfl⟩) 3 rfl (q := (RX4, TX4, 6)) rfl rfl (kCut_F G) rfl hl.1 rfl (Nat.le_of_ble_eq_true rfl) dX4_readRule_169 ⟨Nat.le_of_ble_eq_true rfl, Nat.le_of_ble_eq_true rfl⟩ (cN := 0) (sN := 0) ⟨rfl, rfl⟩ (fun H locs G => ?_)
              obtain rfl := op_1 h
              exact k_vret F hr hlk G dX4_readRule_172
            · have h := op_f h c
              refine lv_aload_n F.1 F.2.1 dX4_readRule_160 rfl (lv_at hl 0 rfl) ?_
              obtain ⟨ps_8, hc, h⟩ := op_b h
              refine k_callV (rv := none) (Wc := (gR T aR aD tx ps nm)) (W2 := (gR T aR aD tx ps_8 nm)) (Wn := (gR T aR aD tx ps_8 nm)) (As := []) (rest := []) F G (mX4_readDark l D T aR aD tx ps nm hc) (cwV 0 F.2.2.2.2 (kg_c kl401 (kg_c kl402 (kg_c kl403 (kg_c kl321 (kg_c kl384 kg_a))))) rfl rfl rfl (by decide +kernel) ⟨Nat.le_of_ble_eq_true rfl, Nat.le_of_ble_eq_true rfl⟩) 3 rfl (q := (RX4, TX4, 6)) rfl rfl (kCut_F G) rfl hl.1 rfl (Nat.le_of_ble_eq_true rfl) dX4_readRule_161 ⟨Nat.le_of_ble_eq_true rfl, Nat.le_of_ble_eq_true rfl⟩ (cN := 0) (sN := 0) ⟨rfl, rfl⟩ (fun H locs G => ?_)
              refine lv_goto (tgt := 172) F.1 F.2.1 dX4_readRule_164 (by decide) ?_
              obtain rfl := op_1 h
              exact k_vret F hr hlk G dX4_readRule_172
          · have h := op_f h c
            refine lv_aload_n F.1 F.2.1 dX4_readRule_141 rfl (lv_at hl 0 rfl) ?_
            obtain ⟨ps_9, hc, h⟩ := op_b h
            refine k_callV (rv := none) (Wc := (gR T aR aD tx ps nm)) (W2 := (gR T aR aD tx ps_9 nm)) (Wn := (gR T aR aD tx ps_9 nm)) (As := []) (rest := []) F G (mX4_readOff l D T aR aD tx ps nm hc) (cwV 0 F.2.2.2.2 (kg_c kl398 (kg_c kl399 (kg_c kl400 (kg_c kl321 (kg_c kl382 kg_a))))) rfl rfl rfl (by decide +kernel) ⟨Nat.le_of_ble_eq_true rfl, Nat.le_of_ble_eq_true rfl⟩) 3 rfl (q := (RX4, TX4, 6)) rfl rfl (kCut_F G) rfl hl.1 rfl (Nat.le_of_ble_eq_true rfl) dX4_readRule_142 ⟨Nat.le_of_ble_eq_true rfl, Nat.le_of_ble_eq_true rfl⟩ (cN := 0) (sN := 0) ⟨rfl, rfl⟩ (fun H locs G => ?_)
            refine lv_goto (tgt := 172) F.1 F.2.1 dX4_readRule_145 (by decide) ?_
            obtain rfl := op_1 h
            exact k_vret F hr hlk G dX4_readRule_172
        · have h := op_f h c
          refine lv_aload_n F.1 F.2.1 dX4_readRule_113 rfl (lv_at hl 0 rfl) ?_
          refine k_get F G 3 rfl (N := 6) (Tt := TX4) rfl kf4 2 (by decide) kl231 (v := .ref (aD 0)) rfl dX4_readRule_114 ?_
          refine lv_aload_n F.1 F.2.1 dX4_readRule_117 rfl (lv_at hl 0 rfl) ?_
          refine lv_bipush (v := 8) F.1 F.2.1 dX4_readRule_118 (by decide) ?_
          obtain ⟨r_10, ps_11, hc, h⟩ := op_b2 h
          refine k_callV (rv := (some (.int r_10))) (Wc := (gR T aR aD tx ps nm)) (W2 := (gR T aR aD tx ps_11 nm)) (Wn := (gR T aR aD tx ps_11 nm)) (As := [.int 8]) (rest := [.ref (aD 0)]) F G (mX4_passOnce l D T aR aD tx ps nm 8 hc) (cwV 1 F.2.2.2.2 (kg_c kl392 (kg_c kl393 (kg_c kl394 (kg_c kl321 (kg_c kl377 kg_a))))) rfl rfl rfl (by decide +kernel) ⟨Nat.le_of_ble_eq_true rfl, Nat.le_of_ble_eq_true rfl⟩) 3 rfl (q := (RX4, TX4, 6)) rfl rfl (kCut_F G) rfl hl.1 rfl (Nat.le_of_ble_eq_true rfl) dX4_readRule_120 ⟨Nat.le_of_ble_eq_true rfl, Nat.le_of_ble_eq_true rfl⟩ (cN := 0) (sN := 0) ⟨rfl, rfl⟩ (fun H locs G => ?_)
          obtain ⟨c, h⟩ := op_g h
          obtain ⟨ps_12, e9, h⟩ := op_st h
          refine k_put F G 4 rfl (N := 18) (Tt := TX5) rfl kf5 tyX5_ok nmX5 12 (by decide) kl391 rfl (v := .int r_10) c.1 c.2 (Nat.le_of_ble_eq_true rfl) dX4_readRule_123 (Wn := (gR T aR aD tx ps_12 nm)) (by subst e9; rfl) (fun H locs G => ?_)
          clear e9
          refine lv_goto (tgt := 172) F.1 F.2.1 dX4_readRule_126 (by decide) ?_
          obtain rfl := op_1 h
          exact k_vret F hr hlk G dX4_readRule_172
      · have h := op_f h c
        refine lv_aload_n F.1 F.2.1 dX4_readRule_76 rfl (lv_at hl 0 rfl) ?_
        refine lv_iconst (v := 4) F.1 F.2.1 dX4_readRule_77 (by decide) ?_
        obtain ⟨r_13, ps_14, hc, h⟩ := op_b2 h
        refine k_callV (rv := (some (.int r_13))) (Wc := (gR T aR aD tx ps nm)) (W2 := (gR T aR aD tx ps_14 nm)) (Wn := (gR T aR aD tx ps_14 nm)) (As := [.int 4]) (rest := []) F G (mX4_passOnce l D T aR aD tx ps nm 4 hc) (cwV 1 F.2.2.2.2 (kg_c kl392 (kg_c kl393 (kg_c kl394 (kg_c kl321 (kg_c kl377 kg_a))))) rfl rfl rfl (by decide +kernel) ⟨Nat.le_of_ble_eq_true rfl, Nat.le_of_ble_eq_true rfl⟩) 3 rfl (q := (RX4, TX4, 6)) rfl rfl (kCut_F G) rfl hl.1 rfl (Nat.le_of_ble_eq_true rfl) dX4_readRule_78 ⟨Nat.le_of_ble_eq_true rfl, Nat.le_of_ble_eq_true rfl⟩ (cN := 0) (sN := 0) ⟨rfl, rfl⟩ (fun H locs G => ?_)
        refine lv_if_eq (tgt := 172) F.1 F.2.1 dX4_readRule_81 (by decide) (fun c => ?_) (fun c => ?_)
        · have h := op_t h c
          obtain rfl := op_1 h
          exact k_vret F hr hlk G dX4_readRule_172
        · have h := op_f h c
          refine lv_aload_n F.1 F.2.1 dX4_readRule_84 rfl (lv_at hl 0 rfl) ?_
          refine k_get F G 3 rfl (N := 6) (Tt := TX4) rfl kf4 2 (by decide) kl231 (v := .ref (aD 0)) rfl dX4_readRule_85 ?_
          refine lv_aload_n F.1 F.2.1 dX4_readRule_88 rfl (lv_at hl 0 rfl) ?_
          refine lv_iconst (v := 2) F.1 F.2.1 dX4_readRule_89 (by decide) ?_
          refine lv_bipush (v := 20) F.1 F.2.1 dX4_readRule_90 (by decide) ?_
          obtain ⟨r_15, ps_16, hc, h⟩ := op_b2 h
          refine k_callV (rv := (some (.int r_15))) (Wc := (gR T aR aD tx ps_14 nm)) (W2 := (gR T aR aD tx ps_16 nm)) (Wn := (gR T aR aD tx ps_16 nm)) (As := [.int 2, .int 20]) (rest := [.ref (aD 0)]) F G (mX4_readNumber l D T aR aD tx ps_14 nm 2 20 hc) (cwV 2 F.2.2.2.2 (kg_c kl330 (kg_c kl331 (kg_c kl332 (kg_c kl321 (kg_c kl315 kg_a))))) rfl rfl rfl (by decide +kernel) ⟨Nat.le_of_ble_eq_true rfl, Nat.le_of_ble_eq_true rfl⟩) 3 rfl (q := (RX4, TX4, 6)) rfl rfl (kCut_F G) rfl hl.1 rfl (Nat.le_of_ble_eq_true rfl) dX4_readRule_92 ⟨Nat.le_of_ble_eq_true rfl, Nat.le_of_ble_eq_true rfl⟩ (cN := 0) (sN := 0) ⟨rfl, rfl⟩ (fun H locs G => ?_)
          obtain ⟨ps_17, e9, h⟩ := op_st h
          refine k_put F G 4 rfl (N := 18) (Tt := TX5) rfl kf5 tyX5_ok nmX5 11 (by decide) kl390 rfl (v := .int r_15) rfl rfl (Nat.le_of_ble_eq_true rfl) dX4_readRule_95 (Wn := (gR T aR aD tx ps_17 nm)) (by subst e9; rfl) (fun H locs G => ?_)
          clear e9
          refine lv_goto (tgt := 172) F.1 F.2.1 dX4_readRule_98 (by decide) ?_
          obtain rfl := op_1 h
          exact k_vret F hr hlk G dX4_readRule_172
    · have h := op_f h c
      refine lv_aload_n F.1 F.2.1 dX4_readRule_39 rfl (lv_at hl 0 rfl) ?_
      refine lv_iconst (v := 2) F.1 F.2.1 dX4_readRule_40 (by decide) ?_
      obtain ⟨r_18, ps_19, hc, h⟩ := op_b2 h
      refine k_callV (rv := (some (.int r_18))) (Wc := (gR T aR aD tx ps nm)) (W2 := (gR T aR aD tx ps_19 nm)) (Wn := (gR T aR aD tx ps_19 nm)) (As := [.int 2]) (rest := []) F G (mX4_passOnce l D T aR aD tx ps nm 2 hc) (cwV 1 F.2.2.2.2 (kg_c kl392 (kg_c kl393 (kg_c kl394 (kg_c kl321 (kg_c kl377 kg_a))))) rfl rfl rfl (by decide +kernel) ⟨Nat.le_of_ble_eq_true rfl, Nat.le_of_ble_eq_true rfl⟩) 3 rfl (q := (RX4, TX4, 6)) rfl rfl (kCut_F G) rfl hl.1 rfl (Nat.le_of_ble_eq_true rfl) dX4_readRule_41 ⟨Nat.le_of_ble_eq_true rfl, Nat.le_of_ble_eq_true rfl⟩ (cN := 0) (sN := 0) ⟨rfl, rfl⟩ (fun H locs G => ?_)
      refine lv_if_eq (tgt := 172) F.1 F.2.1 dX4_readRule_44 (by decide) (fun c => ?_) (fun c => ?_)
      · have h := op_t h c
        obtain rfl := op_1 h
        exact k_vret F hr hlk G dX4_readRule_172
      · have h := op_f h c
        refine lv_aload_n F.1 F.2.1 dX4_readRule_47 rfl (lv_at hl 0 rfl) ?_
        refine k_get F G 3 rfl (N := 6) (Tt := TX4) rfl kf4 2 (by decide) kl231 (v := .ref (aD 0)) rfl dX4_readRule_48 ?_
        refine lv_aload_n F.1 F.2.1 dX4_readRule_51 rfl (lv_at hl 0 rfl) ?_
        refine lv_iconst (v := 1) F.1 F.2.1 dX4_readRule_52 (by decide) ?_
        refine lv_bipush (v := 20) F.1 F.2.1 dX4_readRule_53 (by decide) ?_
        obtain ⟨r_20, ps_21, hc, h⟩ := op_b2 h
        refine k_callV (rv := (some (.int r_20))) (Wc := (gR T aR aD tx ps_19 nm)) (W2 := (gR T aR aD tx ps_21 nm)) (Wn := (gR T aR aD tx ps_21 nm)) (As := [.int 1, .int 20]) (rest := [.ref (aD 0)]) F G (mX4_readNumber l D T aR aD tx ps_19 nm 1 20 hc) (cwV 2 F.2.2.2.2 (kg_c kl330 (kg_c kl331 (kg_c kl332 (kg_c kl321 (kg_c kl315 kg_a))))) rfl rfl rfl (by decide +kernel) ⟨Nat.le_of_ble_eq_true rfl, Nat.le_of_ble_eq_true rfl⟩) 3 rfl (q := (RX4, TX4, 6)) rfl rfl (kCut_F G) rfl hl.1 rfl (Nat.le_of_ble_eq_true rfl) dX4_readRule_55 ⟨Nat.le_of_ble_eq_true rfl, Nat.le_of_ble_eq_true rfl⟩ (cN := 0) (sN := 0) ⟨rfl, rfl⟩ (fun H locs G => ?_)
        obtain ⟨ps_22, e9, h⟩ := op_st h
        refine k_put F G 4 rfl (N := 18) (Tt := TX5) rfl kf5 tyX5_ok nmX5 10 (by decide) kl389 rfl (v := .int r_20) rfl rfl (Nat.le_of_ble_eq_true rfl) dX4_readRule_58 (Wn := (gR T aR aD tx ps_22 nm)) (by subst e9; rfl) (fun H locs G => ?_)
        clear e9
        refine lv_goto (tgt := 172) F.1 F.2.1 dX4_readRule_61 (by decide) ?_
        obtain rfl := op_1 h
        exact k_vret F hr hlk G dX4_readRule_172
  · have h := op_f h c
    refine lv_aload_n F.1 F.2.1 dX4_readRule_12 rfl (lv_at hl 0 rfl) ?_
    refine lv_iconst (v := 1) F.1 F.2.1 dX4_readRule_13 (by decide) ?_
    obtain ⟨r_23, ps_24, hc, h⟩ := op_b2 h
    refine k_callV (rv := (some (.int r_23))) (Wc := (gR T aR aD tx ps nm)) (W2 := (gR T aR aD tx ps_24 nm)) (Wn := (gR T aR aD tx ps_24 nm)) (As := [.int 1]) (rest := []) F G (mX4_passOnce l D T aR aD tx ps nm 1 hc) (cwV 1 F.2.2.2.2 (kg_c kl392 (kg_c kl393 (kg_c kl394 (kg_c kl321 (kg_c kl377 kg_a))))) rfl rfl rfl (by decide +kernel) ⟨Nat.le_of_ble_eq_true rfl, Nat.le_of_ble_eq_true rfl⟩) 3 rfl (q := (RX4, TX4, 6)) rfl rfl (kCut_F G) rfl hl.1 rfl (Nat.le_of_ble_eq_true rfl) dX4_readRule_14 ⟨Nat.le_of_ble_eq_true rfl, Nat.le_of_ble_eq_true rfl⟩ (cN := 0) (sN := 0) ⟨rfl, rfl⟩ (fun H locs G => ?_)
    refine lv_if_eq (tgt := 172) F.1 F.2.1 dX4_readRule_17 (by decide) (fun c => ?_) (fun c => ?_)
    · have h := op_t h c
      obtain rfl := op_1 h
      exact k_vret F hr hlk G dX4_readRule_172
    · have h := op_f h c
      refine lv_aload_n F.1 F.2.1 dX4_readRule_20 rfl (lv_at hl 0 rfl) ?_
      obtain ⟨ps_25, hc, h⟩ := op_b h
      refine k_callV (rv := none) (Wc := (gR T aR aD tx ps_24 nm)) (W2 := (gR T aR aD tx ps_25 nm)) (Wn := (gR T aR aD tx ps_25 nm)) (As := []) (rest := []) F G (mX4_readScript l D T aR aD tx ps_24 nm hc) (cwV 0 F.2.2.2.2 (kg_c kl395 (kg_c kl396 (kg_c kl397 (kg_c kl321 (kg_c kl379 kg_a))))) rfl rfl rfl (by decide +kernel) ⟨Nat.le_of_ble_eq_true rfl, Nat.le_of_ble_eq_true rfl⟩) 3 rfl (q := (RX4, TX4, 6)) rfl rfl (kCut_F G) rfl hl.1 rfl (Nat.le_of_ble_eq_true rfl) dX4_readRule_21 ⟨Nat.le_of_ble_eq_true rfl, Nat.le_of_ble_eq_true rfl⟩ (cN := 0) (sN := 0) ⟨rfl, rfl⟩ (fun H locs G => ?_)
      refine lv_goto (tgt := 172) F.1 F.2.1 dX4_readRule_24 (by decide) ?_
      obtain rfl := op_1 h
      exact k_vret F hr hlk G dX4_readRule_172
abbrev rmX4_readOutlet : Room := ({ frames := 3, cells := 0, slots := 0, locals := 70 } : Room)
noncomputable def qX4_readOutlet (tx : Nat → Nat → Int32) (ps : Nat → Nat → Int32) (nm : Nat → Int64) : Option ((Nat → Nat → Int32) × (Nat → Int64)) :=
  (jn (fun (_ : Unit) => bd (qX4_stopAt tx ps nm 5) fun ps_1 => some (ps_1, nm)) fun j18 => if (ps 6 0) < 0 then (j18 ()) else if (ps 6 0) < 12 then bd (qX7_goToNext tx ps nm) fun ps_2 => bd2 (qX4_readNewName tx ps_2 nm) fun r_3 ps_4 => gd (vp_in (ps 6 0) 12) (bs (vp_updL nm (ps 6 0).toNatClampNeg r_3) fun nm_5 => bd2 (qX4_readNumber tx ps_4 nm_5 0 999) fun r_6 ps_7 => gd (vp_in (ps 6 0) 12) (bs (va_up ps_7 15 (upd (ps_7 15) (ps 6 0).toNatClampNeg r_6)) fun ps_8 => gd (vp_in (ps 6 0) 12) (bd2 (qX4_readNumber tx ps_8 nm_5 ((ps_8 15) (ps 6 0).toNatClampNeg) 1999) fun r_9 ps_10 => gd (vp_in (ps 6 0) 12) (bs (va_up ps_10 16 (upd (ps_10 16) (ps 6 0).toNatClampNeg r_9)) fun ps_11 => gd (vp_in (ps 6 0) 12) (gd (vp_in (ps 6 0) 12) (bd2 (qX4_readNumber tx ps_11 nm_5 ((ps_11 15) (ps 6 0).toNatClampNeg) ((ps_11 16) (ps 6 0).toNatClampNeg)) fun r_12 ps_13 => gd (vp_in (ps 6 0) 12) (bs (va_up ps_13 17 (upd (ps_13 17) (ps 6 0).toNatClampNeg r_12)) fun ps_14 => bd2 (qX4_readNumber tx ps_14 nm_5 1 20) fun r_15 ps_16 => gd (vp_in (ps 6 0) 12) (bs (va_up ps_16 18 (upd (ps_16 18) (ps 6 0).toNatClampNeg r_15)) fun ps_17 => bd2 (qX4_readNumber tx ps_17 nm_5 0 9) fun r_18 ps_19 => gd (vp_in (ps 6 0) 12) (bs (va_up ps_19 19 (upd (ps_19 19) (ps 6 0).toNatClampNeg r_18)) fun ps_20 => gd (vp_in (ps 6 0) 12) (bs (va_up ps_20 20 (upd (ps_20 20) (ps 6 0).toNatClampNeg 0)) fun ps_21 => (bs (va_up ps_21 6 (fun _ => ((ps 6 0) + 1))) fun ps_22 => some (ps_22, nm_5)))))))))))) else (j18 ()))

set_option maxHeartbeats 4000000 in
set_option maxRecDepth 100000 in
theorem mX4_readOutlet (l : Launch) (D : va_G) (T : Nat → ClassId) (aR : Nat → Nat) (aD : Nat → Nat) (tx : Nat → Nat → Int32) (ps : Nat → Nat → Int32) (nm : Nat → Int64) {psR : Nat → Nat → Int32} {nmR : Nat → Int64} (hres : qX4_readOutlet tx ps nm = some (psR, nmR)) : Ct l yX4_readOutlet (Cond.code yX4_readOutlet cX4_readOutlet 2 none :: kAll) rmX4_readOutlet D T [.ref (aR 3)] (gR T aR aD tx ps nm) none (gR T aR aD tx psR nmR) := by
  refine Ct.of (cc := cX4_readOutlet) (maxL := 2) (ret := none) (by decide +kernel) rfl (Nat.le_of_ble_eq_true rfl) ?_
  intro pr en st mi ag bl me co A ls F hr hlk hnm G hl
  have hl : lv_has ls 2 [(0, .ref (aR 3))] := hl
  have h := hres
  unfold qX4_readOutlet at h
  refine lv_aload_n F.1 F.2.1 dX4_readOutlet_0 rfl (lv_at hl 0 rfl) ?_
  refine k_get F G 3 rfl (N := 6) (Tt := TX4) rfl kf4 2 (by decide) kl231 (v := .ref (aD 0)) rfl dX4_readOutlet_1 ?_
  refine k_get F G 4 rfl (N := 18) (Tt := TX5) rfl kf5 0 (by decide) kl350 (v := .int (ps 6 0)) rfl dX4_readOutlet_4 ?_
  refine lv_istore_n (lv' := [(1, .int (ps 6 0)), (0, .ref (aR 3))]) F.1 F.2.1 dX4_readOutlet_7 rfl hl (by decide) rfl (fun ls hl => ?_)
  refine lv_iload_n F.1 F.2.1 dX4_readOutlet_8 rfl (lv_at hl 0 rfl) ?_
  obtain ⟨j18, hj18, h⟩ := op_j h
  have J18 : ∀ (H : Heap) (locs : List Loc) (ls : Array Slot), j18 () = some (psR, nmR) → Rg D T A st (gR T aR aD tx ps nm) H locs → lv_has ls 2 [(0, .ref (aR 3))] → W pr l en rmX4_readOutlet st mi ag bl me co H locs 0 0 (MQ bl (kQ none D (gR T aR aD tx psR nmR) A) ag st rmX4_readOutlet.cells rmX4_readOutlet.slots A) (F0 mi 18 ls []) := by
    intro H locs ls h G hl
    rw [hj18] at h
    refine lv_aload_n F.1 F.2.1 dX4_readOutlet_18 rfl (lv_at hl 0 rfl) ?_
    refine lv_iconst (v := 5) F.1 F.2.1 dX4_readOutlet_19 (by decide) ?_
    obtain ⟨ps_1, hc, h⟩ := op_b h
    refine k_callV (rv := none) (Wc := (gR T aR aD tx ps nm)) (W2 := (gR T aR aD tx ps_1 nm)) (Wn := (gR T aR aD tx ps_1 nm)) (As := [.int 5]) (rest := []) F G (mX4_stopAt l D T aR aD tx ps nm 5 hc) (cwV 1 F.2.2.2.2 (kg_c kl318 (kg_c kl319 (kg_c kl320 (kg_c kl321 (kg_c kl312 kg_a))))) rfl rfl rfl (by decide +kernel) ⟨Nat.le_of_ble_eq_true rfl, Nat.le_of_ble_eq_true rfl⟩) 3 rfl (q := (RX4, TX4, 6)) rfl rfl (kCut_F G) rfl hl.1 rfl (Nat.le_of_ble_eq_true rfl) dX4_readOutlet_20 ⟨Nat.le_of_ble_eq_true rfl, Nat.le_of_ble_eq_true rfl⟩ (cN := 0) (sN := 0) ⟨rfl, rfl⟩ (fun H locs G => ?_)
    obtain ⟨rfl, rfl⟩ := op_2 h
    exact k_vret F hr hlk G dX4_readOutlet_23
  clear hj18
  refine lv_if_lt (tgt := 18) F.1 F.2.1 dX4_readOutlet_9 (by decide) (fun c => ?_) (fun c => ?_)
  · have h := op_t h c
    exact J18 _ _ _ h G (lv_sub hl [1] rfl)
  · have h := op_f h c
    refine lv_iload_n F.1 F.2.1 dX4_readOutlet_12 rfl (lv_at hl 0 rfl) ?_
    refine lv_bipush (v := 12) F.1 F.2.1 dX4_readOutlet_13 (by decide) ?_
    refine lv_icmp_lt (tgt := 24) F.1 F.2.1 dX4_readOutlet_15 (by decide) (fun c => ?_) (fun c => ?_)
    · have h := op_t h c
      refine lv_aload_n F.1 F.2.1 dX4_readOutlet_24 rfl (lv_at hl 1 rfl) ?_
      refine k_get F G 3 rfl (N := 6) (Tt := TX4) rfl kf4 1 (by decide) kl237 (v := .ref (aR 2)) rfl dX4_readOutlet_25 ?_
      obtain ⟨ps_2, hc, h⟩ := op_b h
      refine k_callV (rv := none) (Wc := (gR T aR aD tx ps nm)) (W2 := (gR T aR aD tx ps_2 nm)) (Wn := (gR T aR aD tx ps_2 nm)) (As := []) (rest := []) F G (mX7_goToNext l D T aR aD tx ps nm hc) (cwV 0 F.2.2.2.2 (kg_c kl323 (kg_c kl256 (kg_c kl257 (kg_c kl236 (kg_c kl245 kg_a))))) rfl rfl rfl (by decide +kernel) ⟨Nat.le_of_ble_eq_true rfl, Nat.le_of_ble_eq_true rfl⟩) 2 rfl (q := (RX7, TX7, 4)) rfl rfl (kCut_F G) rfl hl.1 rfl (Nat.le_of_ble_eq_true rfl) dX4_readOutlet_28 ⟨Nat.le_of_ble_eq_true rfl, Nat.le_of_ble_eq_true rfl⟩ (cN := 0) (sN := 0) ⟨rfl, rfl⟩ (fun H locs G => ?_)
      refine lv_aload_n F.1 F.2.1 dX4_readOutlet_31 rfl (lv_at hl 1 rfl) ?_
      refine k_get F G 3 rfl (N := 6) (Tt := TX4) rfl kf4 2 (by decide) kl231 (v := .ref (aD 0)) rfl dX4_readOutlet_32 ?_
      refine k_get F G 4 rfl (N := 18) (Tt := TX5) rfl kf5 1 (by decide) kl351 (v := .ref (aD 9)) rfl dX4_readOutlet_35 ?_
      refine lv_iload_n F.1 F.2.1 dX4_readOutlet_38 rfl (lv_at hl 0 rfl) ?_
      refine lv_aload_n F.1 F.2.1 dX4_readOutlet_39 rfl (lv_at hl 1 rfl) ?_
      obtain ⟨r_3, ps_4, hc, h⟩ := op_b2 h
      refine k_callV (rv := (some (.long r_3))) (Wc := (gR T aR aD tx ps_2 nm)) (W2 := (gR T aR aD tx ps_4 nm)) (Wn := (gR T aR aD tx ps_4 nm)) (As := []) (rest := [.int (ps 6 0), .ref (aD 9)]) F G (mX4_readNewName l D T aR aD tx ps_2 nm hc) (cwV 0 F.2.2.2.2 (kg_c kl358 (kg_c kl359 (kg_c kl360 (kg_c kl321 (kg_c kl342 kg_a))))) rfl rfl rfl (by decide +kernel) ⟨Nat.le_of_ble_eq_true rfl, Nat.le_of_ble_eq_true rfl⟩) 3 rfl (q := (RX4, TX4, 6)) rfl rfl (kCut_F G) rfl hl.1 rfl (Nat.le_of_ble_eq_true rfl) dX4_readOutlet_40 ⟨Nat.le_of_ble_eq_true rfl, Nat.le_of_ble_eq_true rfl⟩ (cN := 0) (sN := 0) ⟨rfl, rfl⟩ (fun H locs G => ?_)
      obtain ⟨c, h⟩ := op_g h
      obtain ⟨nm_5, e9, h⟩ := op_st h
      refine k_last F G 13 rfl c dX4_readOutlet_43 (Wn := (gR T aR aD tx ps_4 nm_5)) (by subst e9; rfl) (fun H locs G => ?_)
      clear e9
      refine lv_aload_n F.1 F.2.1 dX4_readOutlet_44 rfl (lv_at hl 1 rfl) ?_
      refine k_get F G 3 rfl (N := 6) (Tt := TX4) rfl kf4 2 (by decide) kl231 (v := .ref (aD 0)) rfl dX4_readOutlet_45 ?_
      refine k_get F G 4 rfl (N := 18) (Tt := TX5) rfl kf5 2 (by decide) kl352 (v := .ref (aD 1)) rfl dX4_readOutlet_48 ?_
      refine lv_iload_n F.1 F.2.1 dX4_readOutlet_51 rfl (lv_at hl 0 rfl) ?_
      refine lv_aload_n F.1 F.2.1 dX4_readOutlet_52 rfl (lv_at hl 1 rfl) ?_
      refine lv_iconst (v := 0) F.1 F.2.1 dX4_readOutlet_53 (by decide) ?_
      refine lv_sipush (v := 999) F.1 F.2.1 dX4_readOutlet_54 (by decide) ?_
      obtain ⟨r_6, ps_7, hc, h⟩ := op_b2 h
      refine k_callV (rv := (some (.int r_6))) (Wc := (gR T aR aD tx ps_4 nm_5)) (W2 := (gR T aR aD tx ps_7 nm_5)) (Wn := (gR T aR aD tx ps_7 nm_5)) (As := [.int 0, .int 999]) (rest := [.int (ps 6 0), .ref (aD 1)]) F G (mX4_readNumber l D T aR aD tx ps_4 nm_5 0 999 hc) (cwV 2 F.2.2.2.2 (kg_c kl330 (kg_c kl331 (kg_c kl332 (kg_c kl321 (kg_c kl315 kg_a))))) rfl rfl rfl (by decide +kernel) ⟨Nat.le_of_ble_eq_true rfl, Nat.le_of_ble_eq_true rfl⟩) 3 rfl (q := (RX4, TX4, 6)) rfl rfl (kCut_F G) rfl hl.1 rfl (Nat.le_of_ble_eq_true rfl) dX4_readOutlet_57 ⟨Nat.le_of_ble_eq_true rfl, Nat.le_of_ble_eq_true rfl⟩ (cN := 0) (sN := 0) ⟨rfl, rfl⟩ (fun H locs G => ?_)
      obtain ⟨c, h⟩ := op_g h
      obtain ⟨ps_8, e9, h⟩ := op_st h
      refine k_iast F G 5 rfl c dX4_readOutlet_60 (Wn := (gR T aR aD tx ps_8 nm_5)) (by subst e9; rfl) (fun H locs G => ?_)
      clear e9
      refine lv_aload_n F.1 F.2.1 dX4_readOutlet_61 rfl (lv_at hl 1 rfl) ?_
      refine k_get F G 3 rfl (N := 6) (Tt := TX4) rfl kf4 2 (by decide) kl231 (v := .ref (aD 0)) rfl dX4_readOutlet_62 ?_
      refine k_get F G 4 rfl (N := 18) (Tt := TX5) rfl kf5 3 (by decide) kl353 (v := .ref (aD 2)) rfl dX4_readOutlet_65 ?_
      refine lv_iload_n F.1 F.2.1 dX4_readOutlet_68 rfl (lv_at hl 0 rfl) ?_
      refine lv_aload_n F.1 F.2.1 dX4_readOutlet_69 rfl (lv_at hl 1 rfl) ?_
      refine lv_aload_n F.1 F.2.1 dX4_readOutlet_70 rfl (lv_at hl 1 rfl) ?_
      refine k_get F G 3 rfl (N := 6) (Tt := TX4) rfl kf4 2 (by decide) kl231 (v := .ref (aD 0)) rfl dX4_readOutlet_71 ?_
      refine k_get F G 4 rfl (N := 18) (Tt := TX5) rfl kf5 2 (by decide) kl352 (v := .ref (aD 1)) rfl dX4_readOutlet_74 ?_
      refine lv_iload_n F.1 F.2.1 dX4_readOutlet_77 rfl (lv_at hl 0 rfl) ?_
      obtain ⟨c, h⟩ := op_g h
      refine k_iald F G 5 rfl c dX4_readOutlet_78 ?_
      refine lv_sipush (v := 1999) F.1 F.2.1 dX4_readOutlet_79 (by decide) ?_
      obtain ⟨r_9, ps_10, hc, h⟩ := op_b2 h
      refine k_callV (rv := (some (.int r_9))) (Wc := (gR T aR aD tx ps_8 nm_5)) (W2 := (gR T aR aD tx ps_10 nm_5)) (Wn := (gR T aR aD tx ps_10 nm_5)) (As := [.int ((ps_8 15) (ps 6 0).toNatClampNeg), .int 1999]) (rest := [.int (ps 6 0), .ref (aD 2)]) F G (mX4_readNumber l D T aR aD tx ps_8 nm_5 ((ps_8 15) (ps 6 0).toNatClampNeg) 1999 hc) (cwV 2 F.2.2.2.2 (kg_c kl330 (kg_c kl331 (kg_c kl332 (kg_c kl321 (kg_c kl315 kg_a))))) rfl rfl rfl (by decide +kernel) ⟨Nat.le_of_ble_eq_true rfl, Nat.le_of_ble_eq_true rfl⟩) 3 rfl (q := (RX4, TX4, 6)) rfl rfl (kCut_F G) rfl hl.1 rfl (Nat.le_of_ble_eq_true rfl) dX4_readOutlet_82 ⟨Nat.le_of_ble_eq_true rfl, Nat.le_of_ble_eq_true rfl⟩ (cN := 0) (sN := 0) ⟨rfl, rfl⟩ (fun H locs G => ?_)
      obtain ⟨c, h⟩ := op_g h
      obtain ⟨ps_11, e9, h⟩ := op_st h
      refine k_iast F G 6 rfl c dX4_readOutlet_85 (Wn := (gR T aR aD tx ps_11 nm_5)) (by subst e9; rfl) (fun H locs G => ?_)
      clear e9
      refine lv_aload_n F.1 F.2.1 dX4_readOutlet_86 rfl (lv_at hl 1 rfl) ?_
      refine k_get F G 3 rfl (N := 6) (Tt := TX4) rfl kf4 2 (by decide) kl231 (v := .ref (aD 0)) rfl dX4_readOutlet_87 ?_
      refine k_get F G 4 rfl (N := 18) (Tt := TX5) rfl kf5 4 (by decide) kl354 (v := .ref (aD 3)) rfl dX4_readOutlet_90 ?_
      refine lv_iload_n F.1 F.2.1 dX4_readOutlet_93 rfl (lv_at hl 0 rfl) ?_
      refine lv_aload_n F.1 F.2.1 dX4_readOutlet_94 rfl (lv_at hl 1 rfl) ?_
      refine lv_aload_n F.1 F.2.1 dX4_readOutlet_95 rfl (lv_at hl 1 rfl) ?_
      refine k_get F G 3 rfl (N := 6) (Tt := TX4) rfl kf4 2 (by decide) kl231 (v := .ref (aD 0)) rfl dX4_readOutlet_96 ?_
      refine k_get F G 4 rfl (N := 18) (Tt := TX5) rfl kf5 2 (by decide) kl352 (v := .ref (aD 1)) rfl dX4_readOutlet_99 ?_
      refine lv_iload_n F.1 F.2.1 dX4_readOutlet_102 rfl (lv_at hl 0 rfl) ?_
      obtain ⟨c, h⟩ := op_g h
      refine k_iald F G 5 rfl c dX4_readOutlet_103 ?_
      refine lv_aload_n F.1 F.2.1 dX4_readOutlet_104 rfl (lv_at hl 1 rfl) ?_
      refine k_get F G 3 rfl (N := 6) (Tt := TX4) rfl kf4 2 (by decide) kl231 (v := .ref (aD 0)) rfl dX4_readOutlet_105 ?_
      refine k_get F G 4 rfl (N := 18) (Tt := TX5) rfl kf5 3 (by decide) kl353 (v := .ref (aD 2)) rfl dX4_readOutlet_108 ?_
      refine lv_iload_n F.1 F.2.1 dX4_readOutlet_111 rfl (lv_at hl 0 rfl) ?_
      obtain ⟨c, h⟩ := op_g h
      refine k_iald F G 6 rfl c dX4_readOutlet_112 ?_
      obtain ⟨r_12, ps_13, hc, h⟩ := op_b2 h
      refine k_callV (rv := (some (.int r_12))) (Wc := (gR T aR aD tx ps_11 nm_5)) (W2 := (gR T aR aD tx ps_13 nm_5)) (Wn := (gR T aR aD tx ps_13 nm_5)) (As := [.int ((ps_11 15) (ps 6 0).toNatClampNeg), .int ((ps_11 16) (ps 6 0).toNatClampNeg)]) (rest := [.int (ps 6 0), .ref (aD 3)]) F G (mX4_readNumber l D T aR aD tx ps_11 nm_5 ((ps_11 15) (ps 6 0).toNatClampNeg) ((ps_11 16) (ps 6 0).toNatClampNeg) hc) (cwV 2 F.2.2.2.2 (kg_c kl330 (kg_c kl331 (kg_c kl332 (kg_c kl321 (kg_c kl315 kg_a))))) rfl rfl rfl (by decide +kernel) ⟨Nat.le_of_ble_eq_true rfl, Nat.le_of_ble_eq_true rfl⟩) 3 rfl (q := (RX4, TX4, 6)) rfl rfl (kCut_F G) rfl hl.1 rfl (Nat.le_of_ble_eq_true rfl) dX4_readOutlet_113 ⟨Nat.le_of_ble_eq_true rfl, Nat.le_of_ble_eq_true rfl⟩ (cN := 0) (sN := 0) ⟨rfl, rfl⟩ (fun H locs G => ?_)
      obtain ⟨c, h⟩ := op_g h
      obtain ⟨ps_14, e9, h⟩ := op_st h
      refine k_iast F G 7 rfl c dX4_readOutlet_116 (Wn := (gR T aR aD tx ps_14 nm_5)) (by subst e9; rfl) (fun H locs G => ?_)
      clear e9
      refine lv_aload_n F.1 F.2.1 dX4_readOutlet_117 rfl (lv_at hl 1 rfl) ?_
      refine k_get F G 3 rfl (N := 6) (Tt := TX4) rfl kf4 2 (by decide) kl231 (v := .ref (aD 0)) rfl dX4_readOutlet_118 ?_
      refine k_get F G 4 rfl (N := 18) (Tt := TX5) rfl kf5 5 (by decide) kl355 (v := .ref (aD 4)) rfl dX4_readOutlet_121 ?_
      refine lv_iload_n F.1 F.2.1 dX4_readOutlet_124 rfl (lv_at hl 0 rfl) ?_
      refine lv_aload_n F.1 F.2.1 dX4_readOutlet_125 rfl (lv_at hl 1 rfl) ?_
      refine lv_iconst (v := 1) F.1 F.2.1 dX4_readOutlet_126 (by decide) ?_
      refine lv_bipush (v := 20) F.1 F.2.1 dX4_readOutlet_127 (by decide) ?_
      obtain ⟨r_15, ps_16, hc, h⟩ := op_b2 h
      refine k_callV (rv := (some (.int r_15))) (Wc := (gR T aR aD tx ps_14 nm_5)) (W2 := (gR T aR aD tx ps_16 nm_5)) (Wn := (gR T aR aD tx ps_16 nm_5)) (As := [.int 1, .int 20]) (rest := [.int (ps 6 0), .ref (aD 4)]) F G (mX4_readNumber l D T aR aD tx ps_14 nm_5 1 20 hc) (cwV 2 F.2.2.2.2 (kg_c kl330 (kg_c kl331 (kg_c kl332 (kg_c kl321 (kg_c kl315 kg_a))))) rfl rfl rfl (by decide +kernel) ⟨Nat.le_of_ble_eq_true rfl, Nat.le_of_ble_eq_true rfl⟩) 3 rfl (q := (RX4, TX4, 6)) rfl rfl (kCut_F G) rfl hl.1 rfl (Nat.le_of_ble_eq_true rfl) dX4_readOutlet_129 ⟨Nat.le_of_ble_eq_true rfl, Nat.le_of_ble_eq_true rfl⟩ (cN := 0) (sN := 0) ⟨rfl, rfl⟩ (fun H locs G => ?_)
      obtain ⟨c, h⟩ := op_g h
      obtain ⟨ps_17, e9, h⟩ := op_st h
      refine k_iast F G 8 rfl c dX4_readOutlet_132 (Wn := (gR T aR aD tx ps_17 nm_5)) (by subst e9; rfl) (fun H locs G => ?_)
      clear e9
      refine lv_aload_n F.1 F.2.1 dX4_readOutlet_133 rfl (lv_at hl 1 rfl) ?_
      refine k_get F G 3 rfl (N := 6) (Tt := TX4) rfl kf4 2 (by decide) kl231 (v := .ref (aD 0)) rfl dX4_readOutlet_134 ?_
      refine k_get F G 4 rfl (N := 18) (Tt := TX5) rfl kf5 6 (by decide) kl356 (v := .ref (aD 5)) rfl dX4_readOutlet_137 ?_
      refine lv_iload_n F.1 F.2.1 dX4_readOutlet_140 rfl (lv_at hl 0 rfl) ?_
      refine lv_aload_n F.1 F.2.1 dX4_readOutlet_141 rfl (lv_at hl 1 rfl) ?_
      refine lv_iconst (v := 0) F.1 F.2.1 dX4_readOutlet_142 (by decide) ?_
      refine lv_bipush (v := 9) F.1 F.2.1 dX4_readOutlet_143 (by decide) ?_
      obtain ⟨r_18, ps_19, hc, h⟩ := op_b2 h
      refine k_callV (rv := (some (.int r_18))) (Wc := (gR T aR aD tx ps_17 nm_5)) (W2 := (gR T aR aD tx ps_19 nm_5)) (Wn := (gR T aR aD tx ps_19 nm_5)) (As := [.int 0, .int 9]) (rest := [.int (ps 6 0), .ref (aD 5)]) F G (mX4_readNumber l D T aR aD tx ps_17 nm_5 0 9 hc) (cwV 2 F.2.2.2.2 (kg_c kl330 (kg_c kl331 (kg_c kl332 (kg_c kl321 (kg_c kl315 kg_a))))) rfl rfl rfl (by decide +kernel) ⟨Nat.le_of_ble_eq_true rfl, Nat.le_of_ble_eq_true rfl⟩) 3 rfl (q := (RX4, TX4, 6)) rfl rfl (kCut_F G) rfl hl.1 rfl (Nat.le_of_ble_eq_true rfl) dX4_readOutlet_145 ⟨Nat.le_of_ble_eq_true rfl, Nat.le_of_ble_eq_true rfl⟩ (cN := 0) (sN := 0) ⟨rfl, rfl⟩ (fun H locs G => ?_)
      obtain ⟨c, h⟩ := op_g h
      obtain ⟨ps_20, e9, h⟩ := op_st h
      refine k_iast F G 9 rfl c dX4_readOutlet_148 (Wn := (gR T aR aD tx ps_20 nm_5)) (by subst e9; rfl) (fun H locs G => ?_)
      clear e9
      refine lv_aload_n F.1 F.2.1 dX4_readOutlet_149 rfl (lv_at hl 1 rfl) ?_
      refine k_get F G 3 rfl (N := 6) (Tt := TX4) rfl kf4 2 (by decide) kl231 (v := .ref (aD 0)) rfl dX4_readOutlet_150 ?_
      refine k_get F G 4 rfl (N := 18) (Tt := TX5) rfl kf5 7 (by decide) kl357 (v := .ref (aD 6)) rfl dX4_readOutlet_153 ?_
      refine lv_iload_n F.1 F.2.1 dX4_readOutlet_156 rfl (lv_at hl 0 rfl) ?_
      refine lv_iconst (v := 0) F.1 F.2.1 dX4_readOutlet_157 (by decide) ?_
      obtain ⟨c, h⟩ := op_g h
      obtain ⟨ps_21, e9, h⟩ := op_st h
      refine k_iast F G 10 rfl c dX4_readOutlet_158 (Wn := (gR T aR aD tx ps_21 nm_5)) (by subst e9; rfl) (fun H locs G => ?_)
      clear e9
      refine lv_aload_n F.1 F.2.1 dX4_readOutlet_159 rfl (lv_at hl 1 rfl) ?_
      refine k_get F G 3 rfl (N := 6) (Tt := TX4) rfl kf4 2 (by decide) kl231 (v := .ref (aD 0)) rfl dX4_readOutlet_160 ?_
      refine lv_iload_n F.1 F.2.1 dX4_readOutlet_163 rfl (lv_at hl 0 rfl) ?_
      refine lv_iconst (v := 1) F.1 F.2.1 dX4_readOutlet_164 (by decide) ?_
      refine lv_iadd F.1 F.2.1 dX4_readOutlet_165 ?_
      obtain ⟨ps_22, e9, h⟩ := op_st h
      refine k_put F G 4 rfl (N := 18) (Tt := TX5) rfl kf5 tyX5_ok nmX5 0 (by decide) kl350 rfl (v := .int ((ps 6 0) + 1)) rfl rfl (Nat.le_of_ble_eq_true rfl) dX4_readOutlet_166 (Wn := (gR T aR aD tx ps_22 nm_5)) (by subst e9; rfl) (fun H locs G => ?_)
      clear e9
      obtain ⟨rfl, rfl⟩ := op_2 h
      exact k_vret F hr hlk G dX4_readOutlet_169
    · have h := op_f h c
      exact J18 _ _ _ h G (lv_sub hl [1] rfl)
abbrev rmX4_readText : Room := ({ frames := 7, cells := 0, slots := 0, locals := 153 } : Room)
noncomputable def qX4_readText_L39 (tx : Nat → Nat → Int32) (K : (Nat → Nat → Int32) → (Nat → Int64) → Option (Int32 × (Nat → Nat → Int32) × (Nat → Int64))) : Nat → Int32 → Int32 → Int32 → (Nat → Nat → Int32) → (Nat → Int64) → Option (Int32 × (Nat → Nat → Int32) × (Nat → Int64))
  | 0, _, _, _, _, _ => none
  | n + 1, x1_7, x2_8, x3_9, ps_10, nm_11 =>
    if 900 ≤ x3_9 then (K ps_10 nm_11) else if (ps_10 3 0) = 0 then if (ps_10 0 0) = 0 then (K ps_10 nm_11) else (jn (fun (x1_14 : Int32) (x2_15 : Int32) (ps_16 : Nat → Nat → Int32) (nm_17 : Nat → Int64) => bd (qX4_readSemicolon tx ps_16 nm_17) fun ps_18 => (qX4_readText_L39 tx K n x1_14 x2_15 (x3_9 + 1) ps_18 nm_17)) fun j119 => jn (fun (_ : Unit) => (jn (fun (_ : Unit) => bd (qX4_readRule tx ps_10 nm_11) fun ps_19 => (j119 0 0 ps_19 nm_11)) fun j111 => if x2_8 = 0 then (j111 ()) else bd (qX7_isWord tx ps_10 nm_11 2) fun r_20 => if r_20 = 0 then (j111 ()) else bd (qX4_readNeed tx ps_10 nm_11) fun ps_21 => (j119 0 x2_8 ps_21 nm_11))) fun j86 => if x1_7 = 0 then (j86 ()) else bd (qX7_isWord tx ps_10 nm_11 1) fun r_22 => if r_22 = 0 then (j86 ()) else bd2 (qX4_readOutlet tx ps_10 nm_11) fun ps_23 nm_24 => (j119 x1_7 x2_8 ps_23 nm_24)) else (K ps_10 nm_11)

noncomputable def qX4_readText (tx : Nat → Nat → Int32) (ps : Nat → Nat → Int32) (nm : Nat → Int64) : Option (Int32 × (Nat → Nat → Int32) × (Nat → Int64)) :=
  (bs (va_up ps 3 (fun _ => 0)) fun ps_1 => (bs (va_up ps_1 4 (fun _ => (-1))) fun ps_2 => (bs (va_up ps_2 5 (fun _ => 0)) fun ps_3 => bd (qX5_clear_d tx ps_3 nm) fun ps_4 => bd (qX7_goToFirst tx ps_4 nm) fun ps_5 => bd (qX4_readFuse tx ps_5 nm) fun ps_6 => (qX4_readText_L39 tx  (fun (ps_12 : Nat → Nat → Int32) (nm_13 : Nat → Int64) => if (ps_12 3 0) = 0 then some (1, ps_12, nm_13) else some (0, ps_12, nm_13)) fu 1 1 0 ps_6 nm))))

set_option maxHeartbeats 4000000 in
set_option maxRecDepth 100000 in
theorem mX4_readText (l : Launch) (D : va_G) (T : Nat → ClassId) (aR : Nat → Nat) (aD : Nat → Nat) (tx : Nat → Nat → Int32) (ps : Nat → Nat → Int32) (nm : Nat → Int64) {rR : Int32} {psR : Nat → Nat → Int32} {nmR : Nat → Int64} (hres : qX4_readText tx ps nm = some (rR, psR, nmR)) : Ct l yX4_readText (Cond.code yX4_readText cX4_readText 4 (some .boolean) :: kAll) rmX4_readText D T [.ref (aR 3)] (gR T aR aD tx ps nm) (some (.int rR)) (gR T aR aD tx psR nmR) := by
  refine Ct.of (cc := cX4_readText) (maxL := 4) (ret := (some .boolean)) (by decide +kernel) rfl (Nat.le_of_ble_eq_true rfl) ?_
  intro pr en st mi ag bl me co A ls F hr hlk hnm G hl
  have hl : lv_has ls 4 [(0, .ref (aR 3))] := hl
  have h := hres
  unfold qX4_readText at h
  refine lv_aload_n F.1 F.2.1 dX4_readText_0 rfl (lv_at hl 0 rfl) ?_
  refine lv_iconst (v := 0) F.1 F.2.1 dX4_readText_1 (by decide) ?_
  obtain ⟨ps_1, e9, h⟩ := op_st h
  refine k_put F G 3 rfl (N := 6) (Tt := TX4) rfl kf4 tyX4_ok nmX4 3 (by decide) kl313 rfl (v := .int 0) rfl rfl (Nat.le_of_ble_eq_true rfl) dX4_readText_2 (Wn := (gR T aR aD tx ps_1 nm)) (by subst e9; rfl) (fun H locs G => ?_)
  clear e9
  refine lv_aload_n F.1 F.2.1 dX4_readText_5 rfl (lv_at hl 0 rfl) ?_
  refine lv_iconst (v := (-1)) F.1 F.2.1 dX4_readText_6 (by decide) ?_
  obtain ⟨ps_2, e9, h⟩ := op_st h
  refine k_put F G 3 rfl (N := 6) (Tt := TX4) rfl kf4 tyX4_ok nmX4 4 (by decide) kl232 rfl (v := .int (-1)) rfl rfl (Nat.le_of_ble_eq_true rfl) dX4_readText_7 (Wn := (gR T aR aD tx ps_2 nm)) (by subst e9; rfl) (fun H locs G => ?_)
  clear e9
  refine lv_aload_n F.1 F.2.1 dX4_readText_10 rfl (lv_at hl 0 rfl) ?_
  refine lv_iconst (v := 0) F.1 F.2.1 dX4_readText_11 (by decide) ?_
  obtain ⟨ps_3, e9, h⟩ := op_st h
  refine k_put F G 3 rfl (N := 6) (Tt := TX4) rfl kf4 tyX4_ok nmX4 5 (by decide) kl378 rfl (v := .int 0) rfl rfl (Nat.le_of_ble_eq_true rfl) dX4_readText_12 (Wn := (gR T aR aD tx ps_3 nm)) (by subst e9; rfl) (fun H locs G => ?_)
  clear e9
  refine lv_aload_n F.1 F.2.1 dX4_readText_15 rfl (lv_at hl 0 rfl) ?_
  refine k_get F G 3 rfl (N := 6) (Tt := TX4) rfl kf4 2 (by decide) kl231 (v := .ref (aD 0)) rfl dX4_readText_16 ?_
  obtain ⟨ps_4, hc, h⟩ := op_b h
  refine k_callV (rv := none) (Wc := (gR T aR aD tx ps_3 nm)) (W2 := (gR T aR aD tx ps_4 nm)) (Wn := (gR T aR aD tx ps_4 nm)) (As := []) (rest := []) F G (mX5_clear_d l D T aR aD tx ps_3 nm hc) (cwV 0 F.2.2.2.2 (kg_c kl405 (kg_c kl221 (kg_c kl222 (kg_c kl223 (kg_c kl198 kg_a))))) rfl rfl rfl (by decide +kernel) ⟨Nat.le_of_ble_eq_true rfl, Nat.le_of_ble_eq_true rfl⟩) 4 rfl (q := (RX5, TX5, 18)) rfl rfl (kCut_F G) rfl hl.1 rfl (Nat.le_of_ble_eq_true rfl) dX4_readText_19 ⟨Nat.le_of_ble_eq_true rfl, Nat.le_of_ble_eq_true rfl⟩ (cN := 0) (sN := 0) ⟨rfl, rfl⟩ (fun H locs G => ?_)
  refine lv_aload_n F.1 F.2.1 dX4_readText_22 rfl (lv_at hl 0 rfl) ?_
  refine k_get F G 3 rfl (N := 6) (Tt := TX4) rfl kf4 1 (by decide) kl237 (v := .ref (aR 2)) rfl dX4_readText_23 ?_
  obtain ⟨ps_5, hc, h⟩ := op_b h
  refine k_callV (rv := none) (Wc := (gR T aR aD tx ps_4 nm)) (W2 := (gR T aR aD tx ps_5 nm)) (Wn := (gR T aR aD tx ps_5 nm)) (As := []) (rest := []) F G (mX7_goToFirst l D T aR aD tx ps_4 nm hc) (cwV 0 F.2.2.2.2 (kg_c kl406 (kg_c kl407 (kg_c kl408 (kg_c kl236 (kg_c kl254 kg_a))))) rfl rfl rfl (by decide +kernel) ⟨Nat.le_of_ble_eq_true rfl, Nat.le_of_ble_eq_true rfl⟩) 2 rfl (q := (RX7, TX7, 4)) rfl rfl (kCut_F G) rfl hl.1 rfl (Nat.le_of_ble_eq_true rfl) dX4_readText_26 ⟨Nat.le_of_ble_eq_true rfl, Nat.le_of_ble_eq_true rfl⟩ (cN := 0) (sN := 0) ⟨rfl, rfl⟩ (fun H locs G => ?_)
  refine lv_aload_n F.1 F.2.1 dX4_readText_29 rfl (lv_at hl 0 rfl) ?_
  obtain ⟨ps_6, hc, h⟩ := op_b h
  refine k_callV (rv := none) (Wc := (gR T aR aD tx ps_5 nm)) (W2 := (gR T aR aD tx ps_6 nm)) (Wn := (gR T aR aD tx ps_6 nm)) (As := []) (rest := []) F G (mX4_readFuse l D T aR aD tx ps_5 nm hc) (cwV 0 F.2.2.2.2 (kg_c kl409 (kg_c kl410 (kg_c kl411 (kg_c kl321 (kg_c kl325 kg_a))))) rfl rfl rfl (by decide +kernel) ⟨Nat.le_of_ble_eq_true rfl, Nat.le_of_ble_eq_true rfl⟩) 3 rfl (q := (RX4, TX4, 6)) rfl rfl (kCut_F G) rfl hl.1 rfl (Nat.le_of_ble_eq_true rfl) dX4_readText_30 ⟨Nat.le_of_ble_eq_true rfl, Nat.le_of_ble_eq_true rfl⟩ (cN := 0) (sN := 0) ⟨rfl, rfl⟩ (fun H locs G => ?_)
  refine lv_iconst (v := 1) F.1 F.2.1 dX4_readText_33 (by decide) ?_
  refine lv_istore_n (lv' := [(1, .int 1), (0, .ref (aR 3))]) F.1 F.2.1 dX4_readText_34 rfl hl (by decide) rfl (fun ls hl => ?_)
  refine lv_iconst (v := 1) F.1 F.2.1 dX4_readText_35 (by decide) ?_
  refine lv_istore_n (lv' := [(2, .int 1), (1, .int 1), (0, .ref (aR 3))]) F.1 F.2.1 dX4_readText_36 rfl hl (by decide) rfl (fun ls hl => ?_)
  refine lv_iconst (v := 0) F.1 F.2.1 dX4_readText_37 (by decide) ?_
  refine lv_istore_n (lv' := [(3, .int 0), (2, .int 1), (1, .int 1), (0, .ref (aR 3))]) F.1 F.2.1 dX4_readText_38 rfl hl (by decide) rfl (fun ls hl => ?_)
  have L39 : ∀ (tx : Nat → Nat → Int32) (K : (Nat → Nat → Int32) → (Nat → Int64) → Option (Int32 × (Nat → Nat → Int32) × (Nat → Int64))) (hK : ∀ (ps_12 : Nat → Nat → Int32) (nm_13 : Nat → Int64) (H : Heap) (locs : List Loc) (ls : Array Slot), K ps_12 nm_13 = some (rR, psR, nmR) → Rg D T A st (gR T aR aD tx ps_12 nm_13) H locs → lv_has ls 4 [(0, .ref (aR 3))] → W pr l en rmX4_readText st mi ag bl me co H locs 0 0 (MQ bl (kQ (some (.int rR)) D (gR T aR aD tx psR nmR) A) ag st rmX4_readText.cells rmX4_readText.slots A) (F0 mi 129 ls [])) (n : Nat) (x1_7 : Int32) (x2_8 : Int32) (x3_9 : Int32) (ps_10 : Nat → Nat → Int32) (nm_11 : Nat → Int64) (H : Heap) (locs : List Loc) (ls : Array Slot), qX4_readText_L39 tx K n x1_7 x2_8 x3_9 ps_10 nm_11 = some (rR, psR, nmR) → Rg D T A st (gR T aR aD tx ps_10 nm_11) H locs → lv_has ls 4 [(0, .ref (aR 3)), (1, .int x1_7), (2, .int x2_8), (3, .int x3_9)] → W pr l en rmX4_readText st mi ag bl me co H locs 0 0 (MQ bl (kQ (some (.int rR)) D (gR T aR aD tx psR nmR) A) ag st rmX4_readText.cells rmX4_readText.slots A) (F0 mi 39 ls []) := by
    intro tx K hK n
    induction n with
    | zero => intro x1_7 x2_8 x3_9 ps_10 nm_11 H locs ls h; exact op_n h
    | succ n ih =>
      intro x1_7 x2_8 x3_9 ps_10 nm_11 H locs ls h G hl
      rw [qX4_readText_L39] at h
      refine lv_iload_n F.1 F.2.1 dX4_readText_39 rfl (lv_at hl 3 rfl) ?_
      refine lv_sipush (v := 900) F.1 F.2.1 dX4_readText_40 (by decide) ?_
      refine lv_icmp_ge (tgt := 129) F.1 F.2.1 dX4_readText_43 (by decide) (fun c => ?_) (fun c => ?_)
      · have h := op_t h c
        exact hK ps_10 nm_11 _ _ _ h G (lv_sub hl [0] rfl)
      · have h := op_f h c
        refine lv_aload_n F.1 F.2.1 dX4_readText_46 rfl (lv_at hl 0 rfl) ?_
        refine k_get F G 3 rfl (N := 6) (Tt := TX4) rfl kf4 3 (by decide) kl313 (v := .int (ps_10 3 0)) rfl dX4_readText_47 ?_
        refine lv_if_ne (tgt := 129) F.1 F.2.1 dX4_readText_50 (by decide) (fun c => ?_) (fun c => ?_)
        · have h := op_f h c
          exact hK ps_10 nm_11 _ _ _ h G (lv_sub hl [0] rfl)
        · have h := op_t h c
          refine lv_aload_n F.1 F.2.1 dX4_readText_53 rfl (lv_at hl 0 rfl) ?_
          refine k_get F G 3 rfl (N := 6) (Tt := TX4) rfl kf4 1 (by decide) kl237 (v := .ref (aR 2)) rfl dX4_readText_54 ?_
          refine k_get F G 2 rfl (N := 4) (Tt := TX7) rfl kf7 1 (by decide) kl316 (v := .int (ps_10 0 0)) rfl dX4_readText_57 ?_
          refine lv_if_eq (tgt := 129) F.1 F.2.1 dX4_readText_60 (by decide) (fun c => ?_) (fun c => ?_)
          · have h := op_t h c
            exact hK ps_10 nm_11 _ _ _ h G (lv_sub hl [0] rfl)
          · have h := op_f h c
            refine lv_iload_n F.1 F.2.1 dX4_readText_63 rfl (lv_at hl 1 rfl) ?_
            obtain ⟨j119, hj119, h⟩ := op_j h
            have J119 : ∀ (x1_14 : Int32) (x2_15 : Int32) (ps_16 : Nat → Nat → Int32) (nm_17 : Nat → Int64) (H : Heap) (locs : List Loc) (ls : Array Slot), j119 x1_14 x2_15 ps_16 nm_17 = some (rR, psR, nmR) → Rg D T A st (gR T aR aD tx ps_16 nm_17) H locs → lv_has ls 4 [(0, .ref (aR 3)), (1, .int x1_14), (2, .int x2_15), (3, .int x3_9)] → W pr l en rmX4_readText st mi ag bl me co H locs 0 0 (MQ bl (kQ (some (.int rR)) D (gR T aR aD tx psR nmR) A) ag st rmX4_readText.cells rmX4_readText.slots A) (F0 mi 119 ls []) := by
              intro x1_14 x2_15 ps_16 nm_17 H locs ls h G hl
              rw [hj119] at h
              refine lv_aload_n F.1 F.2.1 dX4_readText_119 rfl (lv_at hl 0 rfl) ?_
              obtain ⟨ps_18, hc, h⟩ := op_b h
              refine k_callV (rv := none) (Wc := (gR T aR aD tx ps_16 nm_17)) (W2 := (gR T aR aD tx ps_18 nm_17)) (Wn := (gR T aR aD tx ps_18 nm_17)) (As := []) (rest := []) F G (mX4_readSemicolon l D T aR aD tx ps_16 nm_17 hc) (cwV 0 F.2.2.2.2 (kg_c kl333 (kg_c kl334 (kg_c kl335 (kg_c kl321 (kg_c kl324 kg_a))))) rfl rfl rfl (by decide +kernel) ⟨Nat.le_of_ble_eq_true rfl, Nat.le_of_ble_eq_true rfl⟩) 3 rfl (q := (RX4, TX4, 6)) rfl rfl (kCut_F G) rfl hl.1 rfl (Nat.le_of_ble_eq_true rfl) dX4_readText_120 ⟨Nat.le_of_ble_eq_true rfl, Nat.le_of_ble_eq_true rfl⟩ (cN := 0) (sN := 0) ⟨rfl, rfl⟩ (fun H locs G => ?_)
              refine lv_iinc (v := (x3_9 + 1)) (lv' := [(3, .int (x3_9 + 1)), (0, .ref (aR 3)), (1, .int x1_14), (2, .int x2_15)]) F.1 F.2.1 dX4_readText_123 hl (k := 3) rfl rfl (by decide) rfl (fun ls hl => ?_)
              refine lv_goto (tgt := 39) F.1 F.2.1 dX4_readText_126 (by decide) ?_
              exact ih x1_14 x2_15 (x3_9 + 1) ps_18 nm_17 _ _ _ h G (lv_sub hl [1, 2, 3, 0] rfl)
            clear hj119
            obtain ⟨j86, hj86, h⟩ := op_j h
            have J86 : ∀ (H : Heap) (locs : List Loc) (ls : Array Slot), j86 () = some (rR, psR, nmR) → Rg D T A st (gR T aR aD tx ps_10 nm_11) H locs → lv_has ls 4 [(0, .ref (aR 3)), (2, .int x2_8), (3, .int x3_9)] → W pr l en rmX4_readText st mi ag bl me co H locs 0 0 (MQ bl (kQ (some (.int rR)) D (gR T aR aD tx psR nmR) A) ag st rmX4_readText.cells rmX4_readText.slots A) (F0 mi 86 ls []) := by
              intro H locs ls h G hl
              rw [hj86] at h
              refine lv_iload_n F.1 F.2.1 dX4_readText_86 rfl (lv_at hl 1 rfl) ?_
              obtain ⟨j111, hj111, h⟩ := op_j h
              have J111 : ∀ (H : Heap) (locs : List Loc) (ls : Array Slot), j111 () = some (rR, psR, nmR) → Rg D T A st (gR T aR aD tx ps_10 nm_11) H locs → lv_has ls 4 [(0, .ref (aR 3)), (3, .int x3_9)] → W pr l en rmX4_readText st mi ag bl me co H locs 0 0 (MQ bl (kQ (some (.int rR)) D (gR T aR aD tx psR nmR) A) ag st rmX4_readText.cells rmX4_readText.slots A) (F0 mi 111 ls []) := by
                intro H locs ls h G hl
                rw [hj111] at h
                refine lv_iconst (v := 0) F.1 F.2.1 dX4_readText_111 (by decide) ?_
                refine lv_istore_n (lv' := [(1, .int 0), (0, .ref (aR 3)), (3, .int x3_9)]) F.1 F.2.1 dX4_readText_112 rfl hl (by decide) rfl (fun ls hl => ?_)
                refine lv_iconst (v := 0) F.1 F.2.1 dX4_readText_113 (by decide) ?_
                refine lv_istore_n (lv' := [(2, .int 0), (1, .int 0), (0, .ref (aR 3)), (3, .int x3_9)]) F.1 F.2.1 dX4_readText_114 rfl hl (by decide) rfl (fun ls hl => ?_)
                refine lv_aload_n F.1 F.2.1 dX4_readText_115 rfl (lv_at hl 2 rfl) ?_
                obtain ⟨ps_19, hc, h⟩ := op_b h
                refine k_callV (rv := none) (Wc := (gR T aR aD tx ps_10 nm_11)) (W2 := (gR T aR aD tx ps_19 nm_11)) (Wn := (gR T aR aD tx ps_19 nm_11)) (As := []) (rest := []) F G (mX4_readRule l D T aR aD tx ps_10 nm_11 hc) (cwV 0 F.2.2.2.2 (kg_c kl418 (kg_c kl419 (kg_c kl420 (kg_c kl321 (kg_c kl388 kg_a))))) rfl rfl rfl (by decide +kernel) ⟨Nat.le_of_ble_eq_true rfl, Nat.le_of_ble_eq_true rfl⟩) 3 rfl (q := (RX4, TX4, 6)) rfl rfl (kCut_F G) rfl hl.1 rfl (Nat.le_of_ble_eq_true rfl) dX4_readText_116 ⟨Nat.le_of_ble_eq_true rfl, Nat.le_of_ble_eq_true rfl⟩ (cN := 0) (sN := 0) ⟨rfl, rfl⟩ (fun H locs G => ?_)
                exact J119 0 0 ps_19 nm_11 _ _ _ h G (lv_sub hl [2, 1, 0, 3] rfl)
              clear hj111
              refine lv_if_eq (tgt := 111) F.1 F.2.1 dX4_readText_87 (by decide) (fun c => ?_) (fun c => ?_)
              · have h := op_t h c
                exact J111 _ _ _ h G (lv_sub hl [0, 2] rfl)
              · have h := op_f h c
                refine lv_aload_n F.1 F.2.1 dX4_readText_90 rfl (lv_at hl 0 rfl) ?_
                refine k_get F G 3 rfl (N := 6) (Tt := TX4) rfl kf4 1 (by decide) kl237 (v := .ref (aR 2)) rfl dX4_readText_91 ?_
                refine va_ldcS (own := RX4) (index := 62) (tx := "need") (q := T (100 + 2)) F.1 F.2.1 F.2.2.2.1 (k_refE G 2 rfl) dX4_readText_94 ?_
                obtain ⟨r_20, hc, h⟩ := op_b h
                refine k_callV (rv := (some (.int r_20))) (Wc := (gR T aR aD tx ps_10 nm_11)) (W2 := (gR T aR aD tx ps_10 nm_11)) (Wn := (gR T aR aD tx ps_10 nm_11)) (As := [.ref (T (100 + 2))]) (rest := []) F G (mX7_isWord l D T aR aD tx ps_10 nm_11 2 (by decide) hc) (cwV 1 F.2.2.2.2 (kg_c kl327 (kg_c kl328 (kg_c kl329 (kg_c kl236 (kg_c kl302 kg_a))))) rfl rfl rfl (by decide +kernel) ⟨Nat.le_of_ble_eq_true rfl, Nat.le_of_ble_eq_true rfl⟩) 2 rfl (q := (RX7, TX7, 4)) rfl rfl (kCut_F G) rfl hl.1 rfl (Nat.le_of_ble_eq_true rfl) dX4_readText_96 ⟨Nat.le_of_ble_eq_true rfl, Nat.le_of_ble_eq_true rfl⟩ (cN := 0) (sN := 0) ⟨rfl, rfl⟩ (fun H locs G => ?_)
                refine lv_if_eq (tgt := 111) F.1 F.2.1 dX4_readText_99 (by decide) (fun c => ?_) (fun c => ?_)
                · have h := op_t h c
                  exact J111 _ _ _ h G (lv_sub hl [0, 2] rfl)
                · have h := op_f h c
                  refine lv_iconst (v := 0) F.1 F.2.1 dX4_readText_102 (by decide) ?_
                  refine lv_istore_n (lv' := [(1, .int 0), (0, .ref (aR 3)), (2, .int x2_8), (3, .int x3_9)]) F.1 F.2.1 dX4_readText_103 rfl hl (by decide) rfl (fun ls hl => ?_)
                  refine lv_aload_n F.1 F.2.1 dX4_readText_104 rfl (lv_at hl 1 rfl) ?_
                  obtain ⟨ps_21, hc, h⟩ := op_b h
                  refine k_callV (rv := none) (Wc := (gR T aR aD tx ps_10 nm_11)) (W2 := (gR T aR aD tx ps_21 nm_11)) (Wn := (gR T aR aD tx ps_21 nm_11)) (As := []) (rest := []) F G (mX4_readNeed l D T aR aD tx ps_10 nm_11 hc) (cwV 0 F.2.2.2.2 (kg_c kl415 (kg_c kl416 (kg_c kl417 (kg_c kl321 (kg_c kl370 kg_a))))) rfl rfl rfl (by decide +kernel) ⟨Nat.le_of_ble_eq_true rfl, Nat.le_of_ble_eq_true rfl⟩) 3 rfl (q := (RX4, TX4, 6)) rfl rfl (kCut_F G) rfl hl.1 rfl (Nat.le_of_ble_eq_true rfl) dX4_readText_105 ⟨Nat.le_of_ble_eq_true rfl, Nat.le_of_ble_eq_true rfl⟩ (cN := 0) (sN := 0) ⟨rfl, rfl⟩ (fun H locs G => ?_)
                  refine lv_goto (tgt := 119) F.1 F.2.1 dX4_readText_108 (by decide) ?_
                  exact J119 0 x2_8 ps_21 nm_11 _ _ _ h G (lv_sub hl [1, 0, 2, 3] rfl)
            clear hj86
            refine lv_if_eq (tgt := 86) F.1 F.2.1 dX4_readText_64 (by decide) (fun c => ?_) (fun c => ?_)
            · have h := op_t h c
              exact J86 _ _ _ h G (lv_sub hl [0, 2, 3] rfl)
            · have h := op_f h c
              refine lv_aload_n F.1 F.2.1 dX4_readText_67 rfl (lv_at hl 0 rfl) ?_
              refine k_get F G 3 rfl (N := 6) (Tt := TX4) rfl kf4 1 (by decide) kl237 (v := .ref (aR 2)) rfl dX4_readText_68 ?_
              refine va_ldcS (own := RX4) (index := 53) (tx := "outlet") (q := T (100 + 1)) F.1 F.2.1 F.2.2.2.1 (k_refE G 1 rfl) dX4_readText_71 ?_
              obtain ⟨r_22, hc, h⟩ := op_b h
              refine k_callV (rv := (some (.int r_22))) (Wc := (gR T aR aD tx ps_10 nm_11)) (W2 := (gR T aR aD tx ps_10 nm_11)) (Wn := (gR T aR aD tx ps_10 nm_11)) (As := [.ref (T (100 + 1))]) (rest := []) F G (mX7_isWord l D T aR aD tx ps_10 nm_11 1 (by decide) hc) (cwV 1 F.2.2.2.2 (kg_c kl327 (kg_c kl328 (kg_c kl329 (kg_c kl236 (kg_c kl302 kg_a))))) rfl rfl rfl (by decide +kernel) ⟨Nat.le_of_ble_eq_true rfl, Nat.le_of_ble_eq_true rfl⟩) 2 rfl (q := (RX7, TX7, 4)) rfl rfl (kCut_F G) rfl hl.1 rfl (Nat.le_of_ble_eq_true rfl) dX4_readText_73 ⟨Nat.le_of_ble_eq_true rfl, Nat.le_of_ble_eq_true rfl⟩ (cN := 0) (sN := 0) ⟨rfl, rfl⟩ (fun H locs G => ?_)
              refine lv_if_eq (tgt := 86) F.1 F.2.1 dX4_readText_76 (by decide) (fun c => ?_) (fun c => ?_)
              · have h := op_t h c
                exact J86 _ _ _ h G (lv_sub hl [0, 2, 3] rfl)
              · have h := op_f h c
                refine lv_aload_n F.1 F.2.1 dX4_readText_79 rfl (lv_at hl 0 rfl) ?_
                obtain ⟨ps_23, nm_24, hc, h⟩ := op_b2 h
                refine k_callV (rv := none) (Wc := (gR T aR aD tx ps_10 nm_11)) (W2 := (gR T aR aD tx ps_23 nm_24)) (Wn := (gR T aR aD tx ps_23 nm_24)) (As := []) (rest := []) F G (mX4_readOutlet l D T aR aD tx ps_10 nm_11 hc) (cwV 0 F.2.2.2.2 (kg_c kl412 (kg_c kl413 (kg_c kl414 (kg_c kl321 (kg_c kl349 kg_a))))) rfl rfl rfl (by decide +kernel) ⟨Nat.le_of_ble_eq_true rfl, Nat.le_of_ble_eq_true rfl⟩) 3 rfl (q := (RX4, TX4, 6)) rfl rfl (kCut_F G) rfl hl.1 rfl (Nat.le_of_ble_eq_true rfl) dX4_readText_80 ⟨Nat.le_of_ble_eq_true rfl, Nat.le_of_ble_eq_true rfl⟩ (cN := 0) (sN := 0) ⟨rfl, rfl⟩ (fun H locs G => ?_)
                refine lv_goto (tgt := 119) F.1 F.2.1 dX4_readText_83 (by decide) ?_
                exact J119 x1_7 x2_8 ps_23 nm_24 _ _ _ h G hl
  refine L39 tx  _ (fun ps_12 nm_13 H locs ls h G hl => ?_) fu 1 1 0 ps_6 nm _ _ _ h G (lv_sub hl [3, 2, 1, 0] rfl)
  clear L39
  refine lv_aload_n F.1 F.2.1 dX4_readText_129 rfl (lv_at hl 0 rfl) ?_
  refine k_get F G 3 rfl (N := 6) (Tt := TX4) rfl kf4 3 (by decide) kl313 (v := .int (ps_12 3 0)) rfl dX4_readText_130 ?_
  refine lv_if_ne (tgt := 140) F.1 F.2.1 dX4_readText_133 (by decide) (fun c => ?_) (fun c => ?_)
  · have h := op_f h c
    refine lv_iconst (v := 0) F.1 F.2.1 dX4_readText_140 (by decide) ?_
    obtain ⟨rfl, rfl, rfl⟩ := op_3 h
    exact k_zret F hr rfl hlk G dX4_readText_141
  · have h := op_t h c
    refine lv_iconst (v := 1) F.1 F.2.1 dX4_readText_136 (by decide) ?_
    refine lv_goto (tgt := 141) F.1 F.2.1 dX4_readText_137 (by decide) ?_
    obtain ⟨rfl, rfl, rfl⟩ := op_3 h
    exact k_zret F hr rfl hlk G dX4_readText_141
