abbrev rmX11_laysThen : Room := ({ frames := 0, cells := 0, slots := 0, locals := 0 } : Room)
noncomputable def qX11_laysThen_L2 (K : (Nat → Nat → Int32) → Option ((Nat → Nat → Int32))) : Nat → Int32 → (Nat → Nat → Int32) → Option ((Nat → Nat → Int32))
  | 0, _, _ => none
  | n + 1, x1_1, z_2 =>
    if 411 ≤ x1_1 then (K z_2) else gd (vp_in x1_1 411) (gd (vp_in x1_1 411) (bs (va_up z_2 11 (upd (z_2 11) x1_1.toNatClampNeg ((z_2 10) x1_1.toNatClampNeg))) fun z_4 => (qX11_laysThen_L2 K n (x1_1 + 1) z_4)))

noncomputable def qX11_laysThen (z : Nat → Nat → Int32) : Option ((Nat → Nat → Int32)) :=
  (qX11_laysThen_L2   (fun (z_3 : Nat → Nat → Int32) => some z_3) fu 0 z)

set_option maxHeartbeats 4000000 in
set_option maxRecDepth 100000 in
theorem mX11_laysThen (l : Launch) (D : va_G) (T : Nat → ClassId) (aM : Nat → Nat) (z : Nat → Nat → Int32) {zR : Nat → Nat → Int32} (hres : qX11_laysThen z = some (zR)) : Ct l yX11_laysThen (Cond.code yX11_laysThen cX11_laysThen 2 none :: kAll) rmX11_laysThen D T [.ref (aM 0)] (gM T aM z) none (gM T aM zR) := by
  refine Ct.of (cc := cX11_laysThen) (maxL := 2) (ret := none) (by decide +kernel) rfl (Nat.le_of_ble_eq_true rfl) ?_
  intro pr en st mi ag bl me co A ls F hr hlk hnm G hl
  have hl : lv_has ls 2 [(0, .ref (aM 0))] := hl
  have h := hres
  unfold qX11_laysThen at h
  refine lv_iconst (v := 0) F.1 F.2.1 dX11_laysThen_0 (by decide) ?_
  refine lv_istore_n (lv' := [(1, .int 0), (0, .ref (aM 0))]) F.1 F.2.1 dX11_laysThen_1 rfl hl (by decide) rfl (fun ls hl => ?_)
  have L2 : ∀ (K : (Nat → Nat → Int32) → Option ((Nat → Nat → Int32))) (hK : ∀ (z_3 : Nat → Nat → Int32) (H : Heap) (locs : List Loc) (ls : Array Slot), K z_3 = some (zR) → Rg D T A st (gM T aM z_3) H locs → lv_has ls 2 [] → W pr l en rmX11_laysThen st mi ag bl me co H locs 0 0 (MQ bl (kQ none D (gM T aM zR) A) ag st rmX11_laysThen.cells rmX11_laysThen.slots A) (F0 mi 27 ls [])) (n : Nat) (x1_1 : Int32) (z_2 : Nat → Nat → Int32) (H : Heap) (locs : List Loc) (ls : Array Slot), qX11_laysThen_L2 K n x1_1 z_2 = some (zR) → Rg D T A st (gM T aM z_2) H locs → lv_has ls 2 [(0, .ref (aM 0)), (1, .int x1_1)] → W pr l en rmX11_laysThen st mi ag bl me co H locs 0 0 (MQ bl (kQ none D (gM T aM zR) A) ag st rmX11_laysThen.cells rmX11_laysThen.slots A) (F0 mi 2 ls []) := by
    intro K hK n
    induction n with
    | zero => intro x1_1 z_2 H locs ls h; exact op_n h
    | succ n ih =>
      intro x1_1 z_2 H locs ls h G hl
      rw [qX11_laysThen_L2] at h
      refine lv_iload_n F.1 F.2.1 dX11_laysThen_2 rfl (lv_at hl 1 rfl) ?_
      refine lv_sipush (v := 411) F.1 F.2.1 dX11_laysThen_3 (by decide) ?_
      refine lv_icmp_ge (tgt := 27) F.1 F.2.1 dX11_laysThen_6 (by decide) (fun c => ?_) (fun c => ?_)
      · have h := op_t h c
        exact hK z_2 _ _ _ h G (lv_sub hl [] rfl)
      · have h := op_f h c
        refine lv_aload_n F.1 F.2.1 dX11_laysThen_9 rfl (lv_at hl 0 rfl) ?_
        refine k_get F G 0 rfl (N := 35) (Tt := TX11) rfl kf11 11 (by decide) kl791 (v := .ref (aM 7)) rfl dX11_laysThen_10 ?_
        refine lv_iload_n F.1 F.2.1 dX11_laysThen_13 rfl (lv_at hl 1 rfl) ?_
        refine lv_aload_n F.1 F.2.1 dX11_laysThen_14 rfl (lv_at hl 0 rfl) ?_
        refine k_get F G 0 rfl (N := 35) (Tt := TX11) rfl kf11 10 (by decide) kl783 (v := .ref (aM 6)) rfl dX11_laysThen_15 ?_
        refine lv_iload_n F.1 F.2.1 dX11_laysThen_18 rfl (lv_at hl 1 rfl) ?_
        obtain ⟨c, h⟩ := op_g h
        refine k_iald F G 6 rfl c dX11_laysThen_19 ?_
        obtain ⟨c, h⟩ := op_g h
        obtain ⟨z_4, e9, h⟩ := op_st h
        refine k_iast F G 7 rfl c dX11_laysThen_20 (Wn := (gM T aM z_4)) (by subst e9; rfl) (fun H locs G => ?_)
        clear e9
        refine lv_iinc (v := (x1_1 + 1)) (lv' := [(1, .int (x1_1 + 1)), (0, .ref (aM 0))]) F.1 F.2.1 dX11_laysThen_21 hl (k := 1) rfl rfl (by decide) rfl (fun ls hl => ?_)
        refine lv_goto (tgt := 2) F.1 F.2.1 dX11_laysThen_24 (by decide) ?_
        exact ih (x1_1 + 1) z_4 _ _ _ h G (lv_sub hl [1, 0] rfl)
  refine L2   _ (fun z_3 H locs ls h G hl => ?_) fu 0 z _ _ _ h G (lv_sub hl [1, 0] rfl)
  clear L2
  obtain rfl := op_1 h
  exact k_vret F hr hlk G dX11_laysThen_27
abbrev rmX11_until : Room := ({ frames := 6, cells := 0, slots := 0, locals := 141 } : Room)
noncomputable def qX11_until_L2 (x1_1 : Int32) (K : Int32 → (Nat → Nat → Int32) → Option (Int32 × (Nat → Nat → Int32))) : Nat → Int32 → (Nat → Nat → Int32) → Option (Int32 × (Nat → Nat → Int32))
  | 0, _, _ => none
  | n + 1, x2_2, z_3 =>
    if 500 < x2_2 then (K x2_2 z_3) else bd (qX11_withState z_3 (z_3 11) 2 3) fun r_6 => if (x1_1 &&& (r_6 ^^^ (-1))) = 0 then (K x2_2 z_3) else bd2 (qX11_ticks z_3 (z_3 11)) fun r_7 rw_8 => (bs (va_up z_3 11 rw_8) fun z_9 => (qX11_until_L2 x1_1 K n (x2_2 + 1) z_9))

noncomputable def qX11_until (z : Nat → Nat → Int32) (x1 : Int32) : Option (Int32 × (Nat → Nat → Int32)) :=
  (qX11_until_L2  x1 (fun (x2_4 : Int32) (z_5 : Nat → Nat → Int32) => if x2_4 ≤ 500 then some (x2_4, z_5) else some ((-1), z_5)) fu 0 z)

set_option maxHeartbeats 4000000 in
set_option maxRecDepth 100000 in
theorem mX11_until (l : Launch) (D : va_G) (T : Nat → ClassId) (aM : Nat → Nat) (z : Nat → Nat → Int32) (x1 : Int32) {rR : Int32} {zR : Nat → Nat → Int32} (hres : qX11_until z x1 = some (rR, zR)) : Ct l yX11_until (Cond.code yX11_until cX11_until 4 (some .int) :: kAll) rmX11_until D T [.ref (aM 0), .int x1] (gM T aM z) (some (.int rR)) (gM T aM zR) := by
  refine Ct.of (cc := cX11_until) (maxL := 4) (ret := (some .int)) (by decide +kernel) rfl (Nat.le_of_ble_eq_true rfl) ?_
  intro pr en st mi ag bl me co A ls F hr hlk hnm G hl
  have hl : lv_has ls 4 [(0, .ref (aM 0)), (1, .int x1)] := hl
  have h := hres
  unfold qX11_until at h
  refine lv_iconst (v := 0) F.1 F.2.1 dX11_until_0 (by decide) ?_
  refine lv_istore_n (lv' := [(2, .int 0), (0, .ref (aM 0)), (1, .int x1)]) F.1 F.2.1 dX11_until_1 rfl hl (by decide) rfl (fun ls hl => ?_)
  have L2 : ∀ (x1_1 : Int32) (K : Int32 → (Nat → Nat → Int32) → Option (Int32 × (Nat → Nat → Int32))) (hK : ∀ (x2_4 : Int32) (z_5 : Nat → Nat → Int32) (H : Heap) (locs : List Loc) (ls : Array Slot), K x2_4 z_5 = some (rR, zR) → Rg D T A st (gM T aM z_5) H locs → lv_has ls 4 [(2, .int x2_4)] → W pr l en rmX11_until st mi ag bl me co H locs 0 0 (MQ bl (kQ (some (.int rR)) D (gM T aM zR) A) ag st rmX11_until.cells rmX11_until.slots A) (F0 mi 41 ls [])) (n : Nat) (x2_2 : Int32) (z_3 : Nat → Nat → Int32) (H : Heap) (locs : List Loc) (ls : Array Slot), qX11_until_L2 x1_1 K n x2_2 z_3 = some (rR, zR) → Rg D T A st (gM T aM z_3) H locs → lv_has ls 4 [(0, .ref (aM 0)), (1, .int x1_1), (2, .int x2_2)] → W pr l en rmX11_until st mi ag bl me co H locs 0 0 (MQ bl (kQ (some (.int rR)) D (gM T aM zR) A) ag st rmX11_until.cells rmX11_until.slots A) (F0 mi 2 ls []) := by
    intro x1_1 K hK n
    induction n with
    | zero => intro x2_2 z_3 H locs ls h; exact op_n h
    | succ n ih =>
      intro x2_2 z_3 H locs ls h G hl
      rw [qX11_until_L2] at h
      refine lv_iload_n F.1 F.2.1 dX11_until_2 rfl (lv_at hl 2 rfl) ?_
      refine lv_sipush (v := 500) F.1 F.2.1 dX11_until_3 (by decide) ?_
      refine lv_icmp_gt (tgt := 41) F.1 F.2.1 dX11_until_6 (by decide) (fun c => ?_) (fun c => ?_)
      · have h := op_t h c
        exact hK x2_2 z_3 _ _ _ h G (lv_sub hl [2] rfl)
      · have h := op_f h c
        refine lv_iload_n F.1 F.2.1 dX11_until_9 rfl (lv_at hl 1 rfl) ?_
        refine lv_aload_n F.1 F.2.1 dX11_until_10 rfl (lv_at hl 0 rfl) ?_
        refine lv_aload_n F.1 F.2.1 dX11_until_11 rfl (lv_at hl 0 rfl) ?_
        refine k_get F G 0 rfl (N := 35) (Tt := TX11) rfl kf11 11 (by decide) kl791 (v := .ref (aM 7)) rfl dX11_until_12 ?_
        refine lv_iconst (v := 2) F.1 F.2.1 dX11_until_15 (by decide) ?_
        refine lv_iconst (v := 3) F.1 F.2.1 dX11_until_16 (by decide) ?_
        obtain ⟨r_6, hc, h⟩ := op_b h
        refine k_callV (rv := (some (.int r_6))) (Wc := (gMR T aM (aM 7) z_3 (z_3 11))) (W2 := (gMR T aM (aM 7) z_3 (z_3 11))) (Wn := (gM T aM z_3)) (As := [.ref (aM 7), .int 2, .int 3]) (rest := [.int x1_1]) F G (mX11_withState l D T aM (aM 7) z_3 (z_3 11) 2 3 hc) (cwV 3 F.2.2.2.2 (kg_c kl935 (kg_c kl936 (kg_c kl937 (kg_c kl788 (kg_c kl922 kg_a))))) rfl rfl rfl (by decide +kernel) ⟨Nat.le_of_ble_eq_true rfl, Nat.le_of_ble_eq_true rfl⟩) 0 rfl (q := (RX11, TX11, 35)) rfl rfl (kCut_R G [0, 1, 2, 3, 4, 7] rfl rfl) rfl hl.1 rfl (Nat.le_of_ble_eq_true rfl) dX11_until_17 ⟨Nat.le_of_ble_eq_true rfl, Nat.le_of_ble_eq_true rfl⟩ (cN := 0) (sN := 0) ⟨rfl, rfl⟩ (fun H locs G => ?_)
        refine lv_iconst (v := (-1)) F.1 F.2.1 dX11_until_20 (by decide) ?_
        refine lv_ixor F.1 F.2.1 dX11_until_21 ?_
        refine lv_iand F.1 F.2.1 dX11_until_22 ?_
        refine lv_if_eq (tgt := 41) F.1 F.2.1 dX11_until_23 (by decide) (fun c => ?_) (fun c => ?_)
        · have h := op_t h c
          exact hK x2_2 z_3 _ _ _ h G (lv_sub hl [2] rfl)
        · have h := op_f h c
          refine lv_aload_n F.1 F.2.1 dX11_until_26 rfl (lv_at hl 0 rfl) ?_
          refine lv_aload_n F.1 F.2.1 dX11_until_27 rfl (lv_at hl 0 rfl) ?_
          refine k_get F G 0 rfl (N := 35) (Tt := TX11) rfl kf11 11 (by decide) kl791 (v := .ref (aM 7)) rfl dX11_until_28 ?_
          obtain ⟨r_7, rw_8, hc, h⟩ := op_b2 h
          obtain ⟨z_9, e9, h⟩ := op_st h
          refine k_callV (rv := (some (.int r_7))) (Wc := (gMR T aM (aM 7) z_3 (z_3 11))) (W2 := (gMR T aM (aM 7) z_3 rw_8)) (Wn := (gM T aM z_9)) (As := [.ref (aM 7)]) (rest := []) F G (mX11_ticks l D T aM (aM 7) z_3 (z_3 11) hc) (cwV 1 F.2.2.2.2 (kg_c kl1008 (kg_c kl1009 (kg_c kl1010 (kg_c kl788 (kg_c kl959 kg_a))))) rfl rfl rfl (by decide +kernel) ⟨Nat.le_of_ble_eq_true rfl, Nat.le_of_ble_eq_true rfl⟩) 0 rfl (q := (RX11, TX11, 35)) rfl rfl (kCut_G (Wr := [(aM 5, .inl (T 0, 96, .inl (z_3 9))), (aM 6, .inl (T 0, 411, .inl (z_3 10))), (aM 8, .inl (T 0, 3288, .inl (z_3 12))), (aM 9, .inl (T 0, 822, .inl (z_3 13))), (aM 10, .inl (T 3, 2, .inl (z_3 14))), (aM 11, .inl (T 0, 900, .inl (z_3 16))), (aM 12, .inl (T 0, 411, .inl (z_3 17))), (aM 13, .inl (T 0, 48, .inl (z_3 18))), (aM 14, .inl (T 0, 12, .inl (z_3 19))), (aM 15, .inl (T 0, 24, .inl (z_3 20))), (aM 16, .inl (T 0, 8, .inl (z_3 21))), (aM 17, .inl (T 0, 96, .inl (z_3 22)))]) G [0, 1, 2, 3, 4, 7] [5, 6, 8, 9, 10, 11, 12, 13, 14, 15, 16, 17] rfl rfl rfl rfl (by decide) [12, 13, 14, 15, 16, 0, 1, 17, 2, 3, 4, 5, 6, 7, 8, 9, 10, 11] rfl (by subst e9; rfl)) rfl hl.1 rfl (Nat.le_of_ble_eq_true rfl) dX11_until_31 ⟨Nat.le_of_ble_eq_true rfl, Nat.le_of_ble_eq_true rfl⟩ (cN := 0) (sN := 0) ⟨rfl, rfl⟩ (fun H locs G => ?_)
          clear e9
          refine lv_istore_n (lv' := [(3, .int r_7), (0, .ref (aM 0)), (1, .int x1_1), (2, .int x2_2)]) F.1 F.2.1 dX11_until_34 rfl hl (by decide) rfl (fun ls hl => ?_)
          refine lv_iinc (v := (x2_2 + 1)) (lv' := [(2, .int (x2_2 + 1)), (3, .int r_7), (0, .ref (aM 0)), (1, .int x1_1)]) F.1 F.2.1 dX11_until_35 hl (k := 3) rfl rfl (by decide) rfl (fun ls hl => ?_)
          refine lv_goto (tgt := 2) F.1 F.2.1 dX11_until_38 (by decide) ?_
          exact ih (x2_2 + 1) z_9 _ _ _ h G (lv_sub hl [2, 3, 0] rfl)
  refine L2  x1 _ (fun x2_4 z_5 H locs ls h G hl => ?_) fu 0 z _ _ _ h G (lv_sub hl [1, 2, 0] rfl)
  clear L2
  refine lv_iload_n F.1 F.2.1 dX11_until_41 rfl (lv_at hl 0 rfl) ?_
  refine lv_sipush (v := 500) F.1 F.2.1 dX11_until_42 (by decide) ?_
  refine lv_icmp_le (tgt := 52) F.1 F.2.1 dX11_until_45 (by decide) (fun c => ?_) (fun c => ?_)
  · have h := op_t h c
    refine lv_iload_n F.1 F.2.1 dX11_until_52 rfl (lv_at hl 0 rfl) ?_
    obtain ⟨rfl, rfl⟩ := op_2 h
    exact k_iret F hr hlk G dX11_until_53
  · have h := op_f h c
    refine lv_iconst (v := (-1)) F.1 F.2.1 dX11_until_48 (by decide) ?_
    refine lv_goto (tgt := 53) F.1 F.2.1 dX11_until_49 (by decide) ?_
    obtain ⟨rfl, rfl⟩ := op_2 h
    exact k_iret F hr hlk G dX11_until_53
abbrev rmX11_runsIn : Room := ({ frames := 7, cells := 0, slots := 0, locals := 164 } : Room)
noncomputable def qX11_runsIn (z : Nat → Nat → Int32) (x1 : Int32) : Option (Int32 × (Nat → Nat → Int32)) :=
  (bs (va_up z 0 (fun _ => 0)) fun z_1 => bd (qX11_isOutlet z_1 x1) fun r_2 => bd2 (qX11_may z_1 r_2 1) fun r_3 z_4 => if r_3 = 0 then some (0, z_4) else bd (qX11_laysThen z_4) fun z_5 => bd2 (qX11_until z_5 (1 <<< (x1 &&& 31))) fun r_6 z_7 => (jn (fun (y_8 : Int32) => bd2 (qX11_may z_7 y_8 2) fun r_9 z_10 => if r_9 = 0 then some (0, z_10) else some (r_6, z_10)) fun j43 => if r_6 = (-1) then (j43 0) else (j43 1)))

set_option maxHeartbeats 4000000 in
set_option maxRecDepth 100000 in
theorem mX11_runsIn (l : Launch) (D : va_G) (T : Nat → ClassId) (aM : Nat → Nat) (z : Nat → Nat → Int32) (x1 : Int32) {rR : Int32} {zR : Nat → Nat → Int32} (hres : qX11_runsIn z x1 = some (rR, zR)) : Ct l yX11_runsIn (Cond.code yX11_runsIn cX11_runsIn 3 (some .int) :: kAll) rmX11_runsIn D T [.ref (aM 0), .int x1] (gM T aM z) (some (.int rR)) (gM T aM zR) := by
  refine Ct.of (cc := cX11_runsIn) (maxL := 3) (ret := (some .int)) (by decide +kernel) rfl (Nat.le_of_ble_eq_true rfl) ?_
  intro pr en st mi ag bl me co A ls F hr hlk hnm G hl
  have hl : lv_has ls 3 [(0, .ref (aM 0)), (1, .int x1)] := hl
  have h := hres
  unfold qX11_runsIn at h
  refine lv_aload_n F.1 F.2.1 dX11_runsIn_0 rfl (lv_at hl 0 rfl) ?_
  refine lv_iconst (v := 0) F.1 F.2.1 dX11_runsIn_1 (by decide) ?_
  obtain ⟨z_1, e9, h⟩ := op_st h
  refine k_put F G 0 rfl (N := 35) (Tt := TX11) rfl kf11 tyX11_ok nmX11 0 (by decide) kl804 rfl (v := .int 0) rfl rfl (Nat.le_of_ble_eq_true rfl) dX11_runsIn_2 (Wn := (gM T aM z_1)) (by subst e9; rfl) (fun H locs G => ?_)
  clear e9
  refine lv_aload_n F.1 F.2.1 dX11_runsIn_5 rfl (lv_at hl 0 rfl) ?_
  refine lv_aload_n F.1 F.2.1 dX11_runsIn_6 rfl (lv_at hl 0 rfl) ?_
  refine lv_iload_n F.1 F.2.1 dX11_runsIn_7 rfl (lv_at hl 1 rfl) ?_
  obtain ⟨r_2, hc, h⟩ := op_b h
  refine k_callV (rv := (some (.int r_2))) (Wc := (gM T aM z_1)) (W2 := (gM T aM z_1)) (Wn := (gM T aM z_1)) (As := [.int x1]) (rest := [.ref (aM 0)]) F G (mX11_isOutlet l D T aM z_1 x1 hc) (cwV 1 F.2.2.2.2 (kg_c kl989 (kg_c kl990 (kg_c kl991 (kg_c kl788 (kg_c kl984 kg_a))))) rfl rfl rfl (by decide +kernel) ⟨Nat.le_of_ble_eq_true rfl, Nat.le_of_ble_eq_true rfl⟩) 0 rfl (q := (RX11, TX11, 35)) rfl rfl (kCut_F G) rfl hl.1 rfl (Nat.le_of_ble_eq_true rfl) dX11_runsIn_8 ⟨Nat.le_of_ble_eq_true rfl, Nat.le_of_ble_eq_true rfl⟩ (cN := 0) (sN := 0) ⟨rfl, rfl⟩ (fun H locs G => ?_)
  refine lv_iconst (v := 1) F.1 F.2.1 dX11_runsIn_11 (by decide) ?_
  obtain ⟨r_3, z_4, hc, h⟩ := op_b2 h
  refine k_callV (rv := (some (.int r_3))) (Wc := (gM T aM z_1)) (W2 := (gM T aM z_4)) (Wn := (gM T aM z_4)) (As := [.int r_2, .int 1]) (rest := []) F G (mX11_may l D T aM z_1 r_2 1 hc) (cwV 2 F.2.2.2.2 (kg_c kl809 (kg_c kl810 (kg_c kl811 (kg_c kl788 (kg_c kl806 kg_a))))) rfl rfl rfl (by decide +kernel) ⟨Nat.le_of_ble_eq_true rfl, Nat.le_of_ble_eq_true rfl⟩) 0 rfl (q := (RX11, TX11, 35)) rfl rfl (kCut_F G) rfl hl.1 rfl (Nat.le_of_ble_eq_true rfl) dX11_runsIn_12 ⟨Nat.le_of_ble_eq_true rfl, Nat.le_of_ble_eq_true rfl⟩ (cN := 0) (sN := 0) ⟨rfl, rfl⟩ (fun H locs G => ?_)
  refine lv_if_ne (tgt := 20) F.1 F.2.1 dX11_runsIn_15 (by decide) (fun c => ?_) (fun c => ?_)
  · have h := op_f h c
    refine lv_aload_n F.1 F.2.1 dX11_runsIn_20 rfl (lv_at hl 0 rfl) ?_
    obtain ⟨z_5, hc, h⟩ := op_b h
    refine k_callV (rv := none) (Wc := (gM T aM z_4)) (W2 := (gM T aM z_5)) (Wn := (gM T aM z_5)) (As := []) (rest := []) F G (mX11_laysThen l D T aM z_4 hc) (cwV 0 F.2.2.2.2 (kg_c kl1012 (kg_c kl1013 (kg_c kl1014 (kg_c kl788 (kg_c kl1006 kg_a))))) rfl rfl rfl (by decide +kernel) ⟨Nat.le_of_ble_eq_true rfl, Nat.le_of_ble_eq_true rfl⟩) 0 rfl (q := (RX11, TX11, 35)) rfl rfl (kCut_F G) rfl hl.1 rfl (Nat.le_of_ble_eq_true rfl) dX11_runsIn_21 ⟨Nat.le_of_ble_eq_true rfl, Nat.le_of_ble_eq_true rfl⟩ (cN := 0) (sN := 0) ⟨rfl, rfl⟩ (fun H locs G => ?_)
    refine lv_aload_n F.1 F.2.1 dX11_runsIn_24 rfl (lv_at hl 0 rfl) ?_
    refine lv_iconst (v := 1) F.1 F.2.1 dX11_runsIn_25 (by decide) ?_
    refine lv_iload_n F.1 F.2.1 dX11_runsIn_26 rfl (lv_at hl 1 rfl) ?_
    refine lv_ishl F.1 F.2.1 dX11_runsIn_27 ?_
    obtain ⟨r_6, z_7, hc, h⟩ := op_b2 h
    refine k_callV (rv := (some (.int r_6))) (Wc := (gM T aM z_5)) (W2 := (gM T aM z_7)) (Wn := (gM T aM z_7)) (As := [.int (1 <<< (x1 &&& 31))]) (rest := []) F G (mX11_until l D T aM z_5 (1 <<< (x1 &&& 31)) hc) (cwV 1 F.2.2.2.2 (kg_c kl1015 (kg_c kl1016 (kg_c kl1017 (kg_c kl788 (kg_c kl1007 kg_a))))) rfl rfl rfl (by decide +kernel) ⟨Nat.le_of_ble_eq_true rfl, Nat.le_of_ble_eq_true rfl⟩) 0 rfl (q := (RX11, TX11, 35)) rfl rfl (kCut_F G) rfl hl.1 rfl (Nat.le_of_ble_eq_true rfl) dX11_runsIn_28 ⟨Nat.le_of_ble_eq_true rfl, Nat.le_of_ble_eq_true rfl⟩ (cN := 0) (sN := 0) ⟨rfl, rfl⟩ (fun H locs G => ?_)
    refine lv_istore_n (lv' := [(2, .int r_6), (0, .ref (aM 0)), (1, .int x1)]) F.1 F.2.1 dX11_runsIn_31 rfl hl (by decide) rfl (fun ls hl => ?_)
    refine lv_aload_n F.1 F.2.1 dX11_runsIn_32 rfl (lv_at hl 1 rfl) ?_
    refine lv_iload_n F.1 F.2.1 dX11_runsIn_33 rfl (lv_at hl 0 rfl) ?_
    refine lv_iconst (v := (-1)) F.1 F.2.1 dX11_runsIn_34 (by decide) ?_
    obtain ⟨j43, hj43, h⟩ := op_j h
    have J43 : ∀ (y_8 : Int32) (H : Heap) (locs : List Loc) (ls : Array Slot), j43 y_8 = some (rR, zR) → Rg D T A st (gM T aM z_7) H locs → lv_has ls 3 [(2, .int r_6)] → W pr l en rmX11_runsIn st mi ag bl me co H locs 0 0 (MQ bl (kQ (some (.int rR)) D (gM T aM zR) A) ag st rmX11_runsIn.cells rmX11_runsIn.slots A) (F0 mi 43 ls [.int y_8, .ref (aM 0)]) := by
      intro y_8 H locs ls h G hl
      rw [hj43] at h
      refine lv_iconst (v := 2) F.1 F.2.1 dX11_runsIn_43 (by decide) ?_
      obtain ⟨r_9, z_10, hc, h⟩ := op_b2 h
      refine k_callV (rv := (some (.int r_9))) (Wc := (gM T aM z_7)) (W2 := (gM T aM z_10)) (Wn := (gM T aM z_10)) (As := [.int y_8, .int 2]) (rest := []) F G (mX11_may l D T aM z_7 y_8 2 hc) (cwV 2 F.2.2.2.2 (kg_c kl809 (kg_c kl810 (kg_c kl811 (kg_c kl788 (kg_c kl806 kg_a))))) rfl rfl rfl (by decide +kernel) ⟨Nat.le_of_ble_eq_true rfl, Nat.le_of_ble_eq_true rfl⟩) 0 rfl (q := (RX11, TX11, 35)) rfl rfl (kCut_F G) rfl hl.1 rfl (Nat.le_of_ble_eq_true rfl) dX11_runsIn_44 ⟨Nat.le_of_ble_eq_true rfl, Nat.le_of_ble_eq_true rfl⟩ (cN := 0) (sN := 0) ⟨rfl, rfl⟩ (fun H locs G => ?_)
      refine lv_if_eq (tgt := 54) F.1 F.2.1 dX11_runsIn_47 (by decide) (fun c => ?_) (fun c => ?_)
      · have h := op_t h c
        refine lv_iconst (v := 0) F.1 F.2.1 dX11_runsIn_54 (by decide) ?_
        obtain ⟨rfl, rfl⟩ := op_2 h
        exact k_iret F hr hlk G dX11_runsIn_55
      · have h := op_f h c
        refine lv_iload_n F.1 F.2.1 dX11_runsIn_50 rfl (lv_at hl 0 rfl) ?_
        refine lv_goto (tgt := 55) F.1 F.2.1 dX11_runsIn_51 (by decide) ?_
        obtain ⟨rfl, rfl⟩ := op_2 h
        exact k_iret F hr hlk G dX11_runsIn_55
    clear hj43
    refine lv_icmp_eq (tgt := 42) F.1 F.2.1 dX11_runsIn_35 (by decide) (fun c => ?_) (fun c => ?_)
    · have h := op_t h c
      refine lv_iconst (v := 0) F.1 F.2.1 dX11_runsIn_42 (by decide) ?_
      exact J43 0 _ _ _ h G (lv_sub hl [0] rfl)
    · have h := op_f h c
      refine lv_iconst (v := 1) F.1 F.2.1 dX11_runsIn_38 (by decide) ?_
      refine lv_goto (tgt := 43) F.1 F.2.1 dX11_runsIn_39 (by decide) ?_
      exact J43 1 _ _ _ h G (lv_sub hl [0] rfl)
  · have h := op_t h c
    refine lv_iconst (v := 0) F.1 F.2.1 dX11_runsIn_18 (by decide) ?_
    obtain ⟨rfl, rfl⟩ := op_2 h
    exact k_iret F hr hlk G dX11_runsIn_19
abbrev rmX11_allIn : Room := ({ frames := 7, cells := 0, slots := 0, locals := 164 } : Room)
noncomputable def qX11_allIn (z : Nat → Nat → Int32) (x1 : Int32) : Option (Int32 × (Nat → Nat → Int32)) :=
  (bs (va_up z 0 (fun _ => 0)) fun z_1 => bd (qX11_isIn x1.toInt64 0 3) fun r_2 => bd2 (qX11_may z_1 r_2 1) fun r_3 z_4 => if r_3 = 0 then some (0, z_4) else bd (qX11_laysThen z_4) fun z_5 => (jn (fun (z_6 : Nat → Nat → Int32) => (jn (fun (z_7 : Nat → Nat → Int32) => (jn (fun (y_8 : Int32) (z_9 : Nat → Nat → Int32) => bd (qX11_rightsOf z_9 (z_9 11)) fun r_10 => bd2 (qX11_until z_9 r_10) fun r_11 z_12 => (jn (fun (y_13 : Int32) => bd2 (qX11_may z_12 y_13 2) fun r_14 z_15 => if r_14 = 0 then some (0, z_15) else some (r_11, z_15)) fun j103 => if r_11 = (-1) then (j103 0) else (j103 1))) fun j78 => if x1 = 3 then bd2 (qX11_forgets (z_7 11)) fun r_16 rw_17 => (bs (va_up z_7 11 rw_17) fun z_18 => (j78 r_16 z_18)) else (j78 0 z_7))) fun j62 => if x1 = 2 then (bs (va_up z_6 11 (upd (z_6 11) 9 (1 - ((z_6 11) 9)))) fun z_19 => (j62 z_19)) else (j62 z_6))) fun j41 => if x1 = 1 then (bs (va_up z_5 11 (upd (z_5 11) 14 1)) fun z_20 => (j41 z_20)) else (j41 z_5)))

set_option maxHeartbeats 4000000 in
set_option maxRecDepth 100000 in
theorem mX11_allIn (l : Launch) (D : va_G) (T : Nat → ClassId) (aM : Nat → Nat) (z : Nat → Nat → Int32) (x1 : Int32) {rR : Int32} {zR : Nat → Nat → Int32} (hres : qX11_allIn z x1 = some (rR, zR)) : Ct l yX11_allIn (Cond.code yX11_allIn cX11_allIn 4 (some .int) :: kAll) rmX11_allIn D T [.ref (aM 0), .int x1] (gM T aM z) (some (.int rR)) (gM T aM zR) := by
  refine Ct.of (cc := cX11_allIn) (maxL := 4) (ret := (some .int)) (by decide +kernel) rfl (Nat.le_of_ble_eq_true rfl) ?_
  intro pr en st mi ag bl me co A ls F hr hlk hnm G hl
  have hl : lv_has ls 4 [(0, .ref (aM 0)), (1, .int x1)] := hl
  have h := hres
  unfold qX11_allIn at h
  refine lv_aload_n F.1 F.2.1 dX11_allIn_0 rfl (lv_at hl 0 rfl) ?_
  refine lv_iconst (v := 0) F.1 F.2.1 dX11_allIn_1 (by decide) ?_
  obtain ⟨z_1, e9, h⟩ := op_st h
  refine k_put F G 0 rfl (N := 35) (Tt := TX11) rfl kf11 tyX11_ok nmX11 0 (by decide) kl804 rfl (v := .int 0) rfl rfl (Nat.le_of_ble_eq_true rfl) dX11_allIn_2 (Wn := (gM T aM z_1)) (by subst e9; rfl) (fun H locs G => ?_)
  clear e9
  refine lv_aload_n F.1 F.2.1 dX11_allIn_5 rfl (lv_at hl 0 rfl) ?_
  refine lv_iload_n F.1 F.2.1 dX11_allIn_6 rfl (lv_at hl 1 rfl) ?_
  refine lv_i2l (v := x1.toInt64) F.1 F.2.1 dX11_allIn_7 rfl ?_
  refine lv_lconst (v := 0) F.1 F.2.1 dX11_allIn_8 (by decide) ?_
  refine lv_ldc2 (v := 3) F.1 F.2.1 F.2.2.2.1 (F.2.2.2.2 _ kl996) dX11_allIn_9 ?_
  obtain ⟨r_2, hc, h⟩ := op_b h
  refine k_callS (rv := (some (.int r_2))) (Wc := ([] : va_W)) (W2 := ([] : va_W)) (Wn := (gM T aM z_1)) (As := [.long x1.toInt64, .long 0, .long 3]) (rest := [.ref (aM 0)]) F G (mX11_isIn l D T x1.toInt64 0 3 hc) (va_cwS 3 F.2.2.2.2 (kg_c kl813 (kg_c kl814 (kg_c kl788 (kg_c kl805 kg_a)))) rfl rfl rfl (by decide +kernel) ⟨Nat.le_of_ble_eq_true rfl, Nat.le_of_ble_eq_true rfl⟩) (kCut_0 G) rfl hl.1 rfl (Nat.le_of_ble_eq_true rfl) dX11_allIn_12 ⟨Nat.le_of_ble_eq_true rfl, Nat.le_of_ble_eq_true rfl⟩ (cN := 0) (sN := 0) ⟨rfl, rfl⟩ (fun H locs G => ?_)
  refine lv_iconst (v := 1) F.1 F.2.1 dX11_allIn_15 (by decide) ?_
  obtain ⟨r_3, z_4, hc, h⟩ := op_b2 h
  refine k_callV (rv := (some (.int r_3))) (Wc := (gM T aM z_1)) (W2 := (gM T aM z_4)) (Wn := (gM T aM z_4)) (As := [.int r_2, .int 1]) (rest := []) F G (mX11_may l D T aM z_1 r_2 1 hc) (cwV 2 F.2.2.2.2 (kg_c kl809 (kg_c kl810 (kg_c kl811 (kg_c kl788 (kg_c kl806 kg_a))))) rfl rfl rfl (by decide +kernel) ⟨Nat.le_of_ble_eq_true rfl, Nat.le_of_ble_eq_true rfl⟩) 0 rfl (q := (RX11, TX11, 35)) rfl rfl (kCut_F G) rfl hl.1 rfl (Nat.le_of_ble_eq_true rfl) dX11_allIn_16 ⟨Nat.le_of_ble_eq_true rfl, Nat.le_of_ble_eq_true rfl⟩ (cN := 0) (sN := 0) ⟨rfl, rfl⟩ (fun H locs G => ?_)
  refine lv_if_ne (tgt := 24) F.1 F.2.1 dX11_allIn_19 (by decide) (fun c => ?_) (fun c => ?_)
  · have h := op_f h c
    refine lv_aload_n F.1 F.2.1 dX11_allIn_24 rfl (lv_at hl 0 rfl) ?_
    obtain ⟨z_5, hc, h⟩ := op_b h
    refine k_callV (rv := none) (Wc := (gM T aM z_4)) (W2 := (gM T aM z_5)) (Wn := (gM T aM z_5)) (As := []) (rest := []) F G (mX11_laysThen l D T aM z_4 hc) (cwV 0 F.2.2.2.2 (kg_c kl1012 (kg_c kl1013 (kg_c kl1014 (kg_c kl788 (kg_c kl1006 kg_a))))) rfl rfl rfl (by decide +kernel) ⟨Nat.le_of_ble_eq_true rfl, Nat.le_of_ble_eq_true rfl⟩) 0 rfl (q := (RX11, TX11, 35)) rfl rfl (kCut_F G) rfl hl.1 rfl (Nat.le_of_ble_eq_true rfl) dX11_allIn_25 ⟨Nat.le_of_ble_eq_true rfl, Nat.le_of_ble_eq_true rfl⟩ (cN := 0) (sN := 0) ⟨rfl, rfl⟩ (fun H locs G => ?_)
    refine lv_iload_n F.1 F.2.1 dX11_allIn_28 rfl (lv_at hl 1 rfl) ?_
    refine lv_iconst (v := 1) F.1 F.2.1 dX11_allIn_29 (by decide) ?_
    obtain ⟨j41, hj41, h⟩ := op_j h
    have J41 : ∀ (z_6 : Nat → Nat → Int32) (H : Heap) (locs : List Loc) (ls : Array Slot), j41 z_6 = some (rR, zR) → Rg D T A st (gM T aM z_6) H locs → lv_has ls 4 [(0, .ref (aM 0)), (1, .int x1)] → W pr l en rmX11_allIn st mi ag bl me co H locs 0 0 (MQ bl (kQ (some (.int rR)) D (gM T aM zR) A) ag st rmX11_allIn.cells rmX11_allIn.slots A) (F0 mi 41 ls []) := by
      intro z_6 H locs ls h G hl
      rw [hj41] at h
      refine lv_iload_n F.1 F.2.1 dX11_allIn_41 rfl (lv_at hl 1 rfl) ?_
      refine lv_iconst (v := 2) F.1 F.2.1 dX11_allIn_42 (by decide) ?_
      obtain ⟨j62, hj62, h⟩ := op_j h
      have J62 : ∀ (z_7 : Nat → Nat → Int32) (H : Heap) (locs : List Loc) (ls : Array Slot), j62 z_7 = some (rR, zR) → Rg D T A st (gM T aM z_7) H locs → lv_has ls 4 [(0, .ref (aM 0)), (1, .int x1)] → W pr l en rmX11_allIn st mi ag bl me co H locs 0 0 (MQ bl (kQ (some (.int rR)) D (gM T aM zR) A) ag st rmX11_allIn.cells rmX11_allIn.slots A) (F0 mi 62 ls []) := by
        intro z_7 H locs ls h G hl
        rw [hj62] at h
        refine lv_iload_n F.1 F.2.1 dX11_allIn_62 rfl (lv_at hl 1 rfl) ?_
        refine lv_iconst (v := 3) F.1 F.2.1 dX11_allIn_63 (by decide) ?_
        obtain ⟨j78, hj78, h⟩ := op_j h
        have J78 : ∀ (y_8 : Int32) (z_9 : Nat → Nat → Int32) (H : Heap) (locs : List Loc) (ls : Array Slot), j78 y_8 z_9 = some (rR, zR) → Rg D T A st (gM T aM z_9) H locs → lv_has ls 4 [(0, .ref (aM 0))] → W pr l en rmX11_allIn st mi ag bl me co H locs 0 0 (MQ bl (kQ (some (.int rR)) D (gM T aM zR) A) ag st rmX11_allIn.cells rmX11_allIn.slots A) (F0 mi 78 ls [.int y_8]) := by
          intro y_8 z_9 H locs ls h G hl
          rw [hj78] at h
          refine lv_istore_n (lv' := [(2, .int y_8), (0, .ref (aM 0))]) F.1 F.2.1 dX11_allIn_78 rfl hl (by decide) rfl (fun ls hl => ?_)
          refine lv_aload_n F.1 F.2.1 dX11_allIn_79 rfl (lv_at hl 1 rfl) ?_
          refine lv_aload_n F.1 F.2.1 dX11_allIn_80 rfl (lv_at hl 1 rfl) ?_
          refine lv_aload_n F.1 F.2.1 dX11_allIn_81 rfl (lv_at hl 1 rfl) ?_
          refine k_get F G 0 rfl (N := 35) (Tt := TX11) rfl kf11 11 (by decide) kl791 (v := .ref (aM 7)) rfl dX11_allIn_82 ?_
          obtain ⟨r_10, hc, h⟩ := op_b h
          refine k_callV (rv := (some (.int r_10))) (Wc := (gMR T aM (aM 7) z_9 (z_9 11))) (W2 := (gMR T aM (aM 7) z_9 (z_9 11))) (Wn := (gM T aM z_9)) (As := [.ref (aM 7)]) (rest := [.ref (aM 0)]) F G (mX11_rightsOf l D T aM (aM 7) z_9 (z_9 11) hc) (cwV 1 F.2.2.2.2 (kg_c kl932 (kg_c kl933 (kg_c kl934 (kg_c kl788 (kg_c kl921 kg_a))))) rfl rfl rfl (by decide +kernel) ⟨Nat.le_of_ble_eq_true rfl, Nat.le_of_ble_eq_true rfl⟩) 0 rfl (q := (RX11, TX11, 35)) rfl rfl (kCut_R G [0, 1, 2, 3, 4, 7] rfl rfl) rfl hl.1 rfl (Nat.le_of_ble_eq_true rfl) dX11_allIn_85 ⟨Nat.le_of_ble_eq_true rfl, Nat.le_of_ble_eq_true rfl⟩ (cN := 0) (sN := 0) ⟨rfl, rfl⟩ (fun H locs G => ?_)
          obtain ⟨r_11, z_12, hc, h⟩ := op_b2 h
          refine k_callV (rv := (some (.int r_11))) (Wc := (gM T aM z_9)) (W2 := (gM T aM z_12)) (Wn := (gM T aM z_12)) (As := [.int r_10]) (rest := []) F G (mX11_until l D T aM z_9 r_10 hc) (cwV 1 F.2.2.2.2 (kg_c kl1015 (kg_c kl1016 (kg_c kl1017 (kg_c kl788 (kg_c kl1007 kg_a))))) rfl rfl rfl (by decide +kernel) ⟨Nat.le_of_ble_eq_true rfl, Nat.le_of_ble_eq_true rfl⟩) 0 rfl (q := (RX11, TX11, 35)) rfl rfl (kCut_F G) rfl hl.1 rfl (Nat.le_of_ble_eq_true rfl) dX11_allIn_88 ⟨Nat.le_of_ble_eq_true rfl, Nat.le_of_ble_eq_true rfl⟩ (cN := 0) (sN := 0) ⟨rfl, rfl⟩ (fun H locs G => ?_)
          refine lv_istore_n (lv' := [(3, .int r_11), (2, .int y_8), (0, .ref (aM 0))]) F.1 F.2.1 dX11_allIn_91 rfl hl (by decide) rfl (fun ls hl => ?_)
          refine lv_aload_n F.1 F.2.1 dX11_allIn_92 rfl (lv_at hl 2 rfl) ?_
          refine lv_iload_n F.1 F.2.1 dX11_allIn_93 rfl (lv_at hl 0 rfl) ?_
          refine lv_iconst (v := (-1)) F.1 F.2.1 dX11_allIn_94 (by decide) ?_
          obtain ⟨j103, hj103, h⟩ := op_j h
          have J103 : ∀ (y_13 : Int32) (H : Heap) (locs : List Loc) (ls : Array Slot), j103 y_13 = some (rR, zR) → Rg D T A st (gM T aM z_12) H locs → lv_has ls 4 [(3, .int r_11)] → W pr l en rmX11_allIn st mi ag bl me co H locs 0 0 (MQ bl (kQ (some (.int rR)) D (gM T aM zR) A) ag st rmX11_allIn.cells rmX11_allIn.slots A) (F0 mi 103 ls [.int y_13, .ref (aM 0)]) := by
            intro y_13 H locs ls h G hl
            rw [hj103] at h
            refine lv_iconst (v := 2) F.1 F.2.1 dX11_allIn_103 (by decide) ?_
            obtain ⟨r_14, z_15, hc, h⟩ := op_b2 h
            refine k_callV (rv := (some (.int r_14))) (Wc := (gM T aM z_12)) (W2 := (gM T aM z_15)) (Wn := (gM T aM z_15)) (As := [.int y_13, .int 2]) (rest := []) F G (mX11_may l D T aM z_12 y_13 2 hc) (cwV 2 F.2.2.2.2 (kg_c kl809 (kg_c kl810 (kg_c kl811 (kg_c kl788 (kg_c kl806 kg_a))))) rfl rfl rfl (by decide +kernel) ⟨Nat.le_of_ble_eq_true rfl, Nat.le_of_ble_eq_true rfl⟩) 0 rfl (q := (RX11, TX11, 35)) rfl rfl (kCut_F G) rfl hl.1 rfl (Nat.le_of_ble_eq_true rfl) dX11_allIn_104 ⟨Nat.le_of_ble_eq_true rfl, Nat.le_of_ble_eq_true rfl⟩ (cN := 0) (sN := 0) ⟨rfl, rfl⟩ (fun H locs G => ?_)
            refine lv_if_eq (tgt := 114) F.1 F.2.1 dX11_allIn_107 (by decide) (fun c => ?_) (fun c => ?_)
            · have h := op_t h c
              refine lv_iconst (v := 0) F.1 F.2.1 dX11_allIn_114 (by decide) ?_
              obtain ⟨rfl, rfl⟩ := op_2 h
              exact k_iret F hr hlk G dX11_allIn_115
            · have h := op_f h c
              refine lv_iload_n F.1 F.2.1 dX11_allIn_110 rfl (lv_at hl 0 rfl) ?_
              refine lv_goto (tgt := 115) F.1 F.2.1 dX11_allIn_111 (by decide) ?_
              obtain ⟨rfl, rfl⟩ := op_2 h
              exact k_iret F hr hlk G dX11_allIn_115
          clear hj103
          refine lv_icmp_eq (tgt := 102) F.1 F.2.1 dX11_allIn_95 (by decide) (fun c => ?_) (fun c => ?_)
          · have h := op_t h c
            refine lv_iconst (v := 0) F.1 F.2.1 dX11_allIn_102 (by decide) ?_
            exact J103 0 _ _ _ h G (lv_sub hl [0] rfl)
          · have h := op_f h c
            refine lv_iconst (v := 1) F.1 F.2.1 dX11_allIn_98 (by decide) ?_
            refine lv_goto (tgt := 103) F.1 F.2.1 dX11_allIn_99 (by decide) ?_
            exact J103 1 _ _ _ h G (lv_sub hl [0] rfl)
        clear hj78
        refine lv_icmp_ne (tgt := 77) F.1 F.2.1 dX11_allIn_64 (by decide) (fun c => ?_) (fun c => ?_)
        · have h := op_f h c
          refine lv_iconst (v := 0) F.1 F.2.1 dX11_allIn_77 (by decide) ?_
          exact J78 0 z_7 _ _ _ h G (lv_sub hl [0] rfl)
        · have h := op_t h c
          refine lv_aload_n F.1 F.2.1 dX11_allIn_67 rfl (lv_at hl 0 rfl) ?_
          refine k_get F G 0 rfl (N := 35) (Tt := TX11) rfl kf11 11 (by decide) kl791 (v := .ref (aM 7)) rfl dX11_allIn_68 ?_
          obtain ⟨r_16, rw_17, hc, h⟩ := op_b2 h
          obtain ⟨z_18, e9, h⟩ := op_st h
          refine k_callS (rv := (some (.int r_16))) (Wc := (gFR T (aM 7) (z_7 11))) (W2 := (gFR T (aM 7) rw_17)) (Wn := (gM T aM z_18)) (As := [.ref (aM 7)]) (rest := []) F G (mX11_forgets l D T (aM 7) (z_7 11) hc) (va_cwS 1 F.2.2.2.2 (kg_c kl1020 (kg_c kl1021 (kg_c kl788 (kg_c kl1018 kg_a)))) rfl rfl rfl (by decide +kernel) ⟨Nat.le_of_ble_eq_true rfl, Nat.le_of_ble_eq_true rfl⟩) (kCut_1 G 7 rfl (by subst e9; rfl)) rfl hl.1 rfl (Nat.le_of_ble_eq_true rfl) dX11_allIn_71 ⟨Nat.le_of_ble_eq_true rfl, Nat.le_of_ble_eq_true rfl⟩ (cN := 0) (sN := 0) ⟨rfl, rfl⟩ (fun H locs G => ?_)
          clear e9
          refine lv_goto (tgt := 78) F.1 F.2.1 dX11_allIn_74 (by decide) ?_
          exact J78 r_16 z_18 _ _ _ h G (lv_sub hl [0] rfl)
      clear hj62
      refine lv_icmp_ne (tgt := 62) F.1 F.2.1 dX11_allIn_43 (by decide) (fun c => ?_) (fun c => ?_)
      · have h := op_f h c
        exact J62 z_6 _ _ _ h G hl
      · have h := op_t h c
        refine lv_aload_n F.1 F.2.1 dX11_allIn_46 rfl (lv_at hl 0 rfl) ?_
        refine k_get F G 0 rfl (N := 35) (Tt := TX11) rfl kf11 11 (by decide) kl791 (v := .ref (aM 7)) rfl dX11_allIn_47 ?_
        refine lv_bipush (v := 9) F.1 F.2.1 dX11_allIn_50 (by decide) ?_
        refine lv_iconst (v := 1) F.1 F.2.1 dX11_allIn_52 (by decide) ?_
        refine lv_aload_n F.1 F.2.1 dX11_allIn_53 rfl (lv_at hl 0 rfl) ?_
        refine k_get F G 0 rfl (N := 35) (Tt := TX11) rfl kf11 11 (by decide) kl791 (v := .ref (aM 7)) rfl dX11_allIn_54 ?_
        refine lv_bipush (v := 9) F.1 F.2.1 dX11_allIn_57 (by decide) ?_
        refine k_ialdN F G 7 rfl (kin (by decide +kernel)) 9 (by decide +kernel) dX11_allIn_59 ?_
        refine lv_isub F.1 F.2.1 dX11_allIn_60 ?_
        obtain ⟨z_19, e9, h⟩ := op_st h
        refine k_iastN F G 7 rfl (kin (by decide +kernel)) 9 (by decide +kernel) dX11_allIn_61 (Wn := (gM T aM z_19)) (by subst e9; rfl) (fun H locs G => ?_)
        clear e9
        exact J62 z_19 _ _ _ h G hl
    clear hj41
    refine lv_icmp_ne (tgt := 41) F.1 F.2.1 dX11_allIn_30 (by decide) (fun c => ?_) (fun c => ?_)
    · have h := op_f h c
      exact J41 z_5 _ _ _ h G hl
    · have h := op_t h c
      refine lv_aload_n F.1 F.2.1 dX11_allIn_33 rfl (lv_at hl 0 rfl) ?_
      refine k_get F G 0 rfl (N := 35) (Tt := TX11) rfl kf11 11 (by decide) kl791 (v := .ref (aM 7)) rfl dX11_allIn_34 ?_
      refine lv_bipush (v := 14) F.1 F.2.1 dX11_allIn_37 (by decide) ?_
      refine lv_iconst (v := 1) F.1 F.2.1 dX11_allIn_39 (by decide) ?_
      obtain ⟨z_20, e9, h⟩ := op_st h
      refine k_iastN F G 7 rfl (kin (by decide +kernel)) 14 (by decide +kernel) dX11_allIn_40 (Wn := (gM T aM z_20)) (by subst e9; rfl) (fun H locs G => ?_)
      clear e9
      exact J41 z_20 _ _ _ h G hl
  · have h := op_t h c
    refine lv_iconst (v := 0) F.1 F.2.1 dX11_allIn_22 (by decide) ?_
    obtain ⟨rfl, rfl⟩ := op_2 h
    exact k_iret F hr hlk G dX11_allIn_23
abbrev rmX11_peakIn : Room := ({ frames := 6, cells := 0, slots := 0, locals := 141 } : Room)
noncomputable def qX11_peakIn_L56 (x1_8 : Int32) (K : Int32 → (Nat → Nat → Int32) → Option (Int32 × (Nat → Nat → Int32))) : Nat → Int32 → Int32 → (Nat → Nat → Int32) → Option (Int32 × (Nat → Nat → Int32))
  | 0, _, _, _ => none
  | n + 1, x3_9, x4_10, z_11 =>
    if x1_8 ≤ x4_10 then (K x3_9 z_11) else bd2 (qX11_ticks z_11 (z_11 11)) fun r_14 rw_15 => (bs (va_up z_11 11 rw_15) fun z_16 => (jn (fun (y_17 : Int32) => (qX11_peakIn_L56 x1_8 K n y_17 (x4_10 + 1) z_16)) fun j84 => if r_14 ≤ x3_9 then (j84 x3_9) else (j84 r_14)))

noncomputable def qX11_peakIn (z : Nat → Nat → Int32) (x1 : Int32) (x2 : Int32) : Option (Int32 × (Nat → Nat → Int32)) :=
  (bs (va_up z 0 (fun _ => 0)) fun z_1 => bd (qX11_areTicks x1) fun r_2 => (jn (fun (y_3 : Int32) => bd2 (qX11_may z_1 y_3 1) fun r_4 z_5 => if r_4 = 0 then some (0, z_5) else bd (qX11_laysThen z_5) fun z_6 => (bs (va_up z_6 11 (upd (z_6 11) 6 x2)) fun z_7 => (qX11_peakIn_L56  x1 (fun (x3_12 : Int32) (z_13 : Nat → Nat → Int32) => some (x3_12, z_13)) fu 0 0 z_7))) fun j30 => jn (fun (_ : Unit) => (j30 0)) fun j29 => if r_2 = 0 then (j29 ()) else bd (qX11_isIn x2.toInt64 1 9999) fun r_18 => if r_18 = 0 then (j29 ()) else (j30 1)))

set_option maxHeartbeats 4000000 in
set_option maxRecDepth 100000 in
theorem mX11_peakIn (l : Launch) (D : va_G) (T : Nat → ClassId) (aM : Nat → Nat) (z : Nat → Nat → Int32) (x1 : Int32) (x2 : Int32) {rR : Int32} {zR : Nat → Nat → Int32} (hres : qX11_peakIn z x1 x2 = some (rR, zR)) : Ct l yX11_peakIn (Cond.code yX11_peakIn cX11_peakIn 6 (some .int) :: kAll) rmX11_peakIn D T [.ref (aM 0), .int x1, .int x2] (gM T aM z) (some (.int rR)) (gM T aM zR) := by
  refine Ct.of (cc := cX11_peakIn) (maxL := 6) (ret := (some .int)) (by decide +kernel) rfl (Nat.le_of_ble_eq_true rfl) ?_
  intro pr en st mi ag bl me co A ls F hr hlk hnm G hl
  have hl : lv_has ls 6 [(0, .ref (aM 0)), (1, .int x1), (2, .int x2)] := hl
  have h := hres
  unfold qX11_peakIn at h
  refine lv_aload_n F.1 F.2.1 dX11_peakIn_0 rfl (lv_at hl 0 rfl) ?_
  refine lv_iconst (v := 0) F.1 F.2.1 dX11_peakIn_1 (by decide) ?_
  obtain ⟨z_1, e9, h⟩ := op_st h
  refine k_put F G 0 rfl (N := 35) (Tt := TX11) rfl kf11 tyX11_ok nmX11 0 (by decide) kl804 rfl (v := .int 0) rfl rfl (Nat.le_of_ble_eq_true rfl) dX11_peakIn_2 (Wn := (gM T aM z_1)) (by subst e9; rfl) (fun H locs G => ?_)
  clear e9
  refine lv_aload_n F.1 F.2.1 dX11_peakIn_5 rfl (lv_at hl 0 rfl) ?_
  refine lv_iload_n F.1 F.2.1 dX11_peakIn_6 rfl (lv_at hl 1 rfl) ?_
  obtain ⟨r_2, hc, h⟩ := op_b h
  refine k_callS (rv := (some (.int r_2))) (Wc := ([] : va_W)) (W2 := ([] : va_W)) (Wn := (gM T aM z_1)) (As := [.int x1]) (rest := [.ref (aM 0)]) F G (mX11_areTicks l D T x1 hc) (va_cwS 1 F.2.2.2.2 (kg_c kl1026 (kg_c kl1027 (kg_c kl788 (kg_c kl1022 kg_a)))) rfl rfl rfl (by decide +kernel) ⟨Nat.le_of_ble_eq_true rfl, Nat.le_of_ble_eq_true rfl⟩) (kCut_0 G) rfl hl.1 rfl (Nat.le_of_ble_eq_true rfl) dX11_peakIn_7 ⟨Nat.le_of_ble_eq_true rfl, Nat.le_of_ble_eq_true rfl⟩ (cN := 0) (sN := 0) ⟨rfl, rfl⟩ (fun H locs G => ?_)
  obtain ⟨j30, hj30, h⟩ := op_j h
  have J30 : ∀ (y_3 : Int32) (H : Heap) (locs : List Loc) (ls : Array Slot), j30 y_3 = some (rR, zR) → Rg D T A st (gM T aM z_1) H locs → lv_has ls 6 [(0, .ref (aM 0)), (1, .int x1), (2, .int x2)] → W pr l en rmX11_peakIn st mi ag bl me co H locs 0 0 (MQ bl (kQ (some (.int rR)) D (gM T aM zR) A) ag st rmX11_peakIn.cells rmX11_peakIn.slots A) (F0 mi 30 ls [.int y_3, .ref (aM 0)]) := by
    intro y_3 H locs ls h G hl
    rw [hj30] at h
    refine lv_iconst (v := 1) F.1 F.2.1 dX11_peakIn_30 (by decide) ?_
    obtain ⟨r_4, z_5, hc, h⟩ := op_b2 h
    refine k_callV (rv := (some (.int r_4))) (Wc := (gM T aM z_1)) (W2 := (gM T aM z_5)) (Wn := (gM T aM z_5)) (As := [.int y_3, .int 1]) (rest := []) F G (mX11_may l D T aM z_1 y_3 1 hc) (cwV 2 F.2.2.2.2 (kg_c kl809 (kg_c kl810 (kg_c kl811 (kg_c kl788 (kg_c kl806 kg_a))))) rfl rfl rfl (by decide +kernel) ⟨Nat.le_of_ble_eq_true rfl, Nat.le_of_ble_eq_true rfl⟩) 0 rfl (q := (RX11, TX11, 35)) rfl rfl (kCut_F G) rfl hl.1 rfl (Nat.le_of_ble_eq_true rfl) dX11_peakIn_31 ⟨Nat.le_of_ble_eq_true rfl, Nat.le_of_ble_eq_true rfl⟩ (cN := 0) (sN := 0) ⟨rfl, rfl⟩ (fun H locs G => ?_)
    refine lv_if_ne (tgt := 39) F.1 F.2.1 dX11_peakIn_34 (by decide) (fun c => ?_) (fun c => ?_)
    · have h := op_f h c
      refine lv_aload_n F.1 F.2.1 dX11_peakIn_39 rfl (lv_at hl 0 rfl) ?_
      obtain ⟨z_6, hc, h⟩ := op_b h
      refine k_callV (rv := none) (Wc := (gM T aM z_5)) (W2 := (gM T aM z_6)) (Wn := (gM T aM z_6)) (As := []) (rest := []) F G (mX11_laysThen l D T aM z_5 hc) (cwV 0 F.2.2.2.2 (kg_c kl1012 (kg_c kl1013 (kg_c kl1014 (kg_c kl788 (kg_c kl1006 kg_a))))) rfl rfl rfl (by decide +kernel) ⟨Nat.le_of_ble_eq_true rfl, Nat.le_of_ble_eq_true rfl⟩) 0 rfl (q := (RX11, TX11, 35)) rfl rfl (kCut_F G) rfl hl.1 rfl (Nat.le_of_ble_eq_true rfl) dX11_peakIn_40 ⟨Nat.le_of_ble_eq_true rfl, Nat.le_of_ble_eq_true rfl⟩ (cN := 0) (sN := 0) ⟨rfl, rfl⟩ (fun H locs G => ?_)
      refine lv_aload_n F.1 F.2.1 dX11_peakIn_43 rfl (lv_at hl 0 rfl) ?_
      refine k_get F G 0 rfl (N := 35) (Tt := TX11) rfl kf11 11 (by decide) kl791 (v := .ref (aM 7)) rfl dX11_peakIn_44 ?_
      refine lv_bipush (v := 6) F.1 F.2.1 dX11_peakIn_47 (by decide) ?_
      refine lv_iload_n F.1 F.2.1 dX11_peakIn_49 rfl (lv_at hl 2 rfl) ?_
      obtain ⟨z_7, e9, h⟩ := op_st h
      refine k_iastN F G 7 rfl (kin (by decide +kernel)) 6 (by decide +kernel) dX11_peakIn_50 (Wn := (gM T aM z_7)) (by subst e9; rfl) (fun H locs G => ?_)
      clear e9
      refine lv_iconst (v := 0) F.1 F.2.1 dX11_peakIn_51 (by decide) ?_
      refine lv_istore_n (lv' := [(3, .int 0), (0, .ref (aM 0)), (1, .int x1), (2, .int x2)]) F.1 F.2.1 dX11_peakIn_52 rfl hl (by decide) rfl (fun ls hl => ?_)
      refine lv_iconst (v := 0) F.1 F.2.1 dX11_peakIn_53 (by decide) ?_
      refine lv_istore (lv' := [(4, .int 0), (3, .int 0), (0, .ref (aM 0)), (1, .int x1), (2, .int x2)]) F.1 F.2.1 dX11_peakIn_54 hl (by decide) rfl (fun ls hl => ?_)
      have L56 : ∀ (x1_8 : Int32) (K : Int32 → (Nat → Nat → Int32) → Option (Int32 × (Nat → Nat → Int32))) (hK : ∀ (x3_12 : Int32) (z_13 : Nat → Nat → Int32) (H : Heap) (locs : List Loc) (ls : Array Slot), K x3_12 z_13 = some (rR, zR) → Rg D T A st (gM T aM z_13) H locs → lv_has ls 6 [(3, .int x3_12)] → W pr l en rmX11_peakIn st mi ag bl me co H locs 0 0 (MQ bl (kQ (some (.int rR)) D (gM T aM zR) A) ag st rmX11_peakIn.cells rmX11_peakIn.slots A) (F0 mi 91 ls [])) (n : Nat) (x3_9 : Int32) (x4_10 : Int32) (z_11 : Nat → Nat → Int32) (H : Heap) (locs : List Loc) (ls : Array Slot), qX11_peakIn_L56 x1_8 K n x3_9 x4_10 z_11 = some (rR, zR) → Rg D T A st (gM T aM z_11) H locs → lv_has ls 6 [(0, .ref (aM 0)), (1, .int x1_8), (3, .int x3_9), (4, .int x4_10)] → W pr l en rmX11_peakIn st mi ag bl me co H locs 0 0 (MQ bl (kQ (some (.int rR)) D (gM T aM zR) A) ag st rmX11_peakIn.cells rmX11_peakIn.slots A) (F0 mi 56 ls []) := by
        intro x1_8 K hK n
        induction n with
        | zero => intro x3_9 x4_10 z_11 H locs ls h; exact op_n h
        | succ n ih =>
          intro x3_9 x4_10 z_11 H locs ls h G hl
          rw [qX11_peakIn_L56] at h
          refine lv_iload F.1 F.2.1 dX11_peakIn_56 (lv_at hl 3 rfl) ?_
          refine lv_iload_n F.1 F.2.1 dX11_peakIn_58 rfl (lv_at hl 1 rfl) ?_
          refine lv_icmp_ge (tgt := 91) F.1 F.2.1 dX11_peakIn_59 (by decide) (fun c => ?_) (fun c => ?_)
          · have h := op_t h c
            exact hK x3_9 z_11 _ _ _ h G (lv_sub hl [2] rfl)
          · have h := op_f h c
            refine lv_aload_n F.1 F.2.1 dX11_peakIn_62 rfl (lv_at hl 0 rfl) ?_
            refine lv_aload_n F.1 F.2.1 dX11_peakIn_63 rfl (lv_at hl 0 rfl) ?_
            refine k_get F G 0 rfl (N := 35) (Tt := TX11) rfl kf11 11 (by decide) kl791 (v := .ref (aM 7)) rfl dX11_peakIn_64 ?_
            obtain ⟨r_14, rw_15, hc, h⟩ := op_b2 h
            obtain ⟨z_16, e9, h⟩ := op_st h
            refine k_callV (rv := (some (.int r_14))) (Wc := (gMR T aM (aM 7) z_11 (z_11 11))) (W2 := (gMR T aM (aM 7) z_11 rw_15)) (Wn := (gM T aM z_16)) (As := [.ref (aM 7)]) (rest := []) F G (mX11_ticks l D T aM (aM 7) z_11 (z_11 11) hc) (cwV 1 F.2.2.2.2 (kg_c kl1008 (kg_c kl1009 (kg_c kl1010 (kg_c kl788 (kg_c kl959 kg_a))))) rfl rfl rfl (by decide +kernel) ⟨Nat.le_of_ble_eq_true rfl, Nat.le_of_ble_eq_true rfl⟩) 0 rfl (q := (RX11, TX11, 35)) rfl rfl (kCut_G (Wr := [(aM 5, .inl (T 0, 96, .inl (z_11 9))), (aM 6, .inl (T 0, 411, .inl (z_11 10))), (aM 8, .inl (T 0, 3288, .inl (z_11 12))), (aM 9, .inl (T 0, 822, .inl (z_11 13))), (aM 10, .inl (T 3, 2, .inl (z_11 14))), (aM 11, .inl (T 0, 900, .inl (z_11 16))), (aM 12, .inl (T 0, 411, .inl (z_11 17))), (aM 13, .inl (T 0, 48, .inl (z_11 18))), (aM 14, .inl (T 0, 12, .inl (z_11 19))), (aM 15, .inl (T 0, 24, .inl (z_11 20))), (aM 16, .inl (T 0, 8, .inl (z_11 21))), (aM 17, .inl (T 0, 96, .inl (z_11 22)))]) G [0, 1, 2, 3, 4, 7] [5, 6, 8, 9, 10, 11, 12, 13, 14, 15, 16, 17] rfl rfl rfl rfl (by decide) [12, 13, 14, 15, 16, 0, 1, 17, 2, 3, 4, 5, 6, 7, 8, 9, 10, 11] rfl (by subst e9; rfl)) rfl hl.1 rfl (Nat.le_of_ble_eq_true rfl) dX11_peakIn_67 ⟨Nat.le_of_ble_eq_true rfl, Nat.le_of_ble_eq_true rfl⟩ (cN := 0) (sN := 0) ⟨rfl, rfl⟩ (fun H locs G => ?_)
            clear e9
            refine lv_istore (lv' := [(5, .int r_14), (0, .ref (aM 0)), (1, .int x1_8), (3, .int x3_9), (4, .int x4_10)]) F.1 F.2.1 dX11_peakIn_70 hl (by decide) rfl (fun ls hl => ?_)
            refine lv_iload F.1 F.2.1 dX11_peakIn_72 (lv_at hl 0 rfl) ?_
            refine lv_iload_n F.1 F.2.1 dX11_peakIn_74 rfl (lv_at hl 3 rfl) ?_
            obtain ⟨j84, hj84, h⟩ := op_j h
            have J84 : ∀ (y_17 : Int32) (H : Heap) (locs : List Loc) (ls : Array Slot), j84 y_17 = some (rR, zR) → Rg D T A st (gM T aM z_16) H locs → lv_has ls 6 [(0, .ref (aM 0)), (1, .int x1_8), (4, .int x4_10)] → W pr l en rmX11_peakIn st mi ag bl me co H locs 0 0 (MQ bl (kQ (some (.int rR)) D (gM T aM zR) A) ag st rmX11_peakIn.cells rmX11_peakIn.slots A) (F0 mi 84 ls [.int y_17]) := by
              intro y_17 H locs ls h G hl
              rw [hj84] at h
              refine lv_istore_n (lv' := [(3, .int y_17), (0, .ref (aM 0)), (1, .int x1_8), (4, .int x4_10)]) F.1 F.2.1 dX11_peakIn_84 rfl hl (by decide) rfl (fun ls hl => ?_)
              refine lv_iinc (v := (x4_10 + 1)) (lv' := [(4, .int (x4_10 + 1)), (3, .int y_17), (0, .ref (aM 0)), (1, .int x1_8)]) F.1 F.2.1 dX11_peakIn_85 hl (k := 3) rfl rfl (by decide) rfl (fun ls hl => ?_)
              refine lv_goto (tgt := 56) F.1 F.2.1 dX11_peakIn_88 (by decide) ?_
              exact ih y_17 (x4_10 + 1) z_16 _ _ _ h G (lv_sub hl [2, 3, 1, 0] rfl)
            clear hj84
            refine lv_icmp_le (tgt := 83) F.1 F.2.1 dX11_peakIn_75 (by decide) (fun c => ?_) (fun c => ?_)
            · have h := op_t h c
              refine lv_iload_n F.1 F.2.1 dX11_peakIn_83 rfl (lv_at hl 3 rfl) ?_
              exact J84 x3_9 _ _ _ h G (lv_sub hl [1, 2, 4] rfl)
            · have h := op_f h c
              refine lv_iload F.1 F.2.1 dX11_peakIn_78 (lv_at hl 0 rfl) ?_
              refine lv_goto (tgt := 84) F.1 F.2.1 dX11_peakIn_80 (by decide) ?_
              exact J84 r_14 _ _ _ h G (lv_sub hl [1, 2, 4] rfl)
      refine L56  x1 _ (fun x3_12 z_13 H locs ls h G hl => ?_) fu 0 0 z_7 _ _ _ h G (lv_sub hl [2, 3, 1, 0] rfl)
      clear L56
      refine lv_iload_n F.1 F.2.1 dX11_peakIn_91 rfl (lv_at hl 0 rfl) ?_
      obtain ⟨rfl, rfl⟩ := op_2 h
      exact k_iret F hr hlk G dX11_peakIn_92
    · have h := op_t h c
      refine lv_iconst (v := 0) F.1 F.2.1 dX11_peakIn_37 (by decide) ?_
      obtain ⟨rfl, rfl⟩ := op_2 h
      exact k_iret F hr hlk G dX11_peakIn_38
  clear hj30
  obtain ⟨j29, hj29, h⟩ := op_j h
  have J29 : ∀ (H : Heap) (locs : List Loc) (ls : Array Slot), j29 () = some (rR, zR) → Rg D T A st (gM T aM z_1) H locs → lv_has ls 6 [(0, .ref (aM 0)), (1, .int x1), (2, .int x2)] → W pr l en rmX11_peakIn st mi ag bl me co H locs 0 0 (MQ bl (kQ (some (.int rR)) D (gM T aM zR) A) ag st rmX11_peakIn.cells rmX11_peakIn.slots A) (F0 mi 29 ls [.ref (aM 0)]) := by
    intro H locs ls h G hl
    rw [hj29] at h
    refine lv_iconst (v := 0) F.1 F.2.1 dX11_peakIn_29 (by decide) ?_
    exact J30 0 _ _ _ h G hl
  clear hj29
  refine lv_if_eq (tgt := 29) F.1 F.2.1 dX11_peakIn_10 (by decide) (fun c => ?_) (fun c => ?_)
  · have h := op_t h c
    exact J29 _ _ _ h G hl
  · have h := op_f h c
    refine lv_iload_n F.1 F.2.1 dX11_peakIn_13 rfl (lv_at hl 2 rfl) ?_
    refine lv_i2l (v := x2.toInt64) F.1 F.2.1 dX11_peakIn_14 rfl ?_
    refine lv_lconst (v := 1) F.1 F.2.1 dX11_peakIn_15 (by decide) ?_
    refine lv_ldc2 (v := 9999) F.1 F.2.1 F.2.2.2.1 (F.2.2.2.2 _ kl1025) dX11_peakIn_16 ?_
    obtain ⟨r_18, hc, h⟩ := op_b h
    refine k_callS (rv := (some (.int r_18))) (Wc := ([] : va_W)) (W2 := ([] : va_W)) (Wn := (gM T aM z_1)) (As := [.long x2.toInt64, .long 1, .long 9999]) (rest := [.ref (aM 0)]) F G (mX11_isIn l D T x2.toInt64 1 9999 hc) (va_cwS 3 F.2.2.2.2 (kg_c kl813 (kg_c kl814 (kg_c kl788 (kg_c kl805 kg_a)))) rfl rfl rfl (by decide +kernel) ⟨Nat.le_of_ble_eq_true rfl, Nat.le_of_ble_eq_true rfl⟩) (kCut_0 G) rfl hl.1 rfl (Nat.le_of_ble_eq_true rfl) dX11_peakIn_19 ⟨Nat.le_of_ble_eq_true rfl, Nat.le_of_ble_eq_true rfl⟩ (cN := 0) (sN := 0) ⟨rfl, rfl⟩ (fun H locs G => ?_)
    refine lv_if_eq (tgt := 29) F.1 F.2.1 dX11_peakIn_22 (by decide) (fun c => ?_) (fun c => ?_)
    · have h := op_t h c
      exact J29 _ _ _ h G hl
    · have h := op_f h c
      refine lv_iconst (v := 1) F.1 F.2.1 dX11_peakIn_25 (by decide) ?_
      refine lv_goto (tgt := 30) F.1 F.2.1 dX11_peakIn_26 (by decide) ?_
      exact J30 1 _ _ _ h G hl
abbrev rmX11_sentIn : Room := ({ frames := 6, cells := 0, slots := 0, locals := 141 } : Room)
noncomputable def qX11_sentIn_L53 (x1_8 : Int32) (K : (Nat → Nat → Int32) → Option (Int32 × (Nat → Nat → Int32))) : Nat → Int32 → (Nat → Nat → Int32) → Option (Int32 × (Nat → Nat → Int32))
  | 0, _, _ => none
  | n + 1, x3_9, z_10 =>
    if x1_8 ≤ x3_9 then (K z_10) else bd2 (qX11_ticks z_10 (z_10 11)) fun r_12 rw_13 => (bs (va_up z_10 11 rw_13) fun z_14 => (qX11_sentIn_L53 x1_8 K n (x3_9 + 1) z_14))

noncomputable def qX11_sentIn (z : Nat → Nat → Int32) (x1 : Int32) (x2 : Int32) : Option (Int32 × (Nat → Nat → Int32)) :=
  (bs (va_up z 0 (fun _ => 0)) fun z_1 => bd (qX11_areTicks x1) fun r_2 => (jn (fun (y_3 : Int32) => bd2 (qX11_may z_1 y_3 1) fun r_4 z_5 => if r_4 = 0 then some (0, z_5) else bd (qX11_laysThen z_5) fun z_6 => (bs (va_up z_6 11 (upd (z_6 11) 7 x2)) fun z_7 => (qX11_sentIn_L53  x1 (fun (z_11 : Nat → Nat → Int32) => some ((((z_11 11) 4) - ((z_11 10) 4)), z_11)) fu 0 z_7))) fun j30 => jn (fun (_ : Unit) => (j30 0)) fun j29 => if r_2 = 0 then (j29 ()) else bd (qX11_isIn x2.toInt64 1 20) fun r_15 => if r_15 = 0 then (j29 ()) else (j30 1)))

set_option maxHeartbeats 4000000 in
set_option maxRecDepth 100000 in
theorem mX11_sentIn (l : Launch) (D : va_G) (T : Nat → ClassId) (aM : Nat → Nat) (z : Nat → Nat → Int32) (x1 : Int32) (x2 : Int32) {rR : Int32} {zR : Nat → Nat → Int32} (hres : qX11_sentIn z x1 x2 = some (rR, zR)) : Ct l yX11_sentIn (Cond.code yX11_sentIn cX11_sentIn 5 (some .int) :: kAll) rmX11_sentIn D T [.ref (aM 0), .int x1, .int x2] (gM T aM z) (some (.int rR)) (gM T aM zR) := by
  refine Ct.of (cc := cX11_sentIn) (maxL := 5) (ret := (some .int)) (by decide +kernel) rfl (Nat.le_of_ble_eq_true rfl) ?_
  intro pr en st mi ag bl me co A ls F hr hlk hnm G hl
  have hl : lv_has ls 5 [(0, .ref (aM 0)), (1, .int x1), (2, .int x2)] := hl
  have h := hres
  unfold qX11_sentIn at h
  refine lv_aload_n F.1 F.2.1 dX11_sentIn_0 rfl (lv_at hl 0 rfl) ?_
  refine lv_iconst (v := 0) F.1 F.2.1 dX11_sentIn_1 (by decide) ?_
  obtain ⟨z_1, e9, h⟩ := op_st h
  refine k_put F G 0 rfl (N := 35) (Tt := TX11) rfl kf11 tyX11_ok nmX11 0 (by decide) kl804 rfl (v := .int 0) rfl rfl (Nat.le_of_ble_eq_true rfl) dX11_sentIn_2 (Wn := (gM T aM z_1)) (by subst e9; rfl) (fun H locs G => ?_)
  clear e9
  refine lv_aload_n F.1 F.2.1 dX11_sentIn_5 rfl (lv_at hl 0 rfl) ?_
  refine lv_iload_n F.1 F.2.1 dX11_sentIn_6 rfl (lv_at hl 1 rfl) ?_
  obtain ⟨r_2, hc, h⟩ := op_b h
  refine k_callS (rv := (some (.int r_2))) (Wc := ([] : va_W)) (W2 := ([] : va_W)) (Wn := (gM T aM z_1)) (As := [.int x1]) (rest := [.ref (aM 0)]) F G (mX11_areTicks l D T x1 hc) (va_cwS 1 F.2.2.2.2 (kg_c kl1026 (kg_c kl1027 (kg_c kl788 (kg_c kl1022 kg_a)))) rfl rfl rfl (by decide +kernel) ⟨Nat.le_of_ble_eq_true rfl, Nat.le_of_ble_eq_true rfl⟩) (kCut_0 G) rfl hl.1 rfl (Nat.le_of_ble_eq_true rfl) dX11_sentIn_7 ⟨Nat.le_of_ble_eq_true rfl, Nat.le_of_ble_eq_true rfl⟩ (cN := 0) (sN := 0) ⟨rfl, rfl⟩ (fun H locs G => ?_)
  obtain ⟨j30, hj30, h⟩ := op_j h
  have J30 : ∀ (y_3 : Int32) (H : Heap) (locs : List Loc) (ls : Array Slot), j30 y_3 = some (rR, zR) → Rg D T A st (gM T aM z_1) H locs → lv_has ls 5 [(0, .ref (aM 0)), (1, .int x1), (2, .int x2)] → W pr l en rmX11_sentIn st mi ag bl me co H locs 0 0 (MQ bl (kQ (some (.int rR)) D (gM T aM zR) A) ag st rmX11_sentIn.cells rmX11_sentIn.slots A) (F0 mi 30 ls [.int y_3, .ref (aM 0)]) := by
    intro y_3 H locs ls h G hl
    rw [hj30] at h
    refine lv_iconst (v := 1) F.1 F.2.1 dX11_sentIn_30 (by decide) ?_
    obtain ⟨r_4, z_5, hc, h⟩ := op_b2 h
    refine k_callV (rv := (some (.int r_4))) (Wc := (gM T aM z_1)) (W2 := (gM T aM z_5)) (Wn := (gM T aM z_5)) (As := [.int y_3, .int 1]) (rest := []) F G (mX11_may l D T aM z_1 y_3 1 hc) (cwV 2 F.2.2.2.2 (kg_c kl809 (kg_c kl810 (kg_c kl811 (kg_c kl788 (kg_c kl806 kg_a))))) rfl rfl rfl (by decide +kernel) ⟨Nat.le_of_ble_eq_true rfl, Nat.le_of_ble_eq_true rfl⟩) 0 rfl (q := (RX11, TX11, 35)) rfl rfl (kCut_F G) rfl hl.1 rfl (Nat.le_of_ble_eq_true rfl) dX11_sentIn_31 ⟨Nat.le_of_ble_eq_true rfl, Nat.le_of_ble_eq_true rfl⟩ (cN := 0) (sN := 0) ⟨rfl, rfl⟩ (fun H locs G => ?_)
    refine lv_if_ne (tgt := 39) F.1 F.2.1 dX11_sentIn_34 (by decide) (fun c => ?_) (fun c => ?_)
    · have h := op_f h c
      refine lv_aload_n F.1 F.2.1 dX11_sentIn_39 rfl (lv_at hl 0 rfl) ?_
      obtain ⟨z_6, hc, h⟩ := op_b h
      refine k_callV (rv := none) (Wc := (gM T aM z_5)) (W2 := (gM T aM z_6)) (Wn := (gM T aM z_6)) (As := []) (rest := []) F G (mX11_laysThen l D T aM z_5 hc) (cwV 0 F.2.2.2.2 (kg_c kl1012 (kg_c kl1013 (kg_c kl1014 (kg_c kl788 (kg_c kl1006 kg_a))))) rfl rfl rfl (by decide +kernel) ⟨Nat.le_of_ble_eq_true rfl, Nat.le_of_ble_eq_true rfl⟩) 0 rfl (q := (RX11, TX11, 35)) rfl rfl (kCut_F G) rfl hl.1 rfl (Nat.le_of_ble_eq_true rfl) dX11_sentIn_40 ⟨Nat.le_of_ble_eq_true rfl, Nat.le_of_ble_eq_true rfl⟩ (cN := 0) (sN := 0) ⟨rfl, rfl⟩ (fun H locs G => ?_)
      refine lv_aload_n F.1 F.2.1 dX11_sentIn_43 rfl (lv_at hl 0 rfl) ?_
      refine k_get F G 0 rfl (N := 35) (Tt := TX11) rfl kf11 11 (by decide) kl791 (v := .ref (aM 7)) rfl dX11_sentIn_44 ?_
      refine lv_bipush (v := 7) F.1 F.2.1 dX11_sentIn_47 (by decide) ?_
      refine lv_iload_n F.1 F.2.1 dX11_sentIn_49 rfl (lv_at hl 2 rfl) ?_
      obtain ⟨z_7, e9, h⟩ := op_st h
      refine k_iastN F G 7 rfl (kin (by decide +kernel)) 7 (by decide +kernel) dX11_sentIn_50 (Wn := (gM T aM z_7)) (by subst e9; rfl) (fun H locs G => ?_)
      clear e9
      refine lv_iconst (v := 0) F.1 F.2.1 dX11_sentIn_51 (by decide) ?_
      refine lv_istore_n (lv' := [(3, .int 0), (0, .ref (aM 0)), (1, .int x1), (2, .int x2)]) F.1 F.2.1 dX11_sentIn_52 rfl hl (by decide) rfl (fun ls hl => ?_)
      have L53 : ∀ (x1_8 : Int32) (K : (Nat → Nat → Int32) → Option (Int32 × (Nat → Nat → Int32))) (hK : ∀ (z_11 : Nat → Nat → Int32) (H : Heap) (locs : List Loc) (ls : Array Slot), K z_11 = some (rR, zR) → Rg D T A st (gM T aM z_11) H locs → lv_has ls 5 [(0, .ref (aM 0))] → W pr l en rmX11_sentIn st mi ag bl me co H locs 0 0 (MQ bl (kQ (some (.int rR)) D (gM T aM zR) A) ag st rmX11_sentIn.cells rmX11_sentIn.slots A) (F0 mi 74 ls [])) (n : Nat) (x3_9 : Int32) (z_10 : Nat → Nat → Int32) (H : Heap) (locs : List Loc) (ls : Array Slot), qX11_sentIn_L53 x1_8 K n x3_9 z_10 = some (rR, zR) → Rg D T A st (gM T aM z_10) H locs → lv_has ls 5 [(0, .ref (aM 0)), (1, .int x1_8), (3, .int x3_9)] → W pr l en rmX11_sentIn st mi ag bl me co H locs 0 0 (MQ bl (kQ (some (.int rR)) D (gM T aM zR) A) ag st rmX11_sentIn.cells rmX11_sentIn.slots A) (F0 mi 53 ls []) := by
        intro x1_8 K hK n
        induction n with
        | zero => intro x3_9 z_10 H locs ls h; exact op_n h
        | succ n ih =>
          intro x3_9 z_10 H locs ls h G hl
          rw [qX11_sentIn_L53] at h
          refine lv_iload_n F.1 F.2.1 dX11_sentIn_53 rfl (lv_at hl 2 rfl) ?_
          refine lv_iload_n F.1 F.2.1 dX11_sentIn_54 rfl (lv_at hl 1 rfl) ?_
          refine lv_icmp_ge (tgt := 74) F.1 F.2.1 dX11_sentIn_55 (by decide) (fun c => ?_) (fun c => ?_)
          · have h := op_t h c
            exact hK z_10 _ _ _ h G (lv_sub hl [0] rfl)
          · have h := op_f h c
            refine lv_aload_n F.1 F.2.1 dX11_sentIn_58 rfl (lv_at hl 0 rfl) ?_
            refine lv_aload_n F.1 F.2.1 dX11_sentIn_59 rfl (lv_at hl 0 rfl) ?_
            refine k_get F G 0 rfl (N := 35) (Tt := TX11) rfl kf11 11 (by decide) kl791 (v := .ref (aM 7)) rfl dX11_sentIn_60 ?_
            obtain ⟨r_12, rw_13, hc, h⟩ := op_b2 h
            obtain ⟨z_14, e9, h⟩ := op_st h
            refine k_callV (rv := (some (.int r_12))) (Wc := (gMR T aM (aM 7) z_10 (z_10 11))) (W2 := (gMR T aM (aM 7) z_10 rw_13)) (Wn := (gM T aM z_14)) (As := [.ref (aM 7)]) (rest := []) F G (mX11_ticks l D T aM (aM 7) z_10 (z_10 11) hc) (cwV 1 F.2.2.2.2 (kg_c kl1008 (kg_c kl1009 (kg_c kl1010 (kg_c kl788 (kg_c kl959 kg_a))))) rfl rfl rfl (by decide +kernel) ⟨Nat.le_of_ble_eq_true rfl, Nat.le_of_ble_eq_true rfl⟩) 0 rfl (q := (RX11, TX11, 35)) rfl rfl (kCut_G (Wr := [(aM 5, .inl (T 0, 96, .inl (z_10 9))), (aM 6, .inl (T 0, 411, .inl (z_10 10))), (aM 8, .inl (T 0, 3288, .inl (z_10 12))), (aM 9, .inl (T 0, 822, .inl (z_10 13))), (aM 10, .inl (T 3, 2, .inl (z_10 14))), (aM 11, .inl (T 0, 900, .inl (z_10 16))), (aM 12, .inl (T 0, 411, .inl (z_10 17))), (aM 13, .inl (T 0, 48, .inl (z_10 18))), (aM 14, .inl (T 0, 12, .inl (z_10 19))), (aM 15, .inl (T 0, 24, .inl (z_10 20))), (aM 16, .inl (T 0, 8, .inl (z_10 21))), (aM 17, .inl (T 0, 96, .inl (z_10 22)))]) G [0, 1, 2, 3, 4, 7] [5, 6, 8, 9, 10, 11, 12, 13, 14, 15, 16, 17] rfl rfl rfl rfl (by decide) [12, 13, 14, 15, 16, 0, 1, 17, 2, 3, 4, 5, 6, 7, 8, 9, 10, 11] rfl (by subst e9; rfl)) rfl hl.1 rfl (Nat.le_of_ble_eq_true rfl) dX11_sentIn_63 ⟨Nat.le_of_ble_eq_true rfl, Nat.le_of_ble_eq_true rfl⟩ (cN := 0) (sN := 0) ⟨rfl, rfl⟩ (fun H locs G => ?_)
            clear e9
            refine lv_istore (lv' := [(4, .int r_12), (0, .ref (aM 0)), (1, .int x1_8), (3, .int x3_9)]) F.1 F.2.1 dX11_sentIn_66 hl (by decide) rfl (fun ls hl => ?_)
            refine lv_iinc (v := (x3_9 + 1)) (lv' := [(3, .int (x3_9 + 1)), (4, .int r_12), (0, .ref (aM 0)), (1, .int x1_8)]) F.1 F.2.1 dX11_sentIn_68 hl (k := 3) rfl rfl (by decide) rfl (fun ls hl => ?_)
            refine lv_goto (tgt := 53) F.1 F.2.1 dX11_sentIn_71 (by decide) ?_
            exact ih (x3_9 + 1) z_14 _ _ _ h G (lv_sub hl [2, 3, 0] rfl)
      refine L53  x1 _ (fun z_11 H locs ls h G hl => ?_) fu 0 z_7 _ _ _ h G (lv_sub hl [1, 2, 0] rfl)
      clear L53
      refine lv_aload_n F.1 F.2.1 dX11_sentIn_74 rfl (lv_at hl 0 rfl) ?_
      refine k_get F G 0 rfl (N := 35) (Tt := TX11) rfl kf11 11 (by decide) kl791 (v := .ref (aM 7)) rfl dX11_sentIn_75 ?_
      refine lv_iconst (v := 4) F.1 F.2.1 dX11_sentIn_78 (by decide) ?_
      refine k_ialdN F G 7 rfl (kin (by decide +kernel)) 4 (by decide +kernel) dX11_sentIn_79 ?_
      refine lv_aload_n F.1 F.2.1 dX11_sentIn_80 rfl (lv_at hl 0 rfl) ?_
      refine k_get F G 0 rfl (N := 35) (Tt := TX11) rfl kf11 10 (by decide) kl783 (v := .ref (aM 6)) rfl dX11_sentIn_81 ?_
      refine lv_iconst (v := 4) F.1 F.2.1 dX11_sentIn_84 (by decide) ?_
      refine k_ialdN F G 6 rfl (kin (by decide +kernel)) 4 (by decide +kernel) dX11_sentIn_85 ?_
      refine lv_isub F.1 F.2.1 dX11_sentIn_86 ?_
      obtain ⟨rfl, rfl⟩ := op_2 h
      exact k_iret F hr hlk G dX11_sentIn_87
    · have h := op_t h c
      refine lv_iconst (v := 0) F.1 F.2.1 dX11_sentIn_37 (by decide) ?_
      obtain ⟨rfl, rfl⟩ := op_2 h
      exact k_iret F hr hlk G dX11_sentIn_38
  clear hj30
  obtain ⟨j29, hj29, h⟩ := op_j h
  have J29 : ∀ (H : Heap) (locs : List Loc) (ls : Array Slot), j29 () = some (rR, zR) → Rg D T A st (gM T aM z_1) H locs → lv_has ls 5 [(0, .ref (aM 0)), (1, .int x1), (2, .int x2)] → W pr l en rmX11_sentIn st mi ag bl me co H locs 0 0 (MQ bl (kQ (some (.int rR)) D (gM T aM zR) A) ag st rmX11_sentIn.cells rmX11_sentIn.slots A) (F0 mi 29 ls [.ref (aM 0)]) := by
    intro H locs ls h G hl
    rw [hj29] at h
    refine lv_iconst (v := 0) F.1 F.2.1 dX11_sentIn_29 (by decide) ?_
    exact J30 0 _ _ _ h G hl
  clear hj29
  refine lv_if_eq (tgt := 29) F.1 F.2.1 dX11_sentIn_10 (by decide) (fun c => ?_) (fun c => ?_)
  · have h := op_t h c
    exact J29 _ _ _ h G hl
  · have h := op_f h c
    refine lv_iload_n F.1 F.2.1 dX11_sentIn_13 rfl (lv_at hl 2 rfl) ?_
    refine lv_i2l (v := x2.toInt64) F.1 F.2.1 dX11_sentIn_14 rfl ?_
    refine lv_lconst (v := 1) F.1 F.2.1 dX11_sentIn_15 (by decide) ?_
    refine lv_ldc2 (v := 20) F.1 F.2.1 F.2.2.2.1 (F.2.2.2.2 _ kl1029) dX11_sentIn_16 ?_
    obtain ⟨r_15, hc, h⟩ := op_b h
    refine k_callS (rv := (some (.int r_15))) (Wc := ([] : va_W)) (W2 := ([] : va_W)) (Wn := (gM T aM z_1)) (As := [.long x2.toInt64, .long 1, .long 20]) (rest := [.ref (aM 0)]) F G (mX11_isIn l D T x2.toInt64 1 20 hc) (va_cwS 3 F.2.2.2.2 (kg_c kl813 (kg_c kl814 (kg_c kl788 (kg_c kl805 kg_a)))) rfl rfl rfl (by decide +kernel) ⟨Nat.le_of_ble_eq_true rfl, Nat.le_of_ble_eq_true rfl⟩) (kCut_0 G) rfl hl.1 rfl (Nat.le_of_ble_eq_true rfl) dX11_sentIn_19 ⟨Nat.le_of_ble_eq_true rfl, Nat.le_of_ble_eq_true rfl⟩ (cN := 0) (sN := 0) ⟨rfl, rfl⟩ (fun H locs G => ?_)
    refine lv_if_eq (tgt := 29) F.1 F.2.1 dX11_sentIn_22 (by decide) (fun c => ?_) (fun c => ?_)
    · have h := op_t h c
      exact J29 _ _ _ h G hl
    · have h := op_f h c
      refine lv_iconst (v := 1) F.1 F.2.1 dX11_sentIn_25 (by decide) ?_
      refine lv_goto (tgt := 30) F.1 F.2.1 dX11_sentIn_26 (by decide) ?_
      exact J30 1 _ _ _ h G hl
abbrev rmX11_keeps : Room := ({ frames := 0, cells := 0, slots := 0, locals := 0 } : Room)
noncomputable def qX11_keeps_L57 (K : (Nat → Nat → Int32) → Option ((Nat → Nat → Int32))) : Nat → Int32 → (Nat → Nat → Int32) → Option ((Nat → Nat → Int32))
  | 0, _, _ => none
  | n + 1, x1_2, z_3 =>
    if 411 ≤ x1_2 then (K z_3) else gd (vp_in x1_2 411) (gd (vp_in ((411 * (z_3 15 0)) + x1_2) 3288) (bs (va_up z_3 12 (upd (z_3 12) ((411 * (z_3 15 0)) + x1_2).toNatClampNeg ((z_3 10) x1_2.toNatClampNeg))) fun z_5 => (qX11_keeps_L57 K n (x1_2 + 1) z_5)))

noncomputable def qX11_keeps_L21 (K : (Nat → Nat → Int32) → Option ((Nat → Nat → Int32))) : Nat → Int32 → (Nat → Nat → Int32) → Option ((Nat → Nat → Int32))
  | 0, _, _ => none
  | n + 1, x1_8, z_9 =>
    if (411 * (z_9 15 0)) ≤ x1_8 then (K z_9) else gd (vp_in (x1_8 + 411) 3288) (gd (vp_in x1_8 3288) (bs (va_up z_9 12 (upd (z_9 12) x1_8.toNatClampNeg ((z_9 12) (x1_8 + 411).toNatClampNeg))) fun z_11 => (qX11_keeps_L21 K n (x1_8 + 1) z_11)))

noncomputable def qX11_keeps (z : Nat → Nat → Int32) : Option ((Nat → Nat → Int32)) :=
  (jn (fun (z_1 : Nat → Nat → Int32) => (qX11_keeps_L57   (fun (z_4 : Nat → Nat → Int32) => (bs (va_up z_4 15 (fun _ => ((z_4 15 0) + 1))) fun z_6 => some z_6)) fu 0 z_1)) fun j55 => if (z 15 0) = 8 then (bs (va_up z 15 (fun _ => ((z 15 0) - 1))) fun z_7 => (qX11_keeps_L21   (fun (z_10 : Nat → Nat → Int32) => (j55 z_10)) fu 0 z_7)) else (j55 z))

set_option maxHeartbeats 4000000 in
set_option maxRecDepth 100000 in
theorem mX11_keeps (l : Launch) (D : va_G) (T : Nat → ClassId) (aM : Nat → Nat) (z : Nat → Nat → Int32) {zR : Nat → Nat → Int32} (hres : qX11_keeps z = some (zR)) : Ct l yX11_keeps (Cond.code yX11_keeps cX11_keeps 2 none :: kAll) rmX11_keeps D T [.ref (aM 0)] (gM T aM z) none (gM T aM zR) := by
  refine Ct.of (cc := cX11_keeps) (maxL := 2) (ret := none) (by decide +kernel) rfl (Nat.le_of_ble_eq_true rfl) ?_
  intro pr en st mi ag bl me co A ls F hr hlk hnm G hl
  have hl : lv_has ls 2 [(0, .ref (aM 0))] := hl
  have h := hres
  unfold qX11_keeps at h
  refine lv_aload_n F.1 F.2.1 dX11_keeps_0 rfl (lv_at hl 0 rfl) ?_
  refine k_get F G 0 rfl (N := 35) (Tt := TX11) rfl kf11 15 (by decide) kl784 (v := .int (z 15 0)) rfl dX11_keeps_1 ?_
  refine lv_bipush (v := 8) F.1 F.2.1 dX11_keeps_4 (by decide) ?_
  obtain ⟨j55, hj55, h⟩ := op_j h
  have J55 : ∀ (z_1 : Nat → Nat → Int32) (H : Heap) (locs : List Loc) (ls : Array Slot), j55 z_1 = some (zR) → Rg D T A st (gM T aM z_1) H locs → lv_has ls 2 [(0, .ref (aM 0))] → W pr l en rmX11_keeps st mi ag bl me co H locs 0 0 (MQ bl (kQ none D (gM T aM zR) A) ag st rmX11_keeps.cells rmX11_keeps.slots A) (F0 mi 55 ls []) := by
    intro z_1 H locs ls h G hl
    rw [hj55] at h
    refine lv_iconst (v := 0) F.1 F.2.1 dX11_keeps_55 (by decide) ?_
    refine lv_istore_n (lv' := [(1, .int 0), (0, .ref (aM 0))]) F.1 F.2.1 dX11_keeps_56 rfl hl (by decide) rfl (fun ls hl => ?_)
    have L57 : ∀ (K : (Nat → Nat → Int32) → Option ((Nat → Nat → Int32))) (hK : ∀ (z_4 : Nat → Nat → Int32) (H : Heap) (locs : List Loc) (ls : Array Slot), K z_4 = some (zR) → Rg D T A st (gM T aM z_4) H locs → lv_has ls 2 [(0, .ref (aM 0))] → W pr l en rmX11_keeps st mi ag bl me co H locs 0 0 (MQ bl (kQ none D (gM T aM zR) A) ag st rmX11_keeps.cells rmX11_keeps.slots A) (F0 mi 91 ls [])) (n : Nat) (x1_2 : Int32) (z_3 : Nat → Nat → Int32) (H : Heap) (locs : List Loc) (ls : Array Slot), qX11_keeps_L57 K n x1_2 z_3 = some (zR) → Rg D T A st (gM T aM z_3) H locs → lv_has ls 2 [(0, .ref (aM 0)), (1, .int x1_2)] → W pr l en rmX11_keeps st mi ag bl me co H locs 0 0 (MQ bl (kQ none D (gM T aM zR) A) ag st rmX11_keeps.cells rmX11_keeps.slots A) (F0 mi 57 ls []) := by
      intro K hK n
      induction n with
      | zero => intro x1_2 z_3 H locs ls h; exact op_n h
      | succ n ih =>
        intro x1_2 z_3 H locs ls h G hl
        rw [qX11_keeps_L57] at h
        refine lv_iload_n F.1 F.2.1 dX11_keeps_57 rfl (lv_at hl 1 rfl) ?_
        refine lv_sipush (v := 411) F.1 F.2.1 dX11_keeps_58 (by decide) ?_
        refine lv_icmp_ge (tgt := 91) F.1 F.2.1 dX11_keeps_61 (by decide) (fun c => ?_) (fun c => ?_)
        · have h := op_t h c
          exact hK z_3 _ _ _ h G (lv_sub hl [0] rfl)
        · have h := op_f h c
          refine lv_aload_n F.1 F.2.1 dX11_keeps_64 rfl (lv_at hl 0 rfl) ?_
          refine k_get F G 0 rfl (N := 35) (Tt := TX11) rfl kf11 12 (by decide) kl792 (v := .ref (aM 8)) rfl dX11_keeps_65 ?_
          refine lv_sipush (v := 411) F.1 F.2.1 dX11_keeps_68 (by decide) ?_
          refine lv_aload_n F.1 F.2.1 dX11_keeps_71 rfl (lv_at hl 0 rfl) ?_
          refine k_get F G 0 rfl (N := 35) (Tt := TX11) rfl kf11 15 (by decide) kl784 (v := .int (z_3 15 0)) rfl dX11_keeps_72 ?_
          refine lv_imul F.1 F.2.1 dX11_keeps_75 ?_
          refine lv_iload_n F.1 F.2.1 dX11_keeps_76 rfl (lv_at hl 1 rfl) ?_
          refine lv_iadd F.1 F.2.1 dX11_keeps_77 ?_
          refine lv_aload_n F.1 F.2.1 dX11_keeps_78 rfl (lv_at hl 0 rfl) ?_
          refine k_get F G 0 rfl (N := 35) (Tt := TX11) rfl kf11 10 (by decide) kl783 (v := .ref (aM 6)) rfl dX11_keeps_79 ?_
          refine lv_iload_n F.1 F.2.1 dX11_keeps_82 rfl (lv_at hl 1 rfl) ?_
          obtain ⟨c, h⟩ := op_g h
          refine k_iald F G 6 rfl c dX11_keeps_83 ?_
          obtain ⟨c, h⟩ := op_g h
          obtain ⟨z_5, e9, h⟩ := op_st h
          refine k_iast F G 8 rfl c dX11_keeps_84 (Wn := (gM T aM z_5)) (by subst e9; rfl) (fun H locs G => ?_)
          clear e9
          refine lv_iinc (v := (x1_2 + 1)) (lv' := [(1, .int (x1_2 + 1)), (0, .ref (aM 0))]) F.1 F.2.1 dX11_keeps_85 hl (k := 1) rfl rfl (by decide) rfl (fun ls hl => ?_)
          refine lv_goto (tgt := 57) F.1 F.2.1 dX11_keeps_88 (by decide) ?_
          exact ih (x1_2 + 1) z_5 _ _ _ h G (lv_sub hl [1, 0] rfl)
    refine L57   _ (fun z_4 H locs ls h G hl => ?_) fu 0 z_1 _ _ _ h G (lv_sub hl [1, 0] rfl)
    clear L57
    refine lv_aload_n F.1 F.2.1 dX11_keeps_91 rfl (lv_at hl 0 rfl) ?_
    refine lv_dup F.1 F.2.1 dX11_keeps_92 rfl ?_
    refine k_get F G 0 rfl (N := 35) (Tt := TX11) rfl kf11 15 (by decide) kl784 (v := .int (z_4 15 0)) rfl dX11_keeps_93 ?_
    refine lv_iconst (v := 1) F.1 F.2.1 dX11_keeps_96 (by decide) ?_
    refine lv_iadd F.1 F.2.1 dX11_keeps_97 ?_
    obtain ⟨z_6, e9, h⟩ := op_st h
    refine k_put F G 0 rfl (N := 35) (Tt := TX11) rfl kf11 tyX11_ok nmX11 15 (by decide) kl784 rfl (v := .int ((z_4 15 0) + 1)) rfl rfl (Nat.le_of_ble_eq_true rfl) dX11_keeps_98 (Wn := (gM T aM z_6)) (by subst e9; rfl) (fun H locs G => ?_)
    clear e9
    obtain rfl := op_1 h
    exact k_vret F hr hlk G dX11_keeps_101
  clear hj55
  refine lv_icmp_ne (tgt := 55) F.1 F.2.1 dX11_keeps_6 (by decide) (fun c => ?_) (fun c => ?_)
  · have h := op_f h c
    exact J55 z _ _ _ h G hl
  · have h := op_t h c
    refine lv_aload_n F.1 F.2.1 dX11_keeps_9 rfl (lv_at hl 0 rfl) ?_
    refine lv_dup F.1 F.2.1 dX11_keeps_10 rfl ?_
    refine k_get F G 0 rfl (N := 35) (Tt := TX11) rfl kf11 15 (by decide) kl784 (v := .int (z 15 0)) rfl dX11_keeps_11 ?_
    refine lv_iconst (v := 1) F.1 F.2.1 dX11_keeps_14 (by decide) ?_
    refine lv_isub F.1 F.2.1 dX11_keeps_15 ?_
    obtain ⟨z_7, e9, h⟩ := op_st h
    refine k_put F G 0 rfl (N := 35) (Tt := TX11) rfl kf11 tyX11_ok nmX11 15 (by decide) kl784 rfl (v := .int ((z 15 0) - 1)) rfl rfl (Nat.le_of_ble_eq_true rfl) dX11_keeps_16 (Wn := (gM T aM z_7)) (by subst e9; rfl) (fun H locs G => ?_)
    clear e9
    refine lv_iconst (v := 0) F.1 F.2.1 dX11_keeps_19 (by decide) ?_
    refine lv_istore_n (lv' := [(1, .int 0), (0, .ref (aM 0))]) F.1 F.2.1 dX11_keeps_20 rfl hl (by decide) rfl (fun ls hl => ?_)
    have L21 : ∀ (K : (Nat → Nat → Int32) → Option ((Nat → Nat → Int32))) (hK : ∀ (z_10 : Nat → Nat → Int32) (H : Heap) (locs : List Loc) (ls : Array Slot), K z_10 = some (zR) → Rg D T A st (gM T aM z_10) H locs → lv_has ls 2 [(0, .ref (aM 0))] → W pr l en rmX11_keeps st mi ag bl me co H locs 0 0 (MQ bl (kQ none D (gM T aM zR) A) ag st rmX11_keeps.cells rmX11_keeps.slots A) (F0 mi 55 ls [])) (n : Nat) (x1_8 : Int32) (z_9 : Nat → Nat → Int32) (H : Heap) (locs : List Loc) (ls : Array Slot), qX11_keeps_L21 K n x1_8 z_9 = some (zR) → Rg D T A st (gM T aM z_9) H locs → lv_has ls 2 [(0, .ref (aM 0)), (1, .int x1_8)] → W pr l en rmX11_keeps st mi ag bl me co H locs 0 0 (MQ bl (kQ none D (gM T aM zR) A) ag st rmX11_keeps.cells rmX11_keeps.slots A) (F0 mi 21 ls []) := by
      intro K hK n
      induction n with
      | zero => intro x1_8 z_9 H locs ls h; exact op_n h
      | succ n ih =>
        intro x1_8 z_9 H locs ls h G hl
        rw [qX11_keeps_L21] at h
        refine lv_iload_n F.1 F.2.1 dX11_keeps_21 rfl (lv_at hl 1 rfl) ?_
        refine lv_sipush (v := 411) F.1 F.2.1 dX11_keeps_22 (by decide) ?_
        refine lv_aload_n F.1 F.2.1 dX11_keeps_25 rfl (lv_at hl 0 rfl) ?_
        refine k_get F G 0 rfl (N := 35) (Tt := TX11) rfl kf11 15 (by decide) kl784 (v := .int (z_9 15 0)) rfl dX11_keeps_26 ?_
        refine lv_imul F.1 F.2.1 dX11_keeps_29 ?_
        refine lv_icmp_ge (tgt := 55) F.1 F.2.1 dX11_keeps_30 (by decide) (fun c => ?_) (fun c => ?_)
        · have h := op_t h c
          exact hK z_9 _ _ _ h G (lv_sub hl [0] rfl)
        · have h := op_f h c
          refine lv_aload_n F.1 F.2.1 dX11_keeps_33 rfl (lv_at hl 0 rfl) ?_
          refine k_get F G 0 rfl (N := 35) (Tt := TX11) rfl kf11 12 (by decide) kl792 (v := .ref (aM 8)) rfl dX11_keeps_34 ?_
          refine lv_iload_n F.1 F.2.1 dX11_keeps_37 rfl (lv_at hl 1 rfl) ?_
          refine lv_aload_n F.1 F.2.1 dX11_keeps_38 rfl (lv_at hl 0 rfl) ?_
          refine k_get F G 0 rfl (N := 35) (Tt := TX11) rfl kf11 12 (by decide) kl792 (v := .ref (aM 8)) rfl dX11_keeps_39 ?_
          refine lv_iload_n F.1 F.2.1 dX11_keeps_42 rfl (lv_at hl 1 rfl) ?_
          refine lv_sipush (v := 411) F.1 F.2.1 dX11_keeps_43 (by decide) ?_
          refine lv_iadd F.1 F.2.1 dX11_keeps_46 ?_
          obtain ⟨c, h⟩ := op_g h
          refine k_iald F G 8 rfl c dX11_keeps_47 ?_
          obtain ⟨c, h⟩ := op_g h
          obtain ⟨z_11, e9, h⟩ := op_st h
          refine k_iast F G 8 rfl c dX11_keeps_48 (Wn := (gM T aM z_11)) (by subst e9; rfl) (fun H locs G => ?_)
          clear e9
          refine lv_iinc (v := (x1_8 + 1)) (lv' := [(1, .int (x1_8 + 1)), (0, .ref (aM 0))]) F.1 F.2.1 dX11_keeps_49 hl (k := 1) rfl rfl (by decide) rfl (fun ls hl => ?_)
          refine lv_goto (tgt := 21) F.1 F.2.1 dX11_keeps_52 (by decide) ?_
          exact ih (x1_8 + 1) z_11 _ _ _ h G (lv_sub hl [1, 0] rfl)
    refine L21   _ (fun z_10 H locs ls h G hl => ?_) fu 0 z_7 _ _ _ h G (lv_sub hl [1, 0] rfl)
    clear L21
    exact J55 z_10 _ _ _ h G hl
abbrev rmX11_run : Room := ({ frames := 6, cells := 0, slots := 0, locals := 141 } : Room)
noncomputable def qX11_run_L57 (x1_9 : Int32) (K : (Nat → Nat → Int32) → Option (Int32 × (Nat → Nat → Int32))) : Nat → Int32 → (Nat → Nat → Int32) → Option (Int32 × (Nat → Nat → Int32))
  | 0, _, _ => none
  | n + 1, x2_10, z_11 =>
    if x1_9 ≤ x2_10 then (K z_11) else bd2 (qX11_ticks z_11 (z_11 10)) fun r_13 rw_14 => (bs (va_up z_11 10 rw_14) fun z_15 => (qX11_run_L57 x1_9 K n (x2_10 + 1) z_15))

noncomputable def qX11_run_L81 (z_18 : Nat → Nat → Int32) (K : Int32 → Option (Int32 × (Nat → Nat → Int32))) : Nat → Int32 → Int32 → Option (Int32 × (Nat → Nat → Int32))
  | 0, _, _ => none
  | n + 1, x2_16, x3_17 =>
    if (z_18 1 0) ≤ x3_17 then (K x2_16) else bd (qX11_at x3_17 2) fun r_20 => gd (vp_in r_20 411) ((jn (fun (y_21 : Int32) => (qX11_run_L81 z_18 K n (x2_16 + y_21) (x3_17 + 1))) fun j109 => if ((z_18 10) r_20.toNatClampNeg) = 3 then (j109 1) else (j109 0)))

noncomputable def qX11_run (z : Nat → Nat → Int32) (x1 : Int32) : Option (Int32 × (Nat → Nat → Int32)) :=
  (bs (va_up z 0 (fun _ => 0)) fun z_1 => bd (qX11_isIn x1.toInt64 1 200) fun r_2 => bd2 (qX11_may z_1 r_2 1) fun r_3 z_4 => if r_3 = 0 then some (0, z_4) else (jn (fun (y_5 : Int32) => bd2 (qX11_may z_4 y_5 2) fun r_6 z_7 => if r_6 = 0 then some (0, z_7) else bd (qX11_keeps z_7) fun z_8 => (qX11_run_L57  x1 (fun (z_12 : Nat → Nat → Int32) => (qX11_run_L81 z_12  (fun (x2_19 : Int32) => some (x2_19, z_12)) fu 0 0 )) fu 0 z_8)) fun j42 => if 5000 < (((z_4 10) 0) + x1) then (j42 0) else (j42 1)))

set_option maxHeartbeats 4000000 in
set_option maxRecDepth 100000 in
theorem mX11_run (l : Launch) (D : va_G) (T : Nat → ClassId) (aM : Nat → Nat) (z : Nat → Nat → Int32) (x1 : Int32) {rR : Int32} {zR : Nat → Nat → Int32} (hres : qX11_run z x1 = some (rR, zR)) : Ct l yX11_run (Cond.code yX11_run cX11_run 4 (some .int) :: kAll) rmX11_run D T [.ref (aM 0), .int x1] (gM T aM z) (some (.int rR)) (gM T aM zR) := by
  refine Ct.of (cc := cX11_run) (maxL := 4) (ret := (some .int)) (by decide +kernel) rfl (Nat.le_of_ble_eq_true rfl) ?_
  intro pr en st mi ag bl me co A ls F hr hlk hnm G hl
  have hl : lv_has ls 4 [(0, .ref (aM 0)), (1, .int x1)] := hl
  have h := hres
  unfold qX11_run at h
  refine lv_aload_n F.1 F.2.1 dX11_run_0 rfl (lv_at hl 0 rfl) ?_
  refine lv_iconst (v := 0) F.1 F.2.1 dX11_run_1 (by decide) ?_
  obtain ⟨z_1, e9, h⟩ := op_st h
  refine k_put F G 0 rfl (N := 35) (Tt := TX11) rfl kf11 tyX11_ok nmX11 0 (by decide) kl804 rfl (v := .int 0) rfl rfl (Nat.le_of_ble_eq_true rfl) dX11_run_2 (Wn := (gM T aM z_1)) (by subst e9; rfl) (fun H locs G => ?_)
  clear e9
  refine lv_aload_n F.1 F.2.1 dX11_run_5 rfl (lv_at hl 0 rfl) ?_
  refine lv_iload_n F.1 F.2.1 dX11_run_6 rfl (lv_at hl 1 rfl) ?_
  refine lv_i2l (v := x1.toInt64) F.1 F.2.1 dX11_run_7 rfl ?_
  refine lv_lconst (v := 1) F.1 F.2.1 dX11_run_8 (by decide) ?_
  refine lv_ldc2 (v := 200) F.1 F.2.1 F.2.2.2.1 (F.2.2.2.2 _ kl1032) dX11_run_9 ?_
  obtain ⟨r_2, hc, h⟩ := op_b h
  refine k_callS (rv := (some (.int r_2))) (Wc := ([] : va_W)) (W2 := ([] : va_W)) (Wn := (gM T aM z_1)) (As := [.long x1.toInt64, .long 1, .long 200]) (rest := [.ref (aM 0)]) F G (mX11_isIn l D T x1.toInt64 1 200 hc) (va_cwS 3 F.2.2.2.2 (kg_c kl813 (kg_c kl814 (kg_c kl788 (kg_c kl805 kg_a)))) rfl rfl rfl (by decide +kernel) ⟨Nat.le_of_ble_eq_true rfl, Nat.le_of_ble_eq_true rfl⟩) (kCut_0 G) rfl hl.1 rfl (Nat.le_of_ble_eq_true rfl) dX11_run_12 ⟨Nat.le_of_ble_eq_true rfl, Nat.le_of_ble_eq_true rfl⟩ (cN := 0) (sN := 0) ⟨rfl, rfl⟩ (fun H locs G => ?_)
  refine lv_iconst (v := 1) F.1 F.2.1 dX11_run_15 (by decide) ?_
  obtain ⟨r_3, z_4, hc, h⟩ := op_b2 h
  refine k_callV (rv := (some (.int r_3))) (Wc := (gM T aM z_1)) (W2 := (gM T aM z_4)) (Wn := (gM T aM z_4)) (As := [.int r_2, .int 1]) (rest := []) F G (mX11_may l D T aM z_1 r_2 1 hc) (cwV 2 F.2.2.2.2 (kg_c kl809 (kg_c kl810 (kg_c kl811 (kg_c kl788 (kg_c kl806 kg_a))))) rfl rfl rfl (by decide +kernel) ⟨Nat.le_of_ble_eq_true rfl, Nat.le_of_ble_eq_true rfl⟩) 0 rfl (q := (RX11, TX11, 35)) rfl rfl (kCut_F G) rfl hl.1 rfl (Nat.le_of_ble_eq_true rfl) dX11_run_16 ⟨Nat.le_of_ble_eq_true rfl, Nat.le_of_ble_eq_true rfl⟩ (cN := 0) (sN := 0) ⟨rfl, rfl⟩ (fun H locs G => ?_)
  refine lv_if_eq (tgt := 49) F.1 F.2.1 dX11_run_19 (by decide) (fun c => ?_) (fun c => ?_)
  · have h := op_t h c
    refine lv_iconst (v := 0) F.1 F.2.1 dX11_run_49 (by decide) ?_
    obtain ⟨rfl, rfl⟩ := op_2 h
    exact k_iret F hr hlk G dX11_run_50
  · have h := op_f h c
    refine lv_aload_n F.1 F.2.1 dX11_run_22 rfl (lv_at hl 0 rfl) ?_
    refine lv_aload_n F.1 F.2.1 dX11_run_23 rfl (lv_at hl 0 rfl) ?_
    refine k_get F G 0 rfl (N := 35) (Tt := TX11) rfl kf11 10 (by decide) kl783 (v := .ref (aM 6)) rfl dX11_run_24 ?_
    refine lv_iconst (v := 0) F.1 F.2.1 dX11_run_27 (by decide) ?_
    refine k_ialdN F G 6 rfl (kin (by decide +kernel)) 0 (by decide +kernel) dX11_run_28 ?_
    refine lv_iload_n F.1 F.2.1 dX11_run_29 rfl (lv_at hl 1 rfl) ?_
    refine lv_iadd F.1 F.2.1 dX11_run_30 ?_
    refine lv_sipush (v := 5000) F.1 F.2.1 dX11_run_31 (by decide) ?_
    obtain ⟨j42, hj42, h⟩ := op_j h
    have J42 : ∀ (y_5 : Int32) (H : Heap) (locs : List Loc) (ls : Array Slot), j42 y_5 = some (rR, zR) → Rg D T A st (gM T aM z_4) H locs → lv_has ls 4 [(0, .ref (aM 0)), (1, .int x1)] → W pr l en rmX11_run st mi ag bl me co H locs 0 0 (MQ bl (kQ (some (.int rR)) D (gM T aM zR) A) ag st rmX11_run.cells rmX11_run.slots A) (F0 mi 42 ls [.int y_5, .ref (aM 0)]) := by
      intro y_5 H locs ls h G hl
      rw [hj42] at h
      refine lv_iconst (v := 2) F.1 F.2.1 dX11_run_42 (by decide) ?_
      obtain ⟨r_6, z_7, hc, h⟩ := op_b2 h
      refine k_callV (rv := (some (.int r_6))) (Wc := (gM T aM z_4)) (W2 := (gM T aM z_7)) (Wn := (gM T aM z_7)) (As := [.int y_5, .int 2]) (rest := []) F G (mX11_may l D T aM z_4 y_5 2 hc) (cwV 2 F.2.2.2.2 (kg_c kl809 (kg_c kl810 (kg_c kl811 (kg_c kl788 (kg_c kl806 kg_a))))) rfl rfl rfl (by decide +kernel) ⟨Nat.le_of_ble_eq_true rfl, Nat.le_of_ble_eq_true rfl⟩) 0 rfl (q := (RX11, TX11, 35)) rfl rfl (kCut_F G) rfl hl.1 rfl (Nat.le_of_ble_eq_true rfl) dX11_run_43 ⟨Nat.le_of_ble_eq_true rfl, Nat.le_of_ble_eq_true rfl⟩ (cN := 0) (sN := 0) ⟨rfl, rfl⟩ (fun H locs G => ?_)
      refine lv_if_ne (tgt := 51) F.1 F.2.1 dX11_run_46 (by decide) (fun c => ?_) (fun c => ?_)
      · have h := op_f h c
        refine lv_aload_n F.1 F.2.1 dX11_run_51 rfl (lv_at hl 0 rfl) ?_
        obtain ⟨z_8, hc, h⟩ := op_b h
        refine k_callV (rv := none) (Wc := (gM T aM z_7)) (W2 := (gM T aM z_8)) (Wn := (gM T aM z_8)) (As := []) (rest := []) F G (mX11_keeps l D T aM z_7 hc) (cwV 0 F.2.2.2.2 (kg_c kl1033 (kg_c kl1034 (kg_c kl1035 (kg_c kl788 (kg_c kl1030 kg_a))))) rfl rfl rfl (by decide +kernel) ⟨Nat.le_of_ble_eq_true rfl, Nat.le_of_ble_eq_true rfl⟩) 0 rfl (q := (RX11, TX11, 35)) rfl rfl (kCut_F G) rfl hl.1 rfl (Nat.le_of_ble_eq_true rfl) dX11_run_52 ⟨Nat.le_of_ble_eq_true rfl, Nat.le_of_ble_eq_true rfl⟩ (cN := 0) (sN := 0) ⟨rfl, rfl⟩ (fun H locs G => ?_)
        refine lv_iconst (v := 0) F.1 F.2.1 dX11_run_55 (by decide) ?_
        refine lv_istore_n (lv' := [(2, .int 0), (0, .ref (aM 0)), (1, .int x1)]) F.1 F.2.1 dX11_run_56 rfl hl (by decide) rfl (fun ls hl => ?_)
        have L57 : ∀ (x1_9 : Int32) (K : (Nat → Nat → Int32) → Option (Int32 × (Nat → Nat → Int32))) (hK : ∀ (z_12 : Nat → Nat → Int32) (H : Heap) (locs : List Loc) (ls : Array Slot), K z_12 = some (rR, zR) → Rg D T A st (gM T aM z_12) H locs → lv_has ls 4 [(0, .ref (aM 0))] → W pr l en rmX11_run st mi ag bl me co H locs 0 0 (MQ bl (kQ (some (.int rR)) D (gM T aM zR) A) ag st rmX11_run.cells rmX11_run.slots A) (F0 mi 77 ls [])) (n : Nat) (x2_10 : Int32) (z_11 : Nat → Nat → Int32) (H : Heap) (locs : List Loc) (ls : Array Slot), qX11_run_L57 x1_9 K n x2_10 z_11 = some (rR, zR) → Rg D T A st (gM T aM z_11) H locs → lv_has ls 4 [(0, .ref (aM 0)), (1, .int x1_9), (2, .int x2_10)] → W pr l en rmX11_run st mi ag bl me co H locs 0 0 (MQ bl (kQ (some (.int rR)) D (gM T aM zR) A) ag st rmX11_run.cells rmX11_run.slots A) (F0 mi 57 ls []) := by
          intro x1_9 K hK n
          induction n with
          | zero => intro x2_10 z_11 H locs ls h; exact op_n h
          | succ n ih =>
            intro x2_10 z_11 H locs ls h G hl
            rw [qX11_run_L57] at h
            refine lv_iload_n F.1 F.2.1 dX11_run_57 rfl (lv_at hl 2 rfl) ?_
            refine lv_iload_n F.1 F.2.1 dX11_run_58 rfl (lv_at hl 1 rfl) ?_
            refine lv_icmp_ge (tgt := 77) F.1 F.2.1 dX11_run_59 (by decide) (fun c => ?_) (fun c => ?_)
            · have h := op_t h c
              exact hK z_11 _ _ _ h G (lv_sub hl [0] rfl)
            · have h := op_f h c
              refine lv_aload_n F.1 F.2.1 dX11_run_62 rfl (lv_at hl 0 rfl) ?_
              refine lv_aload_n F.1 F.2.1 dX11_run_63 rfl (lv_at hl 0 rfl) ?_
              refine k_get F G 0 rfl (N := 35) (Tt := TX11) rfl kf11 10 (by decide) kl783 (v := .ref (aM 6)) rfl dX11_run_64 ?_
              obtain ⟨r_13, rw_14, hc, h⟩ := op_b2 h
              obtain ⟨z_15, e9, h⟩ := op_st h
              refine k_callV (rv := (some (.int r_13))) (Wc := (gMR T aM (aM 6) z_11 (z_11 10))) (W2 := (gMR T aM (aM 6) z_11 rw_14)) (Wn := (gM T aM z_15)) (As := [.ref (aM 6)]) (rest := []) F G (mX11_ticks l D T aM (aM 6) z_11 (z_11 10) hc) (cwV 1 F.2.2.2.2 (kg_c kl1008 (kg_c kl1009 (kg_c kl1010 (kg_c kl788 (kg_c kl959 kg_a))))) rfl rfl rfl (by decide +kernel) ⟨Nat.le_of_ble_eq_true rfl, Nat.le_of_ble_eq_true rfl⟩) 0 rfl (q := (RX11, TX11, 35)) rfl rfl (kCut_G (Wr := [(aM 5, .inl (T 0, 96, .inl (z_11 9))), (aM 7, .inl (T 0, 411, .inl (z_11 11))), (aM 8, .inl (T 0, 3288, .inl (z_11 12))), (aM 9, .inl (T 0, 822, .inl (z_11 13))), (aM 10, .inl (T 3, 2, .inl (z_11 14))), (aM 11, .inl (T 0, 900, .inl (z_11 16))), (aM 12, .inl (T 0, 411, .inl (z_11 17))), (aM 13, .inl (T 0, 48, .inl (z_11 18))), (aM 14, .inl (T 0, 12, .inl (z_11 19))), (aM 15, .inl (T 0, 24, .inl (z_11 20))), (aM 16, .inl (T 0, 8, .inl (z_11 21))), (aM 17, .inl (T 0, 96, .inl (z_11 22)))]) G [0, 1, 2, 3, 4, 6] [5, 7, 8, 9, 10, 11, 12, 13, 14, 15, 16, 17] rfl rfl rfl rfl (by decide) [12, 13, 14, 15, 16, 0, 17, 1, 2, 3, 4, 5, 6, 7, 8, 9, 10, 11] rfl (by subst e9; rfl)) rfl hl.1 rfl (Nat.le_of_ble_eq_true rfl) dX11_run_67 ⟨Nat.le_of_ble_eq_true rfl, Nat.le_of_ble_eq_true rfl⟩ (cN := 0) (sN := 0) ⟨rfl, rfl⟩ (fun H locs G => ?_)
              clear e9
              refine lv_istore_n (lv' := [(3, .int r_13), (0, .ref (aM 0)), (1, .int x1_9), (2, .int x2_10)]) F.1 F.2.1 dX11_run_70 rfl hl (by decide) rfl (fun ls hl => ?_)
              refine lv_iinc (v := (x2_10 + 1)) (lv' := [(2, .int (x2_10 + 1)), (3, .int r_13), (0, .ref (aM 0)), (1, .int x1_9)]) F.1 F.2.1 dX11_run_71 hl (k := 3) rfl rfl (by decide) rfl (fun ls hl => ?_)
              refine lv_goto (tgt := 57) F.1 F.2.1 dX11_run_74 (by decide) ?_
              exact ih (x2_10 + 1) z_15 _ _ _ h G (lv_sub hl [2, 3, 0] rfl)
        refine L57  x1 _ (fun z_12 H locs ls h G hl => ?_) fu 0 z_8 _ _ _ h G (lv_sub hl [1, 2, 0] rfl)
        clear L57
        refine lv_iconst (v := 0) F.1 F.2.1 dX11_run_77 (by decide) ?_
        refine lv_istore_n (lv' := [(2, .int 0), (0, .ref (aM 0))]) F.1 F.2.1 dX11_run_78 rfl hl (by decide) rfl (fun ls hl => ?_)
        refine lv_iconst (v := 0) F.1 F.2.1 dX11_run_79 (by decide) ?_
        refine lv_istore_n (lv' := [(3, .int 0), (2, .int 0), (0, .ref (aM 0))]) F.1 F.2.1 dX11_run_80 rfl hl (by decide) rfl (fun ls hl => ?_)
        have L81 : ∀ (z_18 : Nat → Nat → Int32) (K : Int32 → Option (Int32 × (Nat → Nat → Int32))) (hK : ∀ (x2_19 : Int32) (H : Heap) (locs : List Loc) (ls : Array Slot), K x2_19 = some (rR, zR) → Rg D T A st (gM T aM z_18) H locs → lv_has ls 4 [(2, .int x2_19)] → W pr l en rmX11_run st mi ag bl me co H locs 0 0 (MQ bl (kQ (some (.int rR)) D (gM T aM zR) A) ag st rmX11_run.cells rmX11_run.slots A) (F0 mi 117 ls [])) (n : Nat) (x2_16 : Int32) (x3_17 : Int32) (H : Heap) (locs : List Loc) (ls : Array Slot), qX11_run_L81 z_18 K n x2_16 x3_17 = some (rR, zR) → Rg D T A st (gM T aM z_18) H locs → lv_has ls 4 [(0, .ref (aM 0)), (2, .int x2_16), (3, .int x3_17)] → W pr l en rmX11_run st mi ag bl me co H locs 0 0 (MQ bl (kQ (some (.int rR)) D (gM T aM zR) A) ag st rmX11_run.cells rmX11_run.slots A) (F0 mi 81 ls []) := by
          intro z_18 K hK n
          induction n with
          | zero => intro x2_16 x3_17 H locs ls h; exact op_n h
          | succ n ih =>
            intro x2_16 x3_17 H locs ls h G hl
            rw [qX11_run_L81] at h
            refine lv_iload_n F.1 F.2.1 dX11_run_81 rfl (lv_at hl 2 rfl) ?_
            refine lv_aload_n F.1 F.2.1 dX11_run_82 rfl (lv_at hl 0 rfl) ?_
            refine k_get F G 0 rfl (N := 35) (Tt := TX11) rfl kf11 1 (by decide) kl769 (v := .int (z_18 1 0)) rfl dX11_run_83 ?_
            refine lv_icmp_ge (tgt := 117) F.1 F.2.1 dX11_run_86 (by decide) (fun c => ?_) (fun c => ?_)
            · have h := op_t h c
              exact hK x2_16 _ _ _ h G (lv_sub hl [1] rfl)
            · have h := op_f h c
              refine lv_iload_n F.1 F.2.1 dX11_run_89 rfl (lv_at hl 1 rfl) ?_
              refine lv_aload_n F.1 F.2.1 dX11_run_90 rfl (lv_at hl 0 rfl) ?_
              refine k_get F G 0 rfl (N := 35) (Tt := TX11) rfl kf11 10 (by decide) kl783 (v := .ref (aM 6)) rfl dX11_run_91 ?_
              refine lv_iload_n F.1 F.2.1 dX11_run_94 rfl (lv_at hl 2 rfl) ?_
              refine lv_iconst (v := 2) F.1 F.2.1 dX11_run_95 (by decide) ?_
              obtain ⟨r_20, hc, h⟩ := op_b h
              refine k_callS (rv := (some (.int r_20))) (Wc := ([] : va_W)) (W2 := ([] : va_W)) (Wn := (gM T aM z_18)) (As := [.int x3_17, .int 2]) (rest := [.ref (aM 6), .int x2_16]) F G (mX11_at l D T x3_17 2 hc) (va_cwS 2 F.2.2.2.2 (kg_c kl786 (kg_c kl787 (kg_c kl788 (kg_c kl767 kg_a)))) rfl rfl rfl (by decide +kernel) ⟨Nat.le_of_ble_eq_true rfl, Nat.le_of_ble_eq_true rfl⟩) (kCut_0 G) rfl hl.1 rfl (Nat.le_of_ble_eq_true rfl) dX11_run_96 ⟨Nat.le_of_ble_eq_true rfl, Nat.le_of_ble_eq_true rfl⟩ (cN := 0) (sN := 0) ⟨rfl, rfl⟩ (fun H locs G => ?_)
              obtain ⟨c, h⟩ := op_g h
              refine k_iald F G 6 rfl c dX11_run_99 ?_
              refine lv_iconst (v := 3) F.1 F.2.1 dX11_run_100 (by decide) ?_
              obtain ⟨j109, hj109, h⟩ := op_j h
              have J109 : ∀ (y_21 : Int32) (H : Heap) (locs : List Loc) (ls : Array Slot), j109 y_21 = some (rR, zR) → Rg D T A st (gM T aM z_18) H locs → lv_has ls 4 [(0, .ref (aM 0)), (3, .int x3_17)] → W pr l en rmX11_run st mi ag bl me co H locs 0 0 (MQ bl (kQ (some (.int rR)) D (gM T aM zR) A) ag st rmX11_run.cells rmX11_run.slots A) (F0 mi 109 ls [.int y_21, .int x2_16]) := by
                intro y_21 H locs ls h G hl
                rw [hj109] at h
                refine lv_iadd F.1 F.2.1 dX11_run_109 ?_
                refine lv_istore_n (lv' := [(2, .int (x2_16 + y_21)), (0, .ref (aM 0)), (3, .int x3_17)]) F.1 F.2.1 dX11_run_110 rfl hl (by decide) rfl (fun ls hl => ?_)
                refine lv_iinc (v := (x3_17 + 1)) (lv' := [(3, .int (x3_17 + 1)), (2, .int (x2_16 + y_21)), (0, .ref (aM 0))]) F.1 F.2.1 dX11_run_111 hl (k := 2) rfl rfl (by decide) rfl (fun ls hl => ?_)
                refine lv_goto (tgt := 81) F.1 F.2.1 dX11_run_114 (by decide) ?_
                exact ih (x2_16 + y_21) (x3_17 + 1) _ _ _ h G (lv_sub hl [2, 1, 0] rfl)
              clear hj109
              refine lv_icmp_ne (tgt := 108) F.1 F.2.1 dX11_run_101 (by decide) (fun c => ?_) (fun c => ?_)
              · have h := op_f h c
                refine lv_iconst (v := 0) F.1 F.2.1 dX11_run_108 (by decide) ?_
                exact J109 0 _ _ _ h G (lv_sub hl [0, 2] rfl)
              · have h := op_t h c
                refine lv_iconst (v := 1) F.1 F.2.1 dX11_run_104 (by decide) ?_
                refine lv_goto (tgt := 109) F.1 F.2.1 dX11_run_105 (by decide) ?_
                exact J109 1 _ _ _ h G (lv_sub hl [0, 2] rfl)
        refine L81 z_12  _ (fun x2_19 H locs ls h G hl => ?_) fu 0 0  _ _ _ h G (lv_sub hl [2, 1, 0] rfl)
        clear L81
        refine lv_iload_n F.1 F.2.1 dX11_run_117 rfl (lv_at hl 0 rfl) ?_
        obtain ⟨rfl, rfl⟩ := op_2 h
        exact k_iret F hr hlk G dX11_run_118
      · have h := op_t h c
        refine lv_iconst (v := 0) F.1 F.2.1 dX11_run_49 (by decide) ?_
        obtain ⟨rfl, rfl⟩ := op_2 h
        exact k_iret F hr hlk G dX11_run_50
    clear hj42
    refine lv_icmp_gt (tgt := 41) F.1 F.2.1 dX11_run_34 (by decide) (fun c => ?_) (fun c => ?_)
    · have h := op_t h c
      refine lv_iconst (v := 0) F.1 F.2.1 dX11_run_41 (by decide) ?_
      exact J42 0 _ _ _ h G hl
    · have h := op_f h c
      refine lv_iconst (v := 1) F.1 F.2.1 dX11_run_37 (by decide) ?_
      refine lv_goto (tgt := 42) F.1 F.2.1 dX11_run_38 (by decide) ?_
      exact J42 1 _ _ _ h G hl
abbrev rmX11_blackout : Room := ({ frames := 2, cells := 0, slots := 0, locals := 45 } : Room)
noncomputable def qX11_blackout (z : Nat → Nat → Int32) (x1 : Int32) : Option (Int32 × (Nat → Nat → Int32)) :=
  (bs (va_up z 0 (fun _ => 0)) fun z_1 => bd (qX11_isIn x1.toInt64 1 50) fun r_2 => bd2 (qX11_may z_1 r_2 1) fun r_3 z_4 => if r_3 = 0 then some (0, z_4) else bd (qX11_keeps z_4) fun z_5 => bd (qX11_darkens z_5 (z_5 10) x1) fun rw_6 => (bs (va_up z_5 10 rw_6) fun z_7 => some (((z_7 10) 1), z_7)))

set_option maxHeartbeats 4000000 in
set_option maxRecDepth 100000 in
theorem mX11_blackout (l : Launch) (D : va_G) (T : Nat → ClassId) (aM : Nat → Nat) (z : Nat → Nat → Int32) (x1 : Int32) {rR : Int32} {zR : Nat → Nat → Int32} (hres : qX11_blackout z x1 = some (rR, zR)) : Ct l yX11_blackout (Cond.code yX11_blackout cX11_blackout 2 (some .int) :: kAll) rmX11_blackout D T [.ref (aM 0), .int x1] (gM T aM z) (some (.int rR)) (gM T aM zR) := by
  refine Ct.of (cc := cX11_blackout) (maxL := 2) (ret := (some .int)) (by decide +kernel) rfl (Nat.le_of_ble_eq_true rfl) ?_
  intro pr en st mi ag bl me co A ls F hr hlk hnm G hl
  have hl : lv_has ls 2 [(0, .ref (aM 0)), (1, .int x1)] := hl
  have h := hres
  unfold qX11_blackout at h
  refine lv_aload_n F.1 F.2.1 dX11_blackout_0 rfl (lv_at hl 0 rfl) ?_
  refine lv_iconst (v := 0) F.1 F.2.1 dX11_blackout_1 (by decide) ?_
  obtain ⟨z_1, e9, h⟩ := op_st h
  refine k_put F G 0 rfl (N := 35) (Tt := TX11) rfl kf11 tyX11_ok nmX11 0 (by decide) kl804 rfl (v := .int 0) rfl rfl (Nat.le_of_ble_eq_true rfl) dX11_blackout_2 (Wn := (gM T aM z_1)) (by subst e9; rfl) (fun H locs G => ?_)
  clear e9
  refine lv_aload_n F.1 F.2.1 dX11_blackout_5 rfl (lv_at hl 0 rfl) ?_
  refine lv_iload_n F.1 F.2.1 dX11_blackout_6 rfl (lv_at hl 1 rfl) ?_
  refine lv_i2l (v := x1.toInt64) F.1 F.2.1 dX11_blackout_7 rfl ?_
  refine lv_lconst (v := 1) F.1 F.2.1 dX11_blackout_8 (by decide) ?_
  refine lv_ldc2 (v := 50) F.1 F.2.1 F.2.2.2.1 (F.2.2.2.2 _ kl1037) dX11_blackout_9 ?_
  obtain ⟨r_2, hc, h⟩ := op_b h
  refine k_callS (rv := (some (.int r_2))) (Wc := ([] : va_W)) (W2 := ([] : va_W)) (Wn := (gM T aM z_1)) (As := [.long x1.toInt64, .long 1, .long 50]) (rest := [.ref (aM 0)]) F G (mX11_isIn l D T x1.toInt64 1 50 hc) (va_cwS 3 F.2.2.2.2 (kg_c kl813 (kg_c kl814 (kg_c kl788 (kg_c kl805 kg_a)))) rfl rfl rfl (by decide +kernel) ⟨Nat.le_of_ble_eq_true rfl, Nat.le_of_ble_eq_true rfl⟩) (kCut_0 G) rfl hl.1 rfl (Nat.le_of_ble_eq_true rfl) dX11_blackout_12 ⟨Nat.le_of_ble_eq_true rfl, Nat.le_of_ble_eq_true rfl⟩ (cN := 0) (sN := 0) ⟨rfl, rfl⟩ (fun H locs G => ?_)
  refine lv_iconst (v := 1) F.1 F.2.1 dX11_blackout_15 (by decide) ?_
  obtain ⟨r_3, z_4, hc, h⟩ := op_b2 h
  refine k_callV (rv := (some (.int r_3))) (Wc := (gM T aM z_1)) (W2 := (gM T aM z_4)) (Wn := (gM T aM z_4)) (As := [.int r_2, .int 1]) (rest := []) F G (mX11_may l D T aM z_1 r_2 1 hc) (cwV 2 F.2.2.2.2 (kg_c kl809 (kg_c kl810 (kg_c kl811 (kg_c kl788 (kg_c kl806 kg_a))))) rfl rfl rfl (by decide +kernel) ⟨Nat.le_of_ble_eq_true rfl, Nat.le_of_ble_eq_true rfl⟩) 0 rfl (q := (RX11, TX11, 35)) rfl rfl (kCut_F G) rfl hl.1 rfl (Nat.le_of_ble_eq_true rfl) dX11_blackout_16 ⟨Nat.le_of_ble_eq_true rfl, Nat.le_of_ble_eq_true rfl⟩ (cN := 0) (sN := 0) ⟨rfl, rfl⟩ (fun H locs G => ?_)
  refine lv_if_ne (tgt := 24) F.1 F.2.1 dX11_blackout_19 (by decide) (fun c => ?_) (fun c => ?_)
  · have h := op_f h c
    refine lv_aload_n F.1 F.2.1 dX11_blackout_24 rfl (lv_at hl 0 rfl) ?_
    obtain ⟨z_5, hc, h⟩ := op_b h
    refine k_callV (rv := none) (Wc := (gM T aM z_4)) (W2 := (gM T aM z_5)) (Wn := (gM T aM z_5)) (As := []) (rest := []) F G (mX11_keeps l D T aM z_4 hc) (cwV 0 F.2.2.2.2 (kg_c kl1033 (kg_c kl1034 (kg_c kl1035 (kg_c kl788 (kg_c kl1030 kg_a))))) rfl rfl rfl (by decide +kernel) ⟨Nat.le_of_ble_eq_true rfl, Nat.le_of_ble_eq_true rfl⟩) 0 rfl (q := (RX11, TX11, 35)) rfl rfl (kCut_F G) rfl hl.1 rfl (Nat.le_of_ble_eq_true rfl) dX11_blackout_25 ⟨Nat.le_of_ble_eq_true rfl, Nat.le_of_ble_eq_true rfl⟩ (cN := 0) (sN := 0) ⟨rfl, rfl⟩ (fun H locs G => ?_)
    refine lv_aload_n F.1 F.2.1 dX11_blackout_28 rfl (lv_at hl 0 rfl) ?_
    refine lv_aload_n F.1 F.2.1 dX11_blackout_29 rfl (lv_at hl 0 rfl) ?_
    refine k_get F G 0 rfl (N := 35) (Tt := TX11) rfl kf11 10 (by decide) kl783 (v := .ref (aM 6)) rfl dX11_blackout_30 ?_
    refine lv_iload_n F.1 F.2.1 dX11_blackout_33 rfl (lv_at hl 1 rfl) ?_
    obtain ⟨rw_6, hc, h⟩ := op_b h
    obtain ⟨z_7, e9, h⟩ := op_st h
    refine k_callV (rv := none) (Wc := (gMR T aM (aM 6) z_5 (z_5 10))) (W2 := (gMR T aM (aM 6) z_5 rw_6)) (Wn := (gM T aM z_7)) (As := [.ref (aM 6), .int x1]) (rest := []) F G (mX11_darkens l D T aM (aM 6) z_5 (z_5 10) x1 hc) (cwV 2 F.2.2.2.2 (kg_c kl960 (kg_c kl961 (kg_c kl962 (kg_c kl788 (kg_c kl925 kg_a))))) rfl rfl rfl (by decide +kernel) ⟨Nat.le_of_ble_eq_true rfl, Nat.le_of_ble_eq_true rfl⟩) 0 rfl (q := (RX11, TX11, 35)) rfl rfl (kCut_G (Wr := [(aM 5, .inl (T 0, 96, .inl (z_5 9))), (aM 7, .inl (T 0, 411, .inl (z_5 11))), (aM 8, .inl (T 0, 3288, .inl (z_5 12))), (aM 9, .inl (T 0, 822, .inl (z_5 13))), (aM 10, .inl (T 3, 2, .inl (z_5 14))), (aM 11, .inl (T 0, 900, .inl (z_5 16))), (aM 12, .inl (T 0, 411, .inl (z_5 17))), (aM 13, .inl (T 0, 48, .inl (z_5 18))), (aM 14, .inl (T 0, 12, .inl (z_5 19))), (aM 15, .inl (T 0, 24, .inl (z_5 20))), (aM 16, .inl (T 0, 8, .inl (z_5 21))), (aM 17, .inl (T 0, 96, .inl (z_5 22)))]) G [0, 1, 2, 3, 4, 6] [5, 7, 8, 9, 10, 11, 12, 13, 14, 15, 16, 17] rfl rfl rfl rfl (by decide) [12, 13, 14, 15, 16, 0, 17, 1, 2, 3, 4, 5, 6, 7, 8, 9, 10, 11] rfl (by subst e9; rfl)) rfl hl.1 rfl (Nat.le_of_ble_eq_true rfl) dX11_blackout_34 ⟨Nat.le_of_ble_eq_true rfl, Nat.le_of_ble_eq_true rfl⟩ (cN := 0) (sN := 0) ⟨rfl, rfl⟩ (fun H locs G => ?_)
    clear e9
    refine lv_aload_n F.1 F.2.1 dX11_blackout_37 rfl (lv_at hl 0 rfl) ?_
    refine k_get F G 0 rfl (N := 35) (Tt := TX11) rfl kf11 10 (by decide) kl783 (v := .ref (aM 6)) rfl dX11_blackout_38 ?_
    refine lv_iconst (v := 1) F.1 F.2.1 dX11_blackout_41 (by decide) ?_
    refine k_ialdN F G 6 rfl (kin (by decide +kernel)) 1 (by decide +kernel) dX11_blackout_42 ?_
    obtain ⟨rfl, rfl⟩ := op_2 h
    exact k_iret F hr hlk G dX11_blackout_43
  · have h := op_t h c
    refine lv_iconst (v := 0) F.1 F.2.1 dX11_blackout_22 (by decide) ?_
    obtain ⟨rfl, rfl⟩ := op_2 h
    exact k_iret F hr hlk G dX11_blackout_23
abbrev rmX11_want : Room := ({ frames := 2, cells := 0, slots := 0, locals := 46 } : Room)
noncomputable def qX11_want (z : Nat → Nat → Int32) (x1 : Int32) (x2 : Int32) : Option (Int32 × (Nat → Nat → Int32)) :=
  (bs (va_up z 0 (fun _ => 0)) fun z_1 => bd (qX11_isOutlet z_1 x1) fun r_2 => bd2 (qX11_may z_1 r_2 1) fun r_3 z_4 => if r_3 = 0 then some (0, z_4) else bd (qX11_keeps z_4) fun z_5 => bd (qX11_at x1 1) fun r_6 => gd (vp_in r_6 411) ((jn (fun (y_7 : Int32) => if y_7 = x2 then gd (narrow .boolean (.int y_7) = .int y_7) (some (y_7, z_5)) else bd (qX11_at x1 1) fun r_8 => (jn (fun (y_9 : Int32) => gd (vp_in r_8 411) (bs (va_up z_5 10 (upd (z_5 10) r_8.toNatClampNeg y_9)) fun z_10 => bd (qX11_at x1 2) fun r_11 => gd (vp_in r_11 411) ((jn (fun (z_12 : Nat → Nat → Int32) => bd (qX11_at x1 2) fun r_13 => (jn (fun (y_14 : Int32) => gd (vp_in r_13 411) (bs (va_up z_12 10 (upd (z_12 10) r_13.toNatClampNeg y_14)) fun z_15 => bd (qX11_at x1 3) fun r_16 => gd (vp_in r_16 411) (bs (va_up z_15 10 (upd (z_15 10) r_16.toNatClampNeg 0)) fun z_17 => bd (qX11_at x1 6) fun r_18 => gd (vp_in r_18 411) (bs (va_up z_17 10 (upd (z_17 10) r_18.toNatClampNeg (-1))) fun z_19 => gd (narrow .boolean (.int y_7) = .int y_7) (some (y_7, z_19)))))) fun j114 => if x2 = 0 then (j114 0) else (j114 1))) fun j96 => if ((z_10 10) r_11.toNatClampNeg) < 2 then (j96 z_10) else bd (qX11_at x1 7) fun r_20 => gd (vp_in r_20 411) (bs (va_up z_10 10 (upd (z_10 10) r_20.toNatClampNeg 1)) fun z_21 => (j96 z_21)))))) fun j69 => if x2 = 0 then (j69 0) else (j69 1))) fun j43 => if ((z_5 10) r_6.toNatClampNeg) = 1 then (j43 1) else (j43 0))))

set_option maxHeartbeats 4000000 in
set_option maxRecDepth 100000 in
theorem mX11_want (l : Launch) (D : va_G) (T : Nat → ClassId) (aM : Nat → Nat) (z : Nat → Nat → Int32) (x1 : Int32) (x2 : Int32) {rR : Int32} {zR : Nat → Nat → Int32} (hres : qX11_want z x1 x2 = some (rR, zR)) : Ct l yX11_want (Cond.code yX11_want cX11_want 4 (some .boolean) :: kAll) rmX11_want D T [.ref (aM 0), .int x1, .int x2] (gM T aM z) (some (.int rR)) (gM T aM zR) := by
  refine Ct.of (cc := cX11_want) (maxL := 4) (ret := (some .boolean)) (by decide +kernel) rfl (Nat.le_of_ble_eq_true rfl) ?_
  intro pr en st mi ag bl me co A ls F hr hlk hnm G hl
  have hl : lv_has ls 4 [(0, .ref (aM 0)), (1, .int x1), (2, .int x2)] := hl
  have h := hres
  unfold qX11_want at h
  refine lv_aload_n F.1 F.2.1 dX11_want_0 rfl (lv_at hl 0 rfl) ?_
  refine lv_iconst (v := 0) F.1 F.2.1 dX11_want_1 (by decide) ?_
  obtain ⟨z_1, e9, h⟩ := op_st h
  refine k_put F G 0 rfl (N := 35) (Tt := TX11) rfl kf11 tyX11_ok nmX11 0 (by decide) kl804 rfl (v := .int 0) rfl rfl (Nat.le_of_ble_eq_true rfl) dX11_want_2 (Wn := (gM T aM z_1)) (by subst e9; rfl) (fun H locs G => ?_)
  clear e9
  refine lv_aload_n F.1 F.2.1 dX11_want_5 rfl (lv_at hl 0 rfl) ?_
  refine lv_aload_n F.1 F.2.1 dX11_want_6 rfl (lv_at hl 0 rfl) ?_
  refine lv_iload_n F.1 F.2.1 dX11_want_7 rfl (lv_at hl 1 rfl) ?_
  obtain ⟨r_2, hc, h⟩ := op_b h
  refine k_callV (rv := (some (.int r_2))) (Wc := (gM T aM z_1)) (W2 := (gM T aM z_1)) (Wn := (gM T aM z_1)) (As := [.int x1]) (rest := [.ref (aM 0)]) F G (mX11_isOutlet l D T aM z_1 x1 hc) (cwV 1 F.2.2.2.2 (kg_c kl989 (kg_c kl990 (kg_c kl991 (kg_c kl788 (kg_c kl984 kg_a))))) rfl rfl rfl (by decide +kernel) ⟨Nat.le_of_ble_eq_true rfl, Nat.le_of_ble_eq_true rfl⟩) 0 rfl (q := (RX11, TX11, 35)) rfl rfl (kCut_F G) rfl hl.1 rfl (Nat.le_of_ble_eq_true rfl) dX11_want_8 ⟨Nat.le_of_ble_eq_true rfl, Nat.le_of_ble_eq_true rfl⟩ (cN := 0) (sN := 0) ⟨rfl, rfl⟩ (fun H locs G => ?_)
  refine lv_iconst (v := 1) F.1 F.2.1 dX11_want_11 (by decide) ?_
  obtain ⟨r_3, z_4, hc, h⟩ := op_b2 h
  refine k_callV (rv := (some (.int r_3))) (Wc := (gM T aM z_1)) (W2 := (gM T aM z_4)) (Wn := (gM T aM z_4)) (As := [.int r_2, .int 1]) (rest := []) F G (mX11_may l D T aM z_1 r_2 1 hc) (cwV 2 F.2.2.2.2 (kg_c kl809 (kg_c kl810 (kg_c kl811 (kg_c kl788 (kg_c kl806 kg_a))))) rfl rfl rfl (by decide +kernel) ⟨Nat.le_of_ble_eq_true rfl, Nat.le_of_ble_eq_true rfl⟩) 0 rfl (q := (RX11, TX11, 35)) rfl rfl (kCut_F G) rfl hl.1 rfl (Nat.le_of_ble_eq_true rfl) dX11_want_12 ⟨Nat.le_of_ble_eq_true rfl, Nat.le_of_ble_eq_true rfl⟩ (cN := 0) (sN := 0) ⟨rfl, rfl⟩ (fun H locs G => ?_)
  refine lv_if_ne (tgt := 20) F.1 F.2.1 dX11_want_15 (by decide) (fun c => ?_) (fun c => ?_)
  · have h := op_f h c
    refine lv_aload_n F.1 F.2.1 dX11_want_20 rfl (lv_at hl 0 rfl) ?_
    obtain ⟨z_5, hc, h⟩ := op_b h
    refine k_callV (rv := none) (Wc := (gM T aM z_4)) (W2 := (gM T aM z_5)) (Wn := (gM T aM z_5)) (As := []) (rest := []) F G (mX11_keeps l D T aM z_4 hc) (cwV 0 F.2.2.2.2 (kg_c kl1033 (kg_c kl1034 (kg_c kl1035 (kg_c kl788 (kg_c kl1030 kg_a))))) rfl rfl rfl (by decide +kernel) ⟨Nat.le_of_ble_eq_true rfl, Nat.le_of_ble_eq_true rfl⟩) 0 rfl (q := (RX11, TX11, 35)) rfl rfl (kCut_F G) rfl hl.1 rfl (Nat.le_of_ble_eq_true rfl) dX11_want_21 ⟨Nat.le_of_ble_eq_true rfl, Nat.le_of_ble_eq_true rfl⟩ (cN := 0) (sN := 0) ⟨rfl, rfl⟩ (fun H locs G => ?_)
    refine lv_aload_n F.1 F.2.1 dX11_want_24 rfl (lv_at hl 0 rfl) ?_
    refine k_get F G 0 rfl (N := 35) (Tt := TX11) rfl kf11 10 (by decide) kl783 (v := .ref (aM 6)) rfl dX11_want_25 ?_
    refine lv_iload_n F.1 F.2.1 dX11_want_28 rfl (lv_at hl 1 rfl) ?_
    refine lv_iconst (v := 1) F.1 F.2.1 dX11_want_29 (by decide) ?_
    obtain ⟨r_6, hc, h⟩ := op_b h
    refine k_callS (rv := (some (.int r_6))) (Wc := ([] : va_W)) (W2 := ([] : va_W)) (Wn := (gM T aM z_5)) (As := [.int x1, .int 1]) (rest := [.ref (aM 6)]) F G (mX11_at l D T x1 1 hc) (va_cwS 2 F.2.2.2.2 (kg_c kl786 (kg_c kl787 (kg_c kl788 (kg_c kl767 kg_a)))) rfl rfl rfl (by decide +kernel) ⟨Nat.le_of_ble_eq_true rfl, Nat.le_of_ble_eq_true rfl⟩) (kCut_0 G) rfl hl.1 rfl (Nat.le_of_ble_eq_true rfl) dX11_want_30 ⟨Nat.le_of_ble_eq_true rfl, Nat.le_of_ble_eq_true rfl⟩ (cN := 0) (sN := 0) ⟨rfl, rfl⟩ (fun H locs G => ?_)
    obtain ⟨c, h⟩ := op_g h
    refine k_iald F G 6 rfl c dX11_want_33 ?_
    refine lv_iconst (v := 1) F.1 F.2.1 dX11_want_34 (by decide) ?_
    obtain ⟨j43, hj43, h⟩ := op_j h
    have J43 : ∀ (y_7 : Int32) (H : Heap) (locs : List Loc) (ls : Array Slot), j43 y_7 = some (rR, zR) → Rg D T A st (gM T aM z_5) H locs → lv_has ls 4 [(0, .ref (aM 0)), (1, .int x1), (2, .int x2)] → W pr l en rmX11_want st mi ag bl me co H locs 0 0 (MQ bl (kQ (some (.int rR)) D (gM T aM zR) A) ag st rmX11_want.cells rmX11_want.slots A) (F0 mi 43 ls [.int y_7]) := by
      intro y_7 H locs ls h G hl
      rw [hj43] at h
      refine lv_istore_n (lv' := [(3, .int y_7), (0, .ref (aM 0)), (1, .int x1), (2, .int x2)]) F.1 F.2.1 dX11_want_43 rfl hl (by decide) rfl (fun ls hl => ?_)
      refine lv_iload_n F.1 F.2.1 dX11_want_44 rfl (lv_at hl 0 rfl) ?_
      refine lv_iload_n F.1 F.2.1 dX11_want_45 rfl (lv_at hl 3 rfl) ?_
      refine lv_icmp_ne (tgt := 51) F.1 F.2.1 dX11_want_46 (by decide) (fun c => ?_) (fun c => ?_)
      · have h := op_f h c
        refine lv_aload_n F.1 F.2.1 dX11_want_51 rfl (lv_at hl 1 rfl) ?_
        refine k_get F G 0 rfl (N := 35) (Tt := TX11) rfl kf11 10 (by decide) kl783 (v := .ref (aM 6)) rfl dX11_want_52 ?_
        refine lv_iload_n F.1 F.2.1 dX11_want_55 rfl (lv_at hl 2 rfl) ?_
        refine lv_iconst (v := 1) F.1 F.2.1 dX11_want_56 (by decide) ?_
        obtain ⟨r_8, hc, h⟩ := op_b h
        refine k_callS (rv := (some (.int r_8))) (Wc := ([] : va_W)) (W2 := ([] : va_W)) (Wn := (gM T aM z_5)) (As := [.int x1, .int 1]) (rest := [.ref (aM 6)]) F G (mX11_at l D T x1 1 hc) (va_cwS 2 F.2.2.2.2 (kg_c kl786 (kg_c kl787 (kg_c kl788 (kg_c kl767 kg_a)))) rfl rfl rfl (by decide +kernel) ⟨Nat.le_of_ble_eq_true rfl, Nat.le_of_ble_eq_true rfl⟩) (kCut_0 G) rfl hl.1 rfl (Nat.le_of_ble_eq_true rfl) dX11_want_57 ⟨Nat.le_of_ble_eq_true rfl, Nat.le_of_ble_eq_true rfl⟩ (cN := 0) (sN := 0) ⟨rfl, rfl⟩ (fun H locs G => ?_)
        refine lv_iload_n F.1 F.2.1 dX11_want_60 rfl (lv_at hl 3 rfl) ?_
        obtain ⟨j69, hj69, h⟩ := op_j h
        have J69 : ∀ (y_9 : Int32) (H : Heap) (locs : List Loc) (ls : Array Slot), j69 y_9 = some (rR, zR) → Rg D T A st (gM T aM z_5) H locs → lv_has ls 4 [(0, .ref (aM 0)), (1, .int x1), (2, .int x2), (3, .int y_7)] → W pr l en rmX11_want st mi ag bl me co H locs 0 0 (MQ bl (kQ (some (.int rR)) D (gM T aM zR) A) ag st rmX11_want.cells rmX11_want.slots A) (F0 mi 69 ls [.int y_9, .int r_8, .ref (aM 6)]) := by
          intro y_9 H locs ls h G hl
          rw [hj69] at h
          obtain ⟨c, h⟩ := op_g h
          obtain ⟨z_10, e9, h⟩ := op_st h
          refine k_iast F G 6 rfl c dX11_want_69 (Wn := (gM T aM z_10)) (by subst e9; rfl) (fun H locs G => ?_)
          clear e9
          refine lv_aload_n F.1 F.2.1 dX11_want_70 rfl (lv_at hl 0 rfl) ?_
          refine k_get F G 0 rfl (N := 35) (Tt := TX11) rfl kf11 10 (by decide) kl783 (v := .ref (aM 6)) rfl dX11_want_71 ?_
          refine lv_iload_n F.1 F.2.1 dX11_want_74 rfl (lv_at hl 1 rfl) ?_
          refine lv_iconst (v := 2) F.1 F.2.1 dX11_want_75 (by decide) ?_
          obtain ⟨r_11, hc, h⟩ := op_b h
          refine k_callS (rv := (some (.int r_11))) (Wc := ([] : va_W)) (W2 := ([] : va_W)) (Wn := (gM T aM z_10)) (As := [.int x1, .int 2]) (rest := [.ref (aM 6)]) F G (mX11_at l D T x1 2 hc) (va_cwS 2 F.2.2.2.2 (kg_c kl786 (kg_c kl787 (kg_c kl788 (kg_c kl767 kg_a)))) rfl rfl rfl (by decide +kernel) ⟨Nat.le_of_ble_eq_true rfl, Nat.le_of_ble_eq_true rfl⟩) (kCut_0 G) rfl hl.1 rfl (Nat.le_of_ble_eq_true rfl) dX11_want_76 ⟨Nat.le_of_ble_eq_true rfl, Nat.le_of_ble_eq_true rfl⟩ (cN := 0) (sN := 0) ⟨rfl, rfl⟩ (fun H locs G => ?_)
          obtain ⟨c, h⟩ := op_g h
          refine k_iald F G 6 rfl c dX11_want_79 ?_
          refine lv_iconst (v := 2) F.1 F.2.1 dX11_want_80 (by decide) ?_
          obtain ⟨j96, hj96, h⟩ := op_j h
          have J96 : ∀ (z_12 : Nat → Nat → Int32) (H : Heap) (locs : List Loc) (ls : Array Slot), j96 z_12 = some (rR, zR) → Rg D T A st (gM T aM z_12) H locs → lv_has ls 4 [(0, .ref (aM 0)), (1, .int x1), (2, .int x2), (3, .int y_7)] → W pr l en rmX11_want st mi ag bl me co H locs 0 0 (MQ bl (kQ (some (.int rR)) D (gM T aM zR) A) ag st rmX11_want.cells rmX11_want.slots A) (F0 mi 96 ls []) := by
            intro z_12 H locs ls h G hl
            rw [hj96] at h
            refine lv_aload_n F.1 F.2.1 dX11_want_96 rfl (lv_at hl 0 rfl) ?_
            refine k_get F G 0 rfl (N := 35) (Tt := TX11) rfl kf11 10 (by decide) kl783 (v := .ref (aM 6)) rfl dX11_want_97 ?_
            refine lv_iload_n F.1 F.2.1 dX11_want_100 rfl (lv_at hl 1 rfl) ?_
            refine lv_iconst (v := 2) F.1 F.2.1 dX11_want_101 (by decide) ?_
            obtain ⟨r_13, hc, h⟩ := op_b h
            refine k_callS (rv := (some (.int r_13))) (Wc := ([] : va_W)) (W2 := ([] : va_W)) (Wn := (gM T aM z_12)) (As := [.int x1, .int 2]) (rest := [.ref (aM 6)]) F G (mX11_at l D T x1 2 hc) (va_cwS 2 F.2.2.2.2 (kg_c kl786 (kg_c kl787 (kg_c kl788 (kg_c kl767 kg_a)))) rfl rfl rfl (by decide +kernel) ⟨Nat.le_of_ble_eq_true rfl, Nat.le_of_ble_eq_true rfl⟩) (kCut_0 G) rfl hl.1 rfl (Nat.le_of_ble_eq_true rfl) dX11_want_102 ⟨Nat.le_of_ble_eq_true rfl, Nat.le_of_ble_eq_true rfl⟩ (cN := 0) (sN := 0) ⟨rfl, rfl⟩ (fun H locs G => ?_)
            refine lv_iload_n F.1 F.2.1 dX11_want_105 rfl (lv_at hl 2 rfl) ?_
            obtain ⟨j114, hj114, h⟩ := op_j h
            have J114 : ∀ (y_14 : Int32) (H : Heap) (locs : List Loc) (ls : Array Slot), j114 y_14 = some (rR, zR) → Rg D T A st (gM T aM z_12) H locs → lv_has ls 4 [(0, .ref (aM 0)), (1, .int x1), (3, .int y_7)] → W pr l en rmX11_want st mi ag bl me co H locs 0 0 (MQ bl (kQ (some (.int rR)) D (gM T aM zR) A) ag st rmX11_want.cells rmX11_want.slots A) (F0 mi 114 ls [.int y_14, .int r_13, .ref (aM 6)]) := by
              intro y_14 H locs ls h G hl
              rw [hj114] at h
              obtain ⟨c, h⟩ := op_g h
              obtain ⟨z_15, e9, h⟩ := op_st h
              refine k_iast F G 6 rfl c dX11_want_114 (Wn := (gM T aM z_15)) (by subst e9; rfl) (fun H locs G => ?_)
              clear e9
              refine lv_aload_n F.1 F.2.1 dX11_want_115 rfl (lv_at hl 0 rfl) ?_
              refine k_get F G 0 rfl (N := 35) (Tt := TX11) rfl kf11 10 (by decide) kl783 (v := .ref (aM 6)) rfl dX11_want_116 ?_
              refine lv_iload_n F.1 F.2.1 dX11_want_119 rfl (lv_at hl 1 rfl) ?_
              refine lv_iconst (v := 3) F.1 F.2.1 dX11_want_120 (by decide) ?_
              obtain ⟨r_16, hc, h⟩ := op_b h
              refine k_callS (rv := (some (.int r_16))) (Wc := ([] : va_W)) (W2 := ([] : va_W)) (Wn := (gM T aM z_15)) (As := [.int x1, .int 3]) (rest := [.ref (aM 6)]) F G (mX11_at l D T x1 3 hc) (va_cwS 2 F.2.2.2.2 (kg_c kl786 (kg_c kl787 (kg_c kl788 (kg_c kl767 kg_a)))) rfl rfl rfl (by decide +kernel) ⟨Nat.le_of_ble_eq_true rfl, Nat.le_of_ble_eq_true rfl⟩) (kCut_0 G) rfl hl.1 rfl (Nat.le_of_ble_eq_true rfl) dX11_want_121 ⟨Nat.le_of_ble_eq_true rfl, Nat.le_of_ble_eq_true rfl⟩ (cN := 0) (sN := 0) ⟨rfl, rfl⟩ (fun H locs G => ?_)
              refine lv_iconst (v := 0) F.1 F.2.1 dX11_want_124 (by decide) ?_
              obtain ⟨c, h⟩ := op_g h
              obtain ⟨z_17, e9, h⟩ := op_st h
              refine k_iast F G 6 rfl c dX11_want_125 (Wn := (gM T aM z_17)) (by subst e9; rfl) (fun H locs G => ?_)
              clear e9
              refine lv_aload_n F.1 F.2.1 dX11_want_126 rfl (lv_at hl 0 rfl) ?_
              refine k_get F G 0 rfl (N := 35) (Tt := TX11) rfl kf11 10 (by decide) kl783 (v := .ref (aM 6)) rfl dX11_want_127 ?_
              refine lv_iload_n F.1 F.2.1 dX11_want_130 rfl (lv_at hl 1 rfl) ?_
              refine lv_bipush (v := 6) F.1 F.2.1 dX11_want_131 (by decide) ?_
              obtain ⟨r_18, hc, h⟩ := op_b h
              refine k_callS (rv := (some (.int r_18))) (Wc := ([] : va_W)) (W2 := ([] : va_W)) (Wn := (gM T aM z_17)) (As := [.int x1, .int 6]) (rest := [.ref (aM 6)]) F G (mX11_at l D T x1 6 hc) (va_cwS 2 F.2.2.2.2 (kg_c kl786 (kg_c kl787 (kg_c kl788 (kg_c kl767 kg_a)))) rfl rfl rfl (by decide +kernel) ⟨Nat.le_of_ble_eq_true rfl, Nat.le_of_ble_eq_true rfl⟩) (kCut_0 G) rfl hl.1 rfl (Nat.le_of_ble_eq_true rfl) dX11_want_133 ⟨Nat.le_of_ble_eq_true rfl, Nat.le_of_ble_eq_true rfl⟩ (cN := 0) (sN := 0) ⟨rfl, rfl⟩ (fun H locs G => ?_)
              refine lv_iconst (v := (-1)) F.1 F.2.1 dX11_want_136 (by decide) ?_
              obtain ⟨c, h⟩ := op_g h
              obtain ⟨z_19, e9, h⟩ := op_st h
              refine k_iast F G 6 rfl c dX11_want_137 (Wn := (gM T aM z_19)) (by subst e9; rfl) (fun H locs G => ?_)
              clear e9
              refine lv_iload_n F.1 F.2.1 dX11_want_138 rfl (lv_at hl 2 rfl) ?_
              obtain ⟨c, h⟩ := op_g h
              obtain ⟨rfl, rfl⟩ := op_2 h
              exact k_zret F hr c hlk G dX11_want_139
            clear hj114
            refine lv_if_eq (tgt := 113) F.1 F.2.1 dX11_want_106 (by decide) (fun c => ?_) (fun c => ?_)
            · have h := op_t h c
              refine lv_iconst (v := 0) F.1 F.2.1 dX11_want_113 (by decide) ?_
              exact J114 0 _ _ _ h G (lv_sub hl [0, 1, 3] rfl)
            · have h := op_f h c
              refine lv_iconst (v := 1) F.1 F.2.1 dX11_want_109 (by decide) ?_
              refine lv_goto (tgt := 114) F.1 F.2.1 dX11_want_110 (by decide) ?_
              exact J114 1 _ _ _ h G (lv_sub hl [0, 1, 3] rfl)
          clear hj96
          refine lv_icmp_lt (tgt := 96) F.1 F.2.1 dX11_want_81 (by decide) (fun c => ?_) (fun c => ?_)
          · have h := op_t h c
            exact J96 z_10 _ _ _ h G hl
          · have h := op_f h c
            refine lv_aload_n F.1 F.2.1 dX11_want_84 rfl (lv_at hl 0 rfl) ?_
            refine k_get F G 0 rfl (N := 35) (Tt := TX11) rfl kf11 10 (by decide) kl783 (v := .ref (aM 6)) rfl dX11_want_85 ?_
            refine lv_iload_n F.1 F.2.1 dX11_want_88 rfl (lv_at hl 1 rfl) ?_
            refine lv_bipush (v := 7) F.1 F.2.1 dX11_want_89 (by decide) ?_
            obtain ⟨r_20, hc, h⟩ := op_b h
            refine k_callS (rv := (some (.int r_20))) (Wc := ([] : va_W)) (W2 := ([] : va_W)) (Wn := (gM T aM z_10)) (As := [.int x1, .int 7]) (rest := [.ref (aM 6)]) F G (mX11_at l D T x1 7 hc) (va_cwS 2 F.2.2.2.2 (kg_c kl786 (kg_c kl787 (kg_c kl788 (kg_c kl767 kg_a)))) rfl rfl rfl (by decide +kernel) ⟨Nat.le_of_ble_eq_true rfl, Nat.le_of_ble_eq_true rfl⟩) (kCut_0 G) rfl hl.1 rfl (Nat.le_of_ble_eq_true rfl) dX11_want_91 ⟨Nat.le_of_ble_eq_true rfl, Nat.le_of_ble_eq_true rfl⟩ (cN := 0) (sN := 0) ⟨rfl, rfl⟩ (fun H locs G => ?_)
            refine lv_iconst (v := 1) F.1 F.2.1 dX11_want_94 (by decide) ?_
            obtain ⟨c, h⟩ := op_g h
            obtain ⟨z_21, e9, h⟩ := op_st h
            refine k_iast F G 6 rfl c dX11_want_95 (Wn := (gM T aM z_21)) (by subst e9; rfl) (fun H locs G => ?_)
            clear e9
            exact J96 z_21 _ _ _ h G hl
        clear hj69
        refine lv_if_eq (tgt := 68) F.1 F.2.1 dX11_want_61 (by decide) (fun c => ?_) (fun c => ?_)
        · have h := op_t h c
          refine lv_iconst (v := 0) F.1 F.2.1 dX11_want_68 (by decide) ?_
          exact J69 0 _ _ _ h G (lv_sub hl [1, 2, 3, 0] rfl)
        · have h := op_f h c
          refine lv_iconst (v := 1) F.1 F.2.1 dX11_want_64 (by decide) ?_
          refine lv_goto (tgt := 69) F.1 F.2.1 dX11_want_65 (by decide) ?_
          exact J69 1 _ _ _ h G (lv_sub hl [1, 2, 3, 0] rfl)
      · have h := op_t h c
        refine lv_iload_n F.1 F.2.1 dX11_want_49 rfl (lv_at hl 0 rfl) ?_
        obtain ⟨c, h⟩ := op_g h
        obtain ⟨rfl, rfl⟩ := op_2 h
        exact k_zret F hr c hlk G dX11_want_50
    clear hj43
    refine lv_icmp_ne (tgt := 42) F.1 F.2.1 dX11_want_35 (by decide) (fun c => ?_) (fun c => ?_)
    · have h := op_f h c
      refine lv_iconst (v := 0) F.1 F.2.1 dX11_want_42 (by decide) ?_
      exact J43 0 _ _ _ h G hl
    · have h := op_t h c
      refine lv_iconst (v := 1) F.1 F.2.1 dX11_want_38 (by decide) ?_
      refine lv_goto (tgt := 43) F.1 F.2.1 dX11_want_39 (by decide) ?_
      exact J43 1 _ _ _ h G hl
  · have h := op_t h c
    refine lv_iconst (v := 0) F.1 F.2.1 dX11_want_18 (by decide) ?_
    obtain ⟨rfl, rfl⟩ := op_2 h
    exact k_zret F hr rfl hlk G dX11_want_19
abbrev rmX11_setFuse : Room := ({ frames := 1, cells := 0, slots := 0, locals := 25 } : Room)
noncomputable def qX11_setFuse (z : Nat → Nat → Int32) (x1 : Int32) : Option (Int32 × (Nat → Nat → Int32)) :=
  (bs (va_up z 0 (fun _ => 0)) fun z_1 => bd (qX11_isIn x1.toInt64 1 9999) fun r_2 => bd2 (qX11_may z_1 r_2 1) fun r_3 z_4 => if r_3 = 0 then some (0, z_4) else bd (qX11_keeps z_4) fun z_5 => (bs (va_up z_5 10 (upd (z_5 10) 6 x1)) fun z_6 => some (((z_5 10) 6), z_6)))

set_option maxHeartbeats 4000000 in
set_option maxRecDepth 100000 in
theorem mX11_setFuse (l : Launch) (D : va_G) (T : Nat → ClassId) (aM : Nat → Nat) (z : Nat → Nat → Int32) (x1 : Int32) {rR : Int32} {zR : Nat → Nat → Int32} (hres : qX11_setFuse z x1 = some (rR, zR)) : Ct l yX11_setFuse (Cond.code yX11_setFuse cX11_setFuse 3 (some .int) :: kAll) rmX11_setFuse D T [.ref (aM 0), .int x1] (gM T aM z) (some (.int rR)) (gM T aM zR) := by
  refine Ct.of (cc := cX11_setFuse) (maxL := 3) (ret := (some .int)) (by decide +kernel) rfl (Nat.le_of_ble_eq_true rfl) ?_
  intro pr en st mi ag bl me co A ls F hr hlk hnm G hl
  have hl : lv_has ls 3 [(0, .ref (aM 0)), (1, .int x1)] := hl
  have h := hres
  unfold qX11_setFuse at h
  refine lv_aload_n F.1 F.2.1 dX11_setFuse_0 rfl (lv_at hl 0 rfl) ?_
  refine lv_iconst (v := 0) F.1 F.2.1 dX11_setFuse_1 (by decide) ?_
  obtain ⟨z_1, e9, h⟩ := op_st h
  refine k_put F G 0 rfl (N := 35) (Tt := TX11) rfl kf11 tyX11_ok nmX11 0 (by decide) kl804 rfl (v := .int 0) rfl rfl (Nat.le_of_ble_eq_true rfl) dX11_setFuse_2 (Wn := (gM T aM z_1)) (by subst e9; rfl) (fun H locs G => ?_)
  clear e9
  refine lv_aload_n F.1 F.2.1 dX11_setFuse_5 rfl (lv_at hl 0 rfl) ?_
  refine lv_iload_n F.1 F.2.1 dX11_setFuse_6 rfl (lv_at hl 1 rfl) ?_
  refine lv_i2l (v := x1.toInt64) F.1 F.2.1 dX11_setFuse_7 rfl ?_
  refine lv_lconst (v := 1) F.1 F.2.1 dX11_setFuse_8 (by decide) ?_
  refine lv_ldc2 (v := 9999) F.1 F.2.1 F.2.2.2.1 (F.2.2.2.2 _ kl1025) dX11_setFuse_9 ?_
  obtain ⟨r_2, hc, h⟩ := op_b h
  refine k_callS (rv := (some (.int r_2))) (Wc := ([] : va_W)) (W2 := ([] : va_W)) (Wn := (gM T aM z_1)) (As := [.long x1.toInt64, .long 1, .long 9999]) (rest := [.ref (aM 0)]) F G (mX11_isIn l D T x1.toInt64 1 9999 hc) (va_cwS 3 F.2.2.2.2 (kg_c kl813 (kg_c kl814 (kg_c kl788 (kg_c kl805 kg_a)))) rfl rfl rfl (by decide +kernel) ⟨Nat.le_of_ble_eq_true rfl, Nat.le_of_ble_eq_true rfl⟩) (kCut_0 G) rfl hl.1 rfl (Nat.le_of_ble_eq_true rfl) dX11_setFuse_12 ⟨Nat.le_of_ble_eq_true rfl, Nat.le_of_ble_eq_true rfl⟩ (cN := 0) (sN := 0) ⟨rfl, rfl⟩ (fun H locs G => ?_)
  refine lv_iconst (v := 1) F.1 F.2.1 dX11_setFuse_15 (by decide) ?_
  obtain ⟨r_3, z_4, hc, h⟩ := op_b2 h
  refine k_callV (rv := (some (.int r_3))) (Wc := (gM T aM z_1)) (W2 := (gM T aM z_4)) (Wn := (gM T aM z_4)) (As := [.int r_2, .int 1]) (rest := []) F G (mX11_may l D T aM z_1 r_2 1 hc) (cwV 2 F.2.2.2.2 (kg_c kl809 (kg_c kl810 (kg_c kl811 (kg_c kl788 (kg_c kl806 kg_a))))) rfl rfl rfl (by decide +kernel) ⟨Nat.le_of_ble_eq_true rfl, Nat.le_of_ble_eq_true rfl⟩) 0 rfl (q := (RX11, TX11, 35)) rfl rfl (kCut_F G) rfl hl.1 rfl (Nat.le_of_ble_eq_true rfl) dX11_setFuse_16 ⟨Nat.le_of_ble_eq_true rfl, Nat.le_of_ble_eq_true rfl⟩ (cN := 0) (sN := 0) ⟨rfl, rfl⟩ (fun H locs G => ?_)
  refine lv_if_ne (tgt := 24) F.1 F.2.1 dX11_setFuse_19 (by decide) (fun c => ?_) (fun c => ?_)
  · have h := op_f h c
    refine lv_aload_n F.1 F.2.1 dX11_setFuse_24 rfl (lv_at hl 0 rfl) ?_
    obtain ⟨z_5, hc, h⟩ := op_b h
    refine k_callV (rv := none) (Wc := (gM T aM z_4)) (W2 := (gM T aM z_5)) (Wn := (gM T aM z_5)) (As := []) (rest := []) F G (mX11_keeps l D T aM z_4 hc) (cwV 0 F.2.2.2.2 (kg_c kl1033 (kg_c kl1034 (kg_c kl1035 (kg_c kl788 (kg_c kl1030 kg_a))))) rfl rfl rfl (by decide +kernel) ⟨Nat.le_of_ble_eq_true rfl, Nat.le_of_ble_eq_true rfl⟩) 0 rfl (q := (RX11, TX11, 35)) rfl rfl (kCut_F G) rfl hl.1 rfl (Nat.le_of_ble_eq_true rfl) dX11_setFuse_25 ⟨Nat.le_of_ble_eq_true rfl, Nat.le_of_ble_eq_true rfl⟩ (cN := 0) (sN := 0) ⟨rfl, rfl⟩ (fun H locs G => ?_)
    refine lv_aload_n F.1 F.2.1 dX11_setFuse_28 rfl (lv_at hl 0 rfl) ?_
    refine k_get F G 0 rfl (N := 35) (Tt := TX11) rfl kf11 10 (by decide) kl783 (v := .ref (aM 6)) rfl dX11_setFuse_29 ?_
    refine lv_bipush (v := 6) F.1 F.2.1 dX11_setFuse_32 (by decide) ?_
    refine k_ialdN F G 6 rfl (kin (by decide +kernel)) 6 (by decide +kernel) dX11_setFuse_34 ?_
    refine lv_istore_n (lv' := [(2, .int ((z_5 10) 6)), (0, .ref (aM 0)), (1, .int x1)]) F.1 F.2.1 dX11_setFuse_35 rfl hl (by decide) rfl (fun ls hl => ?_)
    refine lv_aload_n F.1 F.2.1 dX11_setFuse_36 rfl (lv_at hl 1 rfl) ?_
    refine k_get F G 0 rfl (N := 35) (Tt := TX11) rfl kf11 10 (by decide) kl783 (v := .ref (aM 6)) rfl dX11_setFuse_37 ?_
    refine lv_bipush (v := 6) F.1 F.2.1 dX11_setFuse_40 (by decide) ?_
    refine lv_iload_n F.1 F.2.1 dX11_setFuse_42 rfl (lv_at hl 2 rfl) ?_
    obtain ⟨z_6, e9, h⟩ := op_st h
    refine k_iastN F G 6 rfl (kin (by decide +kernel)) 6 (by decide +kernel) dX11_setFuse_43 (Wn := (gM T aM z_6)) (by subst e9; rfl) (fun H locs G => ?_)
    clear e9
    refine lv_iload_n F.1 F.2.1 dX11_setFuse_44 rfl (lv_at hl 0 rfl) ?_
    obtain ⟨rfl, rfl⟩ := op_2 h
    exact k_iret F hr hlk G dX11_setFuse_45
  · have h := op_t h c
    refine lv_iconst (v := 0) F.1 F.2.1 dX11_setFuse_22 (by decide) ?_
    obtain ⟨rfl, rfl⟩ := op_2 h
    exact k_iret F hr hlk G dX11_setFuse_23
abbrev rmX11_setPriority : Room := ({ frames := 2, cells := 0, slots := 0, locals := 46 } : Room)
noncomputable def qX11_setPriority (z : Nat → Nat → Int32) (x1 : Int32) (x2 : Int32) : Option (Int32 × (Nat → Nat → Int32)) :=
  (bs (va_up z 0 (fun _ => 0)) fun z_1 => bd (qX11_isOutlet z_1 x1) fun r_2 => bd2 (qX11_may z_1 r_2 1) fun r_3 z_4 => if r_3 = 0 then some (0, z_4) else bd (qX11_isIn x2.toInt64 0 9) fun r_5 => bd2 (qX11_may z_4 r_5 2) fun r_6 z_7 => if r_6 = 0 then some (0, z_7) else bd (qX11_keeps z_7) fun z_8 => bd (qX11_at x1 0) fun r_9 => gd (vp_in r_9 411) (bd (qX11_at x1 0) fun r_10 => gd (vp_in r_10 411) (bs (va_up z_8 10 (upd (z_8 10) r_10.toNatClampNeg x2)) fun z_11 => some (((z_8 10) r_9.toNatClampNeg), z_11))))

set_option maxHeartbeats 4000000 in
set_option maxRecDepth 100000 in
theorem mX11_setPriority (l : Launch) (D : va_G) (T : Nat → ClassId) (aM : Nat → Nat) (z : Nat → Nat → Int32) (x1 : Int32) (x2 : Int32) {rR : Int32} {zR : Nat → Nat → Int32} (hres : qX11_setPriority z x1 x2 = some (rR, zR)) : Ct l yX11_setPriority (Cond.code yX11_setPriority cX11_setPriority 4 (some .int) :: kAll) rmX11_setPriority D T [.ref (aM 0), .int x1, .int x2] (gM T aM z) (some (.int rR)) (gM T aM zR) := by
  refine Ct.of (cc := cX11_setPriority) (maxL := 4) (ret := (some .int)) (by decide +kernel) rfl (Nat.le_of_ble_eq_true rfl) ?_
  intro pr en st mi ag bl me co A ls F hr hlk hnm G hl
  have hl : lv_has ls 4 [(0, .ref (aM 0)), (1, .int x1), (2, .int x2)] := hl
  have h := hres
  unfold qX11_setPriority at h
  refine lv_aload_n F.1 F.2.1 dX11_setPriority_0 rfl (lv_at hl 0 rfl) ?_
  refine lv_iconst (v := 0) F.1 F.2.1 dX11_setPriority_1 (by decide) ?_
  obtain ⟨z_1, e9, h⟩ := op_st h
  refine k_put F G 0 rfl (N := 35) (Tt := TX11) rfl kf11 tyX11_ok nmX11 0 (by decide) kl804 rfl (v := .int 0) rfl rfl (Nat.le_of_ble_eq_true rfl) dX11_setPriority_2 (Wn := (gM T aM z_1)) (by subst e9; rfl) (fun H locs G => ?_)
  clear e9
  refine lv_aload_n F.1 F.2.1 dX11_setPriority_5 rfl (lv_at hl 0 rfl) ?_
  refine lv_aload_n F.1 F.2.1 dX11_setPriority_6 rfl (lv_at hl 0 rfl) ?_
  refine lv_iload_n F.1 F.2.1 dX11_setPriority_7 rfl (lv_at hl 1 rfl) ?_
  obtain ⟨r_2, hc, h⟩ := op_b h
  refine k_callV (rv := (some (.int r_2))) (Wc := (gM T aM z_1)) (W2 := (gM T aM z_1)) (Wn := (gM T aM z_1)) (As := [.int x1]) (rest := [.ref (aM 0)]) F G (mX11_isOutlet l D T aM z_1 x1 hc) (cwV 1 F.2.2.2.2 (kg_c kl989 (kg_c kl990 (kg_c kl991 (kg_c kl788 (kg_c kl984 kg_a))))) rfl rfl rfl (by decide +kernel) ⟨Nat.le_of_ble_eq_true rfl, Nat.le_of_ble_eq_true rfl⟩) 0 rfl (q := (RX11, TX11, 35)) rfl rfl (kCut_F G) rfl hl.1 rfl (Nat.le_of_ble_eq_true rfl) dX11_setPriority_8 ⟨Nat.le_of_ble_eq_true rfl, Nat.le_of_ble_eq_true rfl⟩ (cN := 0) (sN := 0) ⟨rfl, rfl⟩ (fun H locs G => ?_)
  refine lv_iconst (v := 1) F.1 F.2.1 dX11_setPriority_11 (by decide) ?_
  obtain ⟨r_3, z_4, hc, h⟩ := op_b2 h
  refine k_callV (rv := (some (.int r_3))) (Wc := (gM T aM z_1)) (W2 := (gM T aM z_4)) (Wn := (gM T aM z_4)) (As := [.int r_2, .int 1]) (rest := []) F G (mX11_may l D T aM z_1 r_2 1 hc) (cwV 2 F.2.2.2.2 (kg_c kl809 (kg_c kl810 (kg_c kl811 (kg_c kl788 (kg_c kl806 kg_a))))) rfl rfl rfl (by decide +kernel) ⟨Nat.le_of_ble_eq_true rfl, Nat.le_of_ble_eq_true rfl⟩) 0 rfl (q := (RX11, TX11, 35)) rfl rfl (kCut_F G) rfl hl.1 rfl (Nat.le_of_ble_eq_true rfl) dX11_setPriority_12 ⟨Nat.le_of_ble_eq_true rfl, Nat.le_of_ble_eq_true rfl⟩ (cN := 0) (sN := 0) ⟨rfl, rfl⟩ (fun H locs G => ?_)
  refine lv_if_eq (tgt := 35) F.1 F.2.1 dX11_setPriority_15 (by decide) (fun c => ?_) (fun c => ?_)
  · have h := op_t h c
    refine lv_iconst (v := 0) F.1 F.2.1 dX11_setPriority_35 (by decide) ?_
    obtain ⟨rfl, rfl⟩ := op_2 h
    exact k_iret F hr hlk G dX11_setPriority_36
  · have h := op_f h c
    refine lv_aload_n F.1 F.2.1 dX11_setPriority_18 rfl (lv_at hl 0 rfl) ?_
    refine lv_iload_n F.1 F.2.1 dX11_setPriority_19 rfl (lv_at hl 2 rfl) ?_
    refine lv_i2l (v := x2.toInt64) F.1 F.2.1 dX11_setPriority_20 rfl ?_
    refine lv_lconst (v := 0) F.1 F.2.1 dX11_setPriority_21 (by decide) ?_
    refine lv_ldc2 (v := 9) F.1 F.2.1 F.2.2.2.1 (F.2.2.2.2 _ kl988) dX11_setPriority_22 ?_
    obtain ⟨r_5, hc, h⟩ := op_b h
    refine k_callS (rv := (some (.int r_5))) (Wc := ([] : va_W)) (W2 := ([] : va_W)) (Wn := (gM T aM z_4)) (As := [.long x2.toInt64, .long 0, .long 9]) (rest := [.ref (aM 0)]) F G (mX11_isIn l D T x2.toInt64 0 9 hc) (va_cwS 3 F.2.2.2.2 (kg_c kl813 (kg_c kl814 (kg_c kl788 (kg_c kl805 kg_a)))) rfl rfl rfl (by decide +kernel) ⟨Nat.le_of_ble_eq_true rfl, Nat.le_of_ble_eq_true rfl⟩) (kCut_0 G) rfl hl.1 rfl (Nat.le_of_ble_eq_true rfl) dX11_setPriority_25 ⟨Nat.le_of_ble_eq_true rfl, Nat.le_of_ble_eq_true rfl⟩ (cN := 0) (sN := 0) ⟨rfl, rfl⟩ (fun H locs G => ?_)
    refine lv_iconst (v := 2) F.1 F.2.1 dX11_setPriority_28 (by decide) ?_
    obtain ⟨r_6, z_7, hc, h⟩ := op_b2 h
    refine k_callV (rv := (some (.int r_6))) (Wc := (gM T aM z_4)) (W2 := (gM T aM z_7)) (Wn := (gM T aM z_7)) (As := [.int r_5, .int 2]) (rest := []) F G (mX11_may l D T aM z_4 r_5 2 hc) (cwV 2 F.2.2.2.2 (kg_c kl809 (kg_c kl810 (kg_c kl811 (kg_c kl788 (kg_c kl806 kg_a))))) rfl rfl rfl (by decide +kernel) ⟨Nat.le_of_ble_eq_true rfl, Nat.le_of_ble_eq_true rfl⟩) 0 rfl (q := (RX11, TX11, 35)) rfl rfl (kCut_F G) rfl hl.1 rfl (Nat.le_of_ble_eq_true rfl) dX11_setPriority_29 ⟨Nat.le_of_ble_eq_true rfl, Nat.le_of_ble_eq_true rfl⟩ (cN := 0) (sN := 0) ⟨rfl, rfl⟩ (fun H locs G => ?_)
    refine lv_if_ne (tgt := 37) F.1 F.2.1 dX11_setPriority_32 (by decide) (fun c => ?_) (fun c => ?_)
    · have h := op_f h c
      refine lv_aload_n F.1 F.2.1 dX11_setPriority_37 rfl (lv_at hl 0 rfl) ?_
      obtain ⟨z_8, hc, h⟩ := op_b h
      refine k_callV (rv := none) (Wc := (gM T aM z_7)) (W2 := (gM T aM z_8)) (Wn := (gM T aM z_8)) (As := []) (rest := []) F G (mX11_keeps l D T aM z_7 hc) (cwV 0 F.2.2.2.2 (kg_c kl1033 (kg_c kl1034 (kg_c kl1035 (kg_c kl788 (kg_c kl1030 kg_a))))) rfl rfl rfl (by decide +kernel) ⟨Nat.le_of_ble_eq_true rfl, Nat.le_of_ble_eq_true rfl⟩) 0 rfl (q := (RX11, TX11, 35)) rfl rfl (kCut_F G) rfl hl.1 rfl (Nat.le_of_ble_eq_true rfl) dX11_setPriority_38 ⟨Nat.le_of_ble_eq_true rfl, Nat.le_of_ble_eq_true rfl⟩ (cN := 0) (sN := 0) ⟨rfl, rfl⟩ (fun H locs G => ?_)
      refine lv_aload_n F.1 F.2.1 dX11_setPriority_41 rfl (lv_at hl 0 rfl) ?_
      refine k_get F G 0 rfl (N := 35) (Tt := TX11) rfl kf11 10 (by decide) kl783 (v := .ref (aM 6)) rfl dX11_setPriority_42 ?_
      refine lv_iload_n F.1 F.2.1 dX11_setPriority_45 rfl (lv_at hl 1 rfl) ?_
      refine lv_iconst (v := 0) F.1 F.2.1 dX11_setPriority_46 (by decide) ?_
      obtain ⟨r_9, hc, h⟩ := op_b h
      refine k_callS (rv := (some (.int r_9))) (Wc := ([] : va_W)) (W2 := ([] : va_W)) (Wn := (gM T aM z_8)) (As := [.int x1, .int 0]) (rest := [.ref (aM 6)]) F G (mX11_at l D T x1 0 hc) (va_cwS 2 F.2.2.2.2 (kg_c kl786 (kg_c kl787 (kg_c kl788 (kg_c kl767 kg_a)))) rfl rfl rfl (by decide +kernel) ⟨Nat.le_of_ble_eq_true rfl, Nat.le_of_ble_eq_true rfl⟩) (kCut_0 G) rfl hl.1 rfl (Nat.le_of_ble_eq_true rfl) dX11_setPriority_47 ⟨Nat.le_of_ble_eq_true rfl, Nat.le_of_ble_eq_true rfl⟩ (cN := 0) (sN := 0) ⟨rfl, rfl⟩ (fun H locs G => ?_)
      obtain ⟨c, h⟩ := op_g h
      refine k_iald F G 6 rfl c dX11_setPriority_50 ?_
      refine lv_istore_n (lv' := [(3, .int ((z_8 10) r_9.toNatClampNeg)), (0, .ref (aM 0)), (1, .int x1), (2, .int x2)]) F.1 F.2.1 dX11_setPriority_51 rfl hl (by decide) rfl (fun ls hl => ?_)
      refine lv_aload_n F.1 F.2.1 dX11_setPriority_52 rfl (lv_at hl 1 rfl) ?_
      refine k_get F G 0 rfl (N := 35) (Tt := TX11) rfl kf11 10 (by decide) kl783 (v := .ref (aM 6)) rfl dX11_setPriority_53 ?_
      refine lv_iload_n F.1 F.2.1 dX11_setPriority_56 rfl (lv_at hl 2 rfl) ?_
      refine lv_iconst (v := 0) F.1 F.2.1 dX11_setPriority_57 (by decide) ?_
      obtain ⟨r_10, hc, h⟩ := op_b h
      refine k_callS (rv := (some (.int r_10))) (Wc := ([] : va_W)) (W2 := ([] : va_W)) (Wn := (gM T aM z_8)) (As := [.int x1, .int 0]) (rest := [.ref (aM 6)]) F G (mX11_at l D T x1 0 hc) (va_cwS 2 F.2.2.2.2 (kg_c kl786 (kg_c kl787 (kg_c kl788 (kg_c kl767 kg_a)))) rfl rfl rfl (by decide +kernel) ⟨Nat.le_of_ble_eq_true rfl, Nat.le_of_ble_eq_true rfl⟩) (kCut_0 G) rfl hl.1 rfl (Nat.le_of_ble_eq_true rfl) dX11_setPriority_58 ⟨Nat.le_of_ble_eq_true rfl, Nat.le_of_ble_eq_true rfl⟩ (cN := 0) (sN := 0) ⟨rfl, rfl⟩ (fun H locs G => ?_)
      refine lv_iload_n F.1 F.2.1 dX11_setPriority_61 rfl (lv_at hl 3 rfl) ?_
      obtain ⟨c, h⟩ := op_g h
      obtain ⟨z_11, e9, h⟩ := op_st h
      refine k_iast F G 6 rfl c dX11_setPriority_62 (Wn := (gM T aM z_11)) (by subst e9; rfl) (fun H locs G => ?_)
      clear e9
      refine lv_iload_n F.1 F.2.1 dX11_setPriority_63 rfl (lv_at hl 0 rfl) ?_
      obtain ⟨rfl, rfl⟩ := op_2 h
      exact k_iret F hr hlk G dX11_setPriority_64
    · have h := op_t h c
      refine lv_iconst (v := 0) F.1 F.2.1 dX11_setPriority_35 (by decide) ?_
      obtain ⟨rfl, rfl⟩ := op_2 h
      exact k_iret F hr hlk G dX11_setPriority_36
abbrev rmX11_forget : Room := ({ frames := 2, cells := 0, slots := 0, locals := 43 } : Room)
noncomputable def qX11_forget (z : Nat → Nat → Int32) : Option (Int32 × (Nat → Nat → Int32)) :=
  (bs (va_up z 0 (fun _ => 0)) fun z_1 => bd (qX11_keeps z_1) fun z_2 => bd2 (qX11_forgets (z_2 10)) fun r_3 rw_4 => (bs (va_up z_2 10 rw_4) fun z_5 => some (r_3, z_5)))

set_option maxHeartbeats 4000000 in
set_option maxRecDepth 100000 in
theorem mX11_forget (l : Launch) (D : va_G) (T : Nat → ClassId) (aM : Nat → Nat) (z : Nat → Nat → Int32) {rR : Int32} {zR : Nat → Nat → Int32} (hres : qX11_forget z = some (rR, zR)) : Ct l yX11_forget (Cond.code yX11_forget cX11_forget 1 (some .int) :: kAll) rmX11_forget D T [.ref (aM 0)] (gM T aM z) (some (.int rR)) (gM T aM zR) := by
  refine Ct.of (cc := cX11_forget) (maxL := 1) (ret := (some .int)) (by decide +kernel) rfl (Nat.le_of_ble_eq_true rfl) ?_
  intro pr en st mi ag bl me co A ls F hr hlk hnm G hl
  have hl : lv_has ls 1 [(0, .ref (aM 0))] := hl
  have h := hres
  unfold qX11_forget at h
  refine lv_aload_n F.1 F.2.1 dX11_forget_0 rfl (lv_at hl 0 rfl) ?_
  refine lv_iconst (v := 0) F.1 F.2.1 dX11_forget_1 (by decide) ?_
  obtain ⟨z_1, e9, h⟩ := op_st h
  refine k_put F G 0 rfl (N := 35) (Tt := TX11) rfl kf11 tyX11_ok nmX11 0 (by decide) kl804 rfl (v := .int 0) rfl rfl (Nat.le_of_ble_eq_true rfl) dX11_forget_2 (Wn := (gM T aM z_1)) (by subst e9; rfl) (fun H locs G => ?_)
  clear e9
  refine lv_aload_n F.1 F.2.1 dX11_forget_5 rfl (lv_at hl 0 rfl) ?_
  obtain ⟨z_2, hc, h⟩ := op_b h
  refine k_callV (rv := none) (Wc := (gM T aM z_1)) (W2 := (gM T aM z_2)) (Wn := (gM T aM z_2)) (As := []) (rest := []) F G (mX11_keeps l D T aM z_1 hc) (cwV 0 F.2.2.2.2 (kg_c kl1033 (kg_c kl1034 (kg_c kl1035 (kg_c kl788 (kg_c kl1030 kg_a))))) rfl rfl rfl (by decide +kernel) ⟨Nat.le_of_ble_eq_true rfl, Nat.le_of_ble_eq_true rfl⟩) 0 rfl (q := (RX11, TX11, 35)) rfl rfl (kCut_F G) rfl hl.1 rfl (Nat.le_of_ble_eq_true rfl) dX11_forget_6 ⟨Nat.le_of_ble_eq_true rfl, Nat.le_of_ble_eq_true rfl⟩ (cN := 0) (sN := 0) ⟨rfl, rfl⟩ (fun H locs G => ?_)
  refine lv_aload_n F.1 F.2.1 dX11_forget_9 rfl (lv_at hl 0 rfl) ?_
  refine k_get F G 0 rfl (N := 35) (Tt := TX11) rfl kf11 10 (by decide) kl783 (v := .ref (aM 6)) rfl dX11_forget_10 ?_
  obtain ⟨r_3, rw_4, hc, h⟩ := op_b2 h
  obtain ⟨z_5, e9, h⟩ := op_st h
  refine k_callS (rv := (some (.int r_3))) (Wc := (gFR T (aM 6) (z_2 10))) (W2 := (gFR T (aM 6) rw_4)) (Wn := (gM T aM z_5)) (As := [.ref (aM 6)]) (rest := []) F G (mX11_forgets l D T (aM 6) (z_2 10) hc) (va_cwS 1 F.2.2.2.2 (kg_c kl1020 (kg_c kl1021 (kg_c kl788 (kg_c kl1018 kg_a)))) rfl rfl rfl (by decide +kernel) ⟨Nat.le_of_ble_eq_true rfl, Nat.le_of_ble_eq_true rfl⟩) (kCut_1 G 6 rfl (by subst e9; rfl)) rfl hl.1 rfl (Nat.le_of_ble_eq_true rfl) dX11_forget_13 ⟨Nat.le_of_ble_eq_true rfl, Nat.le_of_ble_eq_true rfl⟩ (cN := 0) (sN := 0) ⟨rfl, rfl⟩ (fun H locs G => ?_)
  clear e9
  obtain ⟨rfl, rfl⟩ := op_2 h
  exact k_iret F hr hlk G dX11_forget_16
abbrev rmX11_undo : Room := ({ frames := 1, cells := 0, slots := 0, locals := 22 } : Room)
noncomputable def qX11_undo_L39 (K : (Nat → Nat → Int32) → Option (Int32 × (Nat → Nat → Int32))) : Nat → Int32 → (Nat → Nat → Int32) → Option (Int32 × (Nat → Nat → Int32))
  | 0, _, _ => none
  | n + 1, x1_6, z_7 =>
    if 411 ≤ x1_6 then (K z_7) else gd (vp_in ((411 * (z_7 15 0)) + x1_6) 3288) (gd (vp_in x1_6 411) (bs (va_up z_7 10 (upd (z_7 10) x1_6.toNatClampNeg ((z_7 12) ((411 * (z_7 15 0)) + x1_6).toNatClampNeg))) fun z_9 => (qX11_undo_L39 K n (x1_6 + 1) z_9)))

noncomputable def qX11_undo (z : Nat → Nat → Int32) : Option (Int32 × (Nat → Nat → Int32)) :=
  (bs (va_up z 0 (fun _ => 0)) fun z_1 => (jn (fun (y_2 : Int32) => bd2 (qX11_may z_1 y_2 1) fun r_3 z_4 => if r_3 = 0 then some (0, z_4) else (bs (va_up z_4 15 (fun _ => ((z_4 15 0) - 1))) fun z_5 => (qX11_undo_L39   (fun (z_8 : Nat → Nat → Int32) => some ((z_8 15 0), z_8)) fu 0 z_5))) fun j18 => if (z_1 15 0) ≤ 0 then (j18 0) else (j18 1)))

set_option maxHeartbeats 4000000 in
set_option maxRecDepth 100000 in
theorem mX11_undo (l : Launch) (D : va_G) (T : Nat → ClassId) (aM : Nat → Nat) (z : Nat → Nat → Int32) {rR : Int32} {zR : Nat → Nat → Int32} (hres : qX11_undo z = some (rR, zR)) : Ct l yX11_undo (Cond.code yX11_undo cX11_undo 2 (some .int) :: kAll) rmX11_undo D T [.ref (aM 0)] (gM T aM z) (some (.int rR)) (gM T aM zR) := by
  refine Ct.of (cc := cX11_undo) (maxL := 2) (ret := (some .int)) (by decide +kernel) rfl (Nat.le_of_ble_eq_true rfl) ?_
  intro pr en st mi ag bl me co A ls F hr hlk hnm G hl
  have hl : lv_has ls 2 [(0, .ref (aM 0))] := hl
  have h := hres
  unfold qX11_undo at h
  refine lv_aload_n F.1 F.2.1 dX11_undo_0 rfl (lv_at hl 0 rfl) ?_
  refine lv_iconst (v := 0) F.1 F.2.1 dX11_undo_1 (by decide) ?_
  obtain ⟨z_1, e9, h⟩ := op_st h
  refine k_put F G 0 rfl (N := 35) (Tt := TX11) rfl kf11 tyX11_ok nmX11 0 (by decide) kl804 rfl (v := .int 0) rfl rfl (Nat.le_of_ble_eq_true rfl) dX11_undo_2 (Wn := (gM T aM z_1)) (by subst e9; rfl) (fun H locs G => ?_)
  clear e9
  refine lv_aload_n F.1 F.2.1 dX11_undo_5 rfl (lv_at hl 0 rfl) ?_
  refine lv_aload_n F.1 F.2.1 dX11_undo_6 rfl (lv_at hl 0 rfl) ?_
  refine k_get F G 0 rfl (N := 35) (Tt := TX11) rfl kf11 15 (by decide) kl784 (v := .int (z_1 15 0)) rfl dX11_undo_7 ?_
  obtain ⟨j18, hj18, h⟩ := op_j h
  have J18 : ∀ (y_2 : Int32) (H : Heap) (locs : List Loc) (ls : Array Slot), j18 y_2 = some (rR, zR) → Rg D T A st (gM T aM z_1) H locs → lv_has ls 2 [(0, .ref (aM 0))] → W pr l en rmX11_undo st mi ag bl me co H locs 0 0 (MQ bl (kQ (some (.int rR)) D (gM T aM zR) A) ag st rmX11_undo.cells rmX11_undo.slots A) (F0 mi 18 ls [.int y_2, .ref (aM 0)]) := by
    intro y_2 H locs ls h G hl
    rw [hj18] at h
    refine lv_iconst (v := 1) F.1 F.2.1 dX11_undo_18 (by decide) ?_
    obtain ⟨r_3, z_4, hc, h⟩ := op_b2 h
    refine k_callV (rv := (some (.int r_3))) (Wc := (gM T aM z_1)) (W2 := (gM T aM z_4)) (Wn := (gM T aM z_4)) (As := [.int y_2, .int 1]) (rest := []) F G (mX11_may l D T aM z_1 y_2 1 hc) (cwV 2 F.2.2.2.2 (kg_c kl809 (kg_c kl810 (kg_c kl811 (kg_c kl788 (kg_c kl806 kg_a))))) rfl rfl rfl (by decide +kernel) ⟨Nat.le_of_ble_eq_true rfl, Nat.le_of_ble_eq_true rfl⟩) 0 rfl (q := (RX11, TX11, 35)) rfl rfl (kCut_F G) rfl hl.1 rfl (Nat.le_of_ble_eq_true rfl) dX11_undo_19 ⟨Nat.le_of_ble_eq_true rfl, Nat.le_of_ble_eq_true rfl⟩ (cN := 0) (sN := 0) ⟨rfl, rfl⟩ (fun H locs G => ?_)
    refine lv_if_ne (tgt := 27) F.1 F.2.1 dX11_undo_22 (by decide) (fun c => ?_) (fun c => ?_)
    · have h := op_f h c
      refine lv_aload_n F.1 F.2.1 dX11_undo_27 rfl (lv_at hl 0 rfl) ?_
      refine lv_dup F.1 F.2.1 dX11_undo_28 rfl ?_
      refine k_get F G 0 rfl (N := 35) (Tt := TX11) rfl kf11 15 (by decide) kl784 (v := .int (z_4 15 0)) rfl dX11_undo_29 ?_
      refine lv_iconst (v := 1) F.1 F.2.1 dX11_undo_32 (by decide) ?_
      refine lv_isub F.1 F.2.1 dX11_undo_33 ?_
      obtain ⟨z_5, e9, h⟩ := op_st h
      refine k_put F G 0 rfl (N := 35) (Tt := TX11) rfl kf11 tyX11_ok nmX11 15 (by decide) kl784 rfl (v := .int ((z_4 15 0) - 1)) rfl rfl (Nat.le_of_ble_eq_true rfl) dX11_undo_34 (Wn := (gM T aM z_5)) (by subst e9; rfl) (fun H locs G => ?_)
      clear e9
      refine lv_iconst (v := 0) F.1 F.2.1 dX11_undo_37 (by decide) ?_
      refine lv_istore_n (lv' := [(1, .int 0), (0, .ref (aM 0))]) F.1 F.2.1 dX11_undo_38 rfl hl (by decide) rfl (fun ls hl => ?_)
      have L39 : ∀ (K : (Nat → Nat → Int32) → Option (Int32 × (Nat → Nat → Int32))) (hK : ∀ (z_8 : Nat → Nat → Int32) (H : Heap) (locs : List Loc) (ls : Array Slot), K z_8 = some (rR, zR) → Rg D T A st (gM T aM z_8) H locs → lv_has ls 2 [(0, .ref (aM 0))] → W pr l en rmX11_undo st mi ag bl me co H locs 0 0 (MQ bl (kQ (some (.int rR)) D (gM T aM zR) A) ag st rmX11_undo.cells rmX11_undo.slots A) (F0 mi 73 ls [])) (n : Nat) (x1_6 : Int32) (z_7 : Nat → Nat → Int32) (H : Heap) (locs : List Loc) (ls : Array Slot), qX11_undo_L39 K n x1_6 z_7 = some (rR, zR) → Rg D T A st (gM T aM z_7) H locs → lv_has ls 2 [(0, .ref (aM 0)), (1, .int x1_6)] → W pr l en rmX11_undo st mi ag bl me co H locs 0 0 (MQ bl (kQ (some (.int rR)) D (gM T aM zR) A) ag st rmX11_undo.cells rmX11_undo.slots A) (F0 mi 39 ls []) := by
        intro K hK n
        induction n with
        | zero => intro x1_6 z_7 H locs ls h; exact op_n h
        | succ n ih =>
          intro x1_6 z_7 H locs ls h G hl
          rw [qX11_undo_L39] at h
          refine lv_iload_n F.1 F.2.1 dX11_undo_39 rfl (lv_at hl 1 rfl) ?_
          refine lv_sipush (v := 411) F.1 F.2.1 dX11_undo_40 (by decide) ?_
          refine lv_icmp_ge (tgt := 73) F.1 F.2.1 dX11_undo_43 (by decide) (fun c => ?_) (fun c => ?_)
          · have h := op_t h c
            exact hK z_7 _ _ _ h G (lv_sub hl [0] rfl)
          · have h := op_f h c
            refine lv_aload_n F.1 F.2.1 dX11_undo_46 rfl (lv_at hl 0 rfl) ?_
            refine k_get F G 0 rfl (N := 35) (Tt := TX11) rfl kf11 10 (by decide) kl783 (v := .ref (aM 6)) rfl dX11_undo_47 ?_
            refine lv_iload_n F.1 F.2.1 dX11_undo_50 rfl (lv_at hl 1 rfl) ?_
            refine lv_aload_n F.1 F.2.1 dX11_undo_51 rfl (lv_at hl 0 rfl) ?_
            refine k_get F G 0 rfl (N := 35) (Tt := TX11) rfl kf11 12 (by decide) kl792 (v := .ref (aM 8)) rfl dX11_undo_52 ?_
            refine lv_sipush (v := 411) F.1 F.2.1 dX11_undo_55 (by decide) ?_
            refine lv_aload_n F.1 F.2.1 dX11_undo_58 rfl (lv_at hl 0 rfl) ?_
            refine k_get F G 0 rfl (N := 35) (Tt := TX11) rfl kf11 15 (by decide) kl784 (v := .int (z_7 15 0)) rfl dX11_undo_59 ?_
            refine lv_imul F.1 F.2.1 dX11_undo_62 ?_
            refine lv_iload_n F.1 F.2.1 dX11_undo_63 rfl (lv_at hl 1 rfl) ?_
            refine lv_iadd F.1 F.2.1 dX11_undo_64 ?_
            obtain ⟨c, h⟩ := op_g h
            refine k_iald F G 8 rfl c dX11_undo_65 ?_
            obtain ⟨c, h⟩ := op_g h
            obtain ⟨z_9, e9, h⟩ := op_st h
            refine k_iast F G 6 rfl c dX11_undo_66 (Wn := (gM T aM z_9)) (by subst e9; rfl) (fun H locs G => ?_)
            clear e9
            refine lv_iinc (v := (x1_6 + 1)) (lv' := [(1, .int (x1_6 + 1)), (0, .ref (aM 0))]) F.1 F.2.1 dX11_undo_67 hl (k := 1) rfl rfl (by decide) rfl (fun ls hl => ?_)
            refine lv_goto (tgt := 39) F.1 F.2.1 dX11_undo_70 (by decide) ?_
            exact ih (x1_6 + 1) z_9 _ _ _ h G (lv_sub hl [1, 0] rfl)
      refine L39   _ (fun z_8 H locs ls h G hl => ?_) fu 0 z_5 _ _ _ h G (lv_sub hl [1, 0] rfl)
      clear L39
      refine lv_aload_n F.1 F.2.1 dX11_undo_73 rfl (lv_at hl 0 rfl) ?_
      refine k_get F G 0 rfl (N := 35) (Tt := TX11) rfl kf11 15 (by decide) kl784 (v := .int (z_8 15 0)) rfl dX11_undo_74 ?_
      obtain ⟨rfl, rfl⟩ := op_2 h
      exact k_iret F hr hlk G dX11_undo_77
    · have h := op_t h c
      refine lv_iconst (v := 0) F.1 F.2.1 dX11_undo_25 (by decide) ?_
      obtain ⟨rfl, rfl⟩ := op_2 h
      exact k_iret F hr hlk G dX11_undo_26
  clear hj18
  refine lv_if_le (tgt := 17) F.1 F.2.1 dX11_undo_10 (by decide) (fun c => ?_) (fun c => ?_)
  · have h := op_t h c
    refine lv_iconst (v := 0) F.1 F.2.1 dX11_undo_17 (by decide) ?_
    exact J18 0 _ _ _ h G hl
  · have h := op_f h c
    refine lv_iconst (v := 1) F.1 F.2.1 dX11_undo_13 (by decide) ?_
    refine lv_goto (tgt := 18) F.1 F.2.1 dX11_undo_14 (by decide) ?_
    exact J18 1 _ _ _ h G hl
abbrev rmX11_save : Room := ({ frames := 2, cells := 0, slots := 0, locals := 45 } : Room)
noncomputable def qX11_save_L20 (x1_5 : Int32) (K : (Nat → Nat → Int32) → Option ((Nat → Nat → Int32))) : Nat → Int32 → (Nat → Nat → Int32) → Option ((Nat → Nat → Int32))
  | 0, _, _ => none
  | n + 1, x2_6, z_7 =>
    if 411 ≤ x2_6 then (K z_7) else gd (vp_in x2_6 411) (gd (vp_in ((411 * x1_5) + x2_6) 822) (bs (va_up z_7 13 (upd (z_7 13) ((411 * x1_5) + x2_6).toNatClampNeg ((z_7 10) x2_6.toNatClampNeg))) fun z_9 => (qX11_save_L20 x1_5 K n (x2_6 + 1) z_9)))

noncomputable def qX11_save (z : Nat → Nat → Int32) (x1 : Int32) : Option ((Nat → Nat → Int32)) :=
  (bs (va_up z 0 (fun _ => 0)) fun z_1 => bd (qX11_isSlot x1) fun r_2 => bd2 (qX11_may z_1 r_2 1) fun r_3 z_4 => if r_3 = 0 then some z_4 else (qX11_save_L20  x1 (fun (z_8 : Nat → Nat → Int32) => gd (vp_in x1 2) (bs (va_up z_8 14 (upd (z_8 14) x1.toNatClampNeg (vp_nar .boolean 1))) fun z_10 => some z_10)) fu 0 z_4))

set_option maxHeartbeats 4000000 in
set_option maxRecDepth 100000 in
theorem mX11_save (l : Launch) (D : va_G) (T : Nat → ClassId) (aM : Nat → Nat) (z : Nat → Nat → Int32) (x1 : Int32) {zR : Nat → Nat → Int32} (hres : qX11_save z x1 = some (zR)) : Ct l yX11_save (Cond.code yX11_save cX11_save 3 none :: kAll) rmX11_save D T [.ref (aM 0), .int x1] (gM T aM z) none (gM T aM zR) := by
  refine Ct.of (cc := cX11_save) (maxL := 3) (ret := none) (by decide +kernel) rfl (Nat.le_of_ble_eq_true rfl) ?_
  intro pr en st mi ag bl me co A ls F hr hlk hnm G hl
  have hl : lv_has ls 3 [(0, .ref (aM 0)), (1, .int x1)] := hl
  have h := hres
  unfold qX11_save at h
  refine lv_aload_n F.1 F.2.1 dX11_save_0 rfl (lv_at hl 0 rfl) ?_
  refine lv_iconst (v := 0) F.1 F.2.1 dX11_save_1 (by decide) ?_
  obtain ⟨z_1, e9, h⟩ := op_st h
  refine k_put F G 0 rfl (N := 35) (Tt := TX11) rfl kf11 tyX11_ok nmX11 0 (by decide) kl804 rfl (v := .int 0) rfl rfl (Nat.le_of_ble_eq_true rfl) dX11_save_2 (Wn := (gM T aM z_1)) (by subst e9; rfl) (fun H locs G => ?_)
  clear e9
  refine lv_aload_n F.1 F.2.1 dX11_save_5 rfl (lv_at hl 0 rfl) ?_
  refine lv_iload_n F.1 F.2.1 dX11_save_6 rfl (lv_at hl 1 rfl) ?_
  obtain ⟨r_2, hc, h⟩ := op_b h
  refine k_callS (rv := (some (.int r_2))) (Wc := ([] : va_W)) (W2 := ([] : va_W)) (Wn := (gM T aM z_1)) (As := [.int x1]) (rest := [.ref (aM 0)]) F G (mX11_isSlot l D T x1 hc) (va_cwS 1 F.2.2.2.2 (kg_c kl1045 (kg_c kl1046 (kg_c kl788 (kg_c kl1043 kg_a)))) rfl rfl rfl (by decide +kernel) ⟨Nat.le_of_ble_eq_true rfl, Nat.le_of_ble_eq_true rfl⟩) (kCut_0 G) rfl hl.1 rfl (Nat.le_of_ble_eq_true rfl) dX11_save_7 ⟨Nat.le_of_ble_eq_true rfl, Nat.le_of_ble_eq_true rfl⟩ (cN := 0) (sN := 0) ⟨rfl, rfl⟩ (fun H locs G => ?_)
  refine lv_iconst (v := 1) F.1 F.2.1 dX11_save_10 (by decide) ?_
  obtain ⟨r_3, z_4, hc, h⟩ := op_b2 h
  refine k_callV (rv := (some (.int r_3))) (Wc := (gM T aM z_1)) (W2 := (gM T aM z_4)) (Wn := (gM T aM z_4)) (As := [.int r_2, .int 1]) (rest := []) F G (mX11_may l D T aM z_1 r_2 1 hc) (cwV 2 F.2.2.2.2 (kg_c kl809 (kg_c kl810 (kg_c kl811 (kg_c kl788 (kg_c kl806 kg_a))))) rfl rfl rfl (by decide +kernel) ⟨Nat.le_of_ble_eq_true rfl, Nat.le_of_ble_eq_true rfl⟩) 0 rfl (q := (RX11, TX11, 35)) rfl rfl (kCut_F G) rfl hl.1 rfl (Nat.le_of_ble_eq_true rfl) dX11_save_11 ⟨Nat.le_of_ble_eq_true rfl, Nat.le_of_ble_eq_true rfl⟩ (cN := 0) (sN := 0) ⟨rfl, rfl⟩ (fun H locs G => ?_)
  refine lv_if_ne (tgt := 18) F.1 F.2.1 dX11_save_14 (by decide) (fun c => ?_) (fun c => ?_)
  · have h := op_f h c
    refine lv_iconst (v := 0) F.1 F.2.1 dX11_save_18 (by decide) ?_
    refine lv_istore_n (lv' := [(2, .int 0), (0, .ref (aM 0)), (1, .int x1)]) F.1 F.2.1 dX11_save_19 rfl hl (by decide) rfl (fun ls hl => ?_)
    have L20 : ∀ (x1_5 : Int32) (K : (Nat → Nat → Int32) → Option ((Nat → Nat → Int32))) (hK : ∀ (z_8 : Nat → Nat → Int32) (H : Heap) (locs : List Loc) (ls : Array Slot), K z_8 = some (zR) → Rg D T A st (gM T aM z_8) H locs → lv_has ls 3 [(0, .ref (aM 0)), (1, .int x1_5)] → W pr l en rmX11_save st mi ag bl me co H locs 0 0 (MQ bl (kQ none D (gM T aM zR) A) ag st rmX11_save.cells rmX11_save.slots A) (F0 mi 51 ls [])) (n : Nat) (x2_6 : Int32) (z_7 : Nat → Nat → Int32) (H : Heap) (locs : List Loc) (ls : Array Slot), qX11_save_L20 x1_5 K n x2_6 z_7 = some (zR) → Rg D T A st (gM T aM z_7) H locs → lv_has ls 3 [(0, .ref (aM 0)), (1, .int x1_5), (2, .int x2_6)] → W pr l en rmX11_save st mi ag bl me co H locs 0 0 (MQ bl (kQ none D (gM T aM zR) A) ag st rmX11_save.cells rmX11_save.slots A) (F0 mi 20 ls []) := by
      intro x1_5 K hK n
      induction n with
      | zero => intro x2_6 z_7 H locs ls h; exact op_n h
      | succ n ih =>
        intro x2_6 z_7 H locs ls h G hl
        rw [qX11_save_L20] at h
        refine lv_iload_n F.1 F.2.1 dX11_save_20 rfl (lv_at hl 2 rfl) ?_
        refine lv_sipush (v := 411) F.1 F.2.1 dX11_save_21 (by decide) ?_
        refine lv_icmp_ge (tgt := 51) F.1 F.2.1 dX11_save_24 (by decide) (fun c => ?_) (fun c => ?_)
        · have h := op_t h c
          exact hK z_7 _ _ _ h G (lv_sub hl [0, 1] rfl)
        · have h := op_f h c
          refine lv_aload_n F.1 F.2.1 dX11_save_27 rfl (lv_at hl 0 rfl) ?_
          refine k_get F G 0 rfl (N := 35) (Tt := TX11) rfl kf11 13 (by decide) kl793 (v := .ref (aM 9)) rfl dX11_save_28 ?_
          refine lv_sipush (v := 411) F.1 F.2.1 dX11_save_31 (by decide) ?_
          refine lv_iload_n F.1 F.2.1 dX11_save_34 rfl (lv_at hl 1 rfl) ?_
          refine lv_imul F.1 F.2.1 dX11_save_35 ?_
          refine lv_iload_n F.1 F.2.1 dX11_save_36 rfl (lv_at hl 2 rfl) ?_
          refine lv_iadd F.1 F.2.1 dX11_save_37 ?_
          refine lv_aload_n F.1 F.2.1 dX11_save_38 rfl (lv_at hl 0 rfl) ?_
          refine k_get F G 0 rfl (N := 35) (Tt := TX11) rfl kf11 10 (by decide) kl783 (v := .ref (aM 6)) rfl dX11_save_39 ?_
          refine lv_iload_n F.1 F.2.1 dX11_save_42 rfl (lv_at hl 2 rfl) ?_
          obtain ⟨c, h⟩ := op_g h
          refine k_iald F G 6 rfl c dX11_save_43 ?_
          obtain ⟨c, h⟩ := op_g h
          obtain ⟨z_9, e9, h⟩ := op_st h
          refine k_iast F G 9 rfl c dX11_save_44 (Wn := (gM T aM z_9)) (by subst e9; rfl) (fun H locs G => ?_)
          clear e9
          refine lv_iinc (v := (x2_6 + 1)) (lv' := [(2, .int (x2_6 + 1)), (0, .ref (aM 0)), (1, .int x1_5)]) F.1 F.2.1 dX11_save_45 hl (k := 2) rfl rfl (by decide) rfl (fun ls hl => ?_)
          refine lv_goto (tgt := 20) F.1 F.2.1 dX11_save_48 (by decide) ?_
          exact ih (x2_6 + 1) z_9 _ _ _ h G (lv_sub hl [1, 2, 0] rfl)
    refine L20  x1 _ (fun z_8 H locs ls h G hl => ?_) fu 0 z_4 _ _ _ h G (lv_sub hl [1, 2, 0] rfl)
    clear L20
    refine lv_aload_n F.1 F.2.1 dX11_save_51 rfl (lv_at hl 0 rfl) ?_
    refine k_get F G 0 rfl (N := 35) (Tt := TX11) rfl kf11 14 (by decide) kl785 (v := .ref (aM 10)) rfl dX11_save_52 ?_
    refine lv_iload_n F.1 F.2.1 dX11_save_55 rfl (lv_at hl 1 rfl) ?_
    refine lv_iconst (v := 1) F.1 F.2.1 dX11_save_56 (by decide) ?_
    obtain ⟨c, h⟩ := op_g h
    obtain ⟨z_10, e9, h⟩ := op_st h
    refine k_zast F G 10 rfl c dX11_save_57 (Wn := (gM T aM z_10)) (by subst e9; rfl) (fun H locs G => ?_)
    clear e9
    obtain rfl := op_1 h
    exact k_vret F hr hlk G dX11_save_58
  · have h := op_t h c
    obtain rfl := op_1 h
    exact k_vret F hr hlk G dX11_save_17
abbrev rmX11_restore : Room := ({ frames := 2, cells := 0, slots := 0, locals := 45 } : Room)
noncomputable def qX11_restore_L34 (x1_7 : Int32) (K : (Nat → Nat → Int32) → Option ((Nat → Nat → Int32))) : Nat → Int32 → (Nat → Nat → Int32) → Option ((Nat → Nat → Int32))
  | 0, _, _ => none
  | n + 1, x2_8, z_9 =>
    if 411 ≤ x2_8 then (K z_9) else gd (vp_in ((411 * x1_7) + x2_8) 822) (gd (vp_in x2_8 411) (bs (va_up z_9 10 (upd (z_9 10) x2_8.toNatClampNeg ((z_9 13) ((411 * x1_7) + x2_8).toNatClampNeg))) fun z_11 => (qX11_restore_L34 x1_7 K n (x2_8 + 1) z_11)))

noncomputable def qX11_restore (z : Nat → Nat → Int32) (x1 : Int32) : Option ((Nat → Nat → Int32)) :=
  (bs (va_up z 0 (fun _ => 0)) fun z_1 => bd (qX11_isSlot x1) fun r_2 => bd2 (qX11_may z_1 r_2 1) fun r_3 z_4 => if r_3 = 0 then some z_4 else gd (vp_in x1 2) (bd2 (qX11_may z_4 ((z_4 14) x1.toNatClampNeg) 2) fun r_5 z_6 => if r_5 = 0 then some z_6 else (qX11_restore_L34  x1 (fun (z_10 : Nat → Nat → Int32) => (bs (va_up z_10 15 (fun _ => 0)) fun z_12 => some z_12)) fu 0 z_6)))

set_option maxHeartbeats 4000000 in
set_option maxRecDepth 100000 in
theorem mX11_restore (l : Launch) (D : va_G) (T : Nat → ClassId) (aM : Nat → Nat) (z : Nat → Nat → Int32) (x1 : Int32) {zR : Nat → Nat → Int32} (hres : qX11_restore z x1 = some (zR)) : Ct l yX11_restore (Cond.code yX11_restore cX11_restore 3 none :: kAll) rmX11_restore D T [.ref (aM 0), .int x1] (gM T aM z) none (gM T aM zR) := by
  refine Ct.of (cc := cX11_restore) (maxL := 3) (ret := none) (by decide +kernel) rfl (Nat.le_of_ble_eq_true rfl) ?_
  intro pr en st mi ag bl me co A ls F hr hlk hnm G hl
  have hl : lv_has ls 3 [(0, .ref (aM 0)), (1, .int x1)] := hl
  have h := hres
  unfold qX11_restore at h
  refine lv_aload_n F.1 F.2.1 dX11_restore_0 rfl (lv_at hl 0 rfl) ?_
  refine lv_iconst (v := 0) F.1 F.2.1 dX11_restore_1 (by decide) ?_
  obtain ⟨z_1, e9, h⟩ := op_st h
  refine k_put F G 0 rfl (N := 35) (Tt := TX11) rfl kf11 tyX11_ok nmX11 0 (by decide) kl804 rfl (v := .int 0) rfl rfl (Nat.le_of_ble_eq_true rfl) dX11_restore_2 (Wn := (gM T aM z_1)) (by subst e9; rfl) (fun H locs G => ?_)
  clear e9
  refine lv_aload_n F.1 F.2.1 dX11_restore_5 rfl (lv_at hl 0 rfl) ?_
  refine lv_iload_n F.1 F.2.1 dX11_restore_6 rfl (lv_at hl 1 rfl) ?_
  obtain ⟨r_2, hc, h⟩ := op_b h
  refine k_callS (rv := (some (.int r_2))) (Wc := ([] : va_W)) (W2 := ([] : va_W)) (Wn := (gM T aM z_1)) (As := [.int x1]) (rest := [.ref (aM 0)]) F G (mX11_isSlot l D T x1 hc) (va_cwS 1 F.2.2.2.2 (kg_c kl1045 (kg_c kl1046 (kg_c kl788 (kg_c kl1043 kg_a)))) rfl rfl rfl (by decide +kernel) ⟨Nat.le_of_ble_eq_true rfl, Nat.le_of_ble_eq_true rfl⟩) (kCut_0 G) rfl hl.1 rfl (Nat.le_of_ble_eq_true rfl) dX11_restore_7 ⟨Nat.le_of_ble_eq_true rfl, Nat.le_of_ble_eq_true rfl⟩ (cN := 0) (sN := 0) ⟨rfl, rfl⟩ (fun H locs G => ?_)
  refine lv_iconst (v := 1) F.1 F.2.1 dX11_restore_10 (by decide) ?_
  obtain ⟨r_3, z_4, hc, h⟩ := op_b2 h
  refine k_callV (rv := (some (.int r_3))) (Wc := (gM T aM z_1)) (W2 := (gM T aM z_4)) (Wn := (gM T aM z_4)) (As := [.int r_2, .int 1]) (rest := []) F G (mX11_may l D T aM z_1 r_2 1 hc) (cwV 2 F.2.2.2.2 (kg_c kl809 (kg_c kl810 (kg_c kl811 (kg_c kl788 (kg_c kl806 kg_a))))) rfl rfl rfl (by decide +kernel) ⟨Nat.le_of_ble_eq_true rfl, Nat.le_of_ble_eq_true rfl⟩) 0 rfl (q := (RX11, TX11, 35)) rfl rfl (kCut_F G) rfl hl.1 rfl (Nat.le_of_ble_eq_true rfl) dX11_restore_11 ⟨Nat.le_of_ble_eq_true rfl, Nat.le_of_ble_eq_true rfl⟩ (cN := 0) (sN := 0) ⟨rfl, rfl⟩ (fun H locs G => ?_)
  refine lv_if_eq (tgt := 31) F.1 F.2.1 dX11_restore_14 (by decide) (fun c => ?_) (fun c => ?_)
  · have h := op_t h c
    obtain rfl := op_1 h
    exact k_vret F hr hlk G dX11_restore_31
  · have h := op_f h c
    refine lv_aload_n F.1 F.2.1 dX11_restore_17 rfl (lv_at hl 0 rfl) ?_
    refine lv_aload_n F.1 F.2.1 dX11_restore_18 rfl (lv_at hl 0 rfl) ?_
    refine k_get F G 0 rfl (N := 35) (Tt := TX11) rfl kf11 14 (by decide) kl785 (v := .ref (aM 10)) rfl dX11_restore_19 ?_
    refine lv_iload_n F.1 F.2.1 dX11_restore_22 rfl (lv_at hl 1 rfl) ?_
    obtain ⟨c, h⟩ := op_g h
    refine k_zald F G 10 rfl c dX11_restore_23 ?_
    refine lv_iconst (v := 2) F.1 F.2.1 dX11_restore_24 (by decide) ?_
    obtain ⟨r_5, z_6, hc, h⟩ := op_b2 h
    refine k_callV (rv := (some (.int r_5))) (Wc := (gM T aM z_4)) (W2 := (gM T aM z_6)) (Wn := (gM T aM z_6)) (As := [.int ((z_4 14) x1.toNatClampNeg), .int 2]) (rest := []) F G (mX11_may l D T aM z_4 ((z_4 14) x1.toNatClampNeg) 2 hc) (cwV 2 F.2.2.2.2 (kg_c kl809 (kg_c kl810 (kg_c kl811 (kg_c kl788 (kg_c kl806 kg_a))))) rfl rfl rfl (by decide +kernel) ⟨Nat.le_of_ble_eq_true rfl, Nat.le_of_ble_eq_true rfl⟩) 0 rfl (q := (RX11, TX11, 35)) rfl rfl (kCut_F G) rfl hl.1 rfl (Nat.le_of_ble_eq_true rfl) dX11_restore_25 ⟨Nat.le_of_ble_eq_true rfl, Nat.le_of_ble_eq_true rfl⟩ (cN := 0) (sN := 0) ⟨rfl, rfl⟩ (fun H locs G => ?_)
    refine lv_if_ne (tgt := 32) F.1 F.2.1 dX11_restore_28 (by decide) (fun c => ?_) (fun c => ?_)
    · have h := op_f h c
      refine lv_iconst (v := 0) F.1 F.2.1 dX11_restore_32 (by decide) ?_
      refine lv_istore_n (lv' := [(2, .int 0), (0, .ref (aM 0)), (1, .int x1)]) F.1 F.2.1 dX11_restore_33 rfl hl (by decide) rfl (fun ls hl => ?_)
      have L34 : ∀ (x1_7 : Int32) (K : (Nat → Nat → Int32) → Option ((Nat → Nat → Int32))) (hK : ∀ (z_10 : Nat → Nat → Int32) (H : Heap) (locs : List Loc) (ls : Array Slot), K z_10 = some (zR) → Rg D T A st (gM T aM z_10) H locs → lv_has ls 3 [(0, .ref (aM 0))] → W pr l en rmX11_restore st mi ag bl me co H locs 0 0 (MQ bl (kQ none D (gM T aM zR) A) ag st rmX11_restore.cells rmX11_restore.slots A) (F0 mi 65 ls [])) (n : Nat) (x2_8 : Int32) (z_9 : Nat → Nat → Int32) (H : Heap) (locs : List Loc) (ls : Array Slot), qX11_restore_L34 x1_7 K n x2_8 z_9 = some (zR) → Rg D T A st (gM T aM z_9) H locs → lv_has ls 3 [(0, .ref (aM 0)), (1, .int x1_7), (2, .int x2_8)] → W pr l en rmX11_restore st mi ag bl me co H locs 0 0 (MQ bl (kQ none D (gM T aM zR) A) ag st rmX11_restore.cells rmX11_restore.slots A) (F0 mi 34 ls []) := by
        intro x1_7 K hK n
        induction n with
        | zero => intro x2_8 z_9 H locs ls h; exact op_n h
        | succ n ih =>
          intro x2_8 z_9 H locs ls h G hl
          rw [qX11_restore_L34] at h
          refine lv_iload_n F.1 F.2.1 dX11_restore_34 rfl (lv_at hl 2 rfl) ?_
          refine lv_sipush (v := 411) F.1 F.2.1 dX11_restore_35 (by decide) ?_
          refine lv_icmp_ge (tgt := 65) F.1 F.2.1 dX11_restore_38 (by decide) (fun c => ?_) (fun c => ?_)
          · have h := op_t h c
            exact hK z_9 _ _ _ h G (lv_sub hl [0] rfl)
          · have h := op_f h c
            refine lv_aload_n F.1 F.2.1 dX11_restore_41 rfl (lv_at hl 0 rfl) ?_
            refine k_get F G 0 rfl (N := 35) (Tt := TX11) rfl kf11 10 (by decide) kl783 (v := .ref (aM 6)) rfl dX11_restore_42 ?_
            refine lv_iload_n F.1 F.2.1 dX11_restore_45 rfl (lv_at hl 2 rfl) ?_
            refine lv_aload_n F.1 F.2.1 dX11_restore_46 rfl (lv_at hl 0 rfl) ?_
            refine k_get F G 0 rfl (N := 35) (Tt := TX11) rfl kf11 13 (by decide) kl793 (v := .ref (aM 9)) rfl dX11_restore_47 ?_
            refine lv_sipush (v := 411) F.1 F.2.1 dX11_restore_50 (by decide) ?_
            refine lv_iload_n F.1 F.2.1 dX11_restore_53 rfl (lv_at hl 1 rfl) ?_
            refine lv_imul F.1 F.2.1 dX11_restore_54 ?_
            refine lv_iload_n F.1 F.2.1 dX11_restore_55 rfl (lv_at hl 2 rfl) ?_
            refine lv_iadd F.1 F.2.1 dX11_restore_56 ?_
            obtain ⟨c, h⟩ := op_g h
            refine k_iald F G 9 rfl c dX11_restore_57 ?_
            obtain ⟨c, h⟩ := op_g h
            obtain ⟨z_11, e9, h⟩ := op_st h
            refine k_iast F G 6 rfl c dX11_restore_58 (Wn := (gM T aM z_11)) (by subst e9; rfl) (fun H locs G => ?_)
            clear e9
            refine lv_iinc (v := (x2_8 + 1)) (lv' := [(2, .int (x2_8 + 1)), (0, .ref (aM 0)), (1, .int x1_7)]) F.1 F.2.1 dX11_restore_59 hl (k := 2) rfl rfl (by decide) rfl (fun ls hl => ?_)
            refine lv_goto (tgt := 34) F.1 F.2.1 dX11_restore_62 (by decide) ?_
            exact ih (x2_8 + 1) z_11 _ _ _ h G (lv_sub hl [1, 2, 0] rfl)
      refine L34  x1 _ (fun z_10 H locs ls h G hl => ?_) fu 0 z_6 _ _ _ h G (lv_sub hl [1, 2, 0] rfl)
      clear L34
      refine lv_aload_n F.1 F.2.1 dX11_restore_65 rfl (lv_at hl 0 rfl) ?_
      refine lv_iconst (v := 0) F.1 F.2.1 dX11_restore_66 (by decide) ?_
      obtain ⟨z_12, e9, h⟩ := op_st h
      refine k_put F G 0 rfl (N := 35) (Tt := TX11) rfl kf11 tyX11_ok nmX11 15 (by decide) kl784 rfl (v := .int 0) rfl rfl (Nat.le_of_ble_eq_true rfl) dX11_restore_67 (Wn := (gM T aM z_12)) (by subst e9; rfl) (fun H locs G => ?_)
      clear e9
      obtain rfl := op_1 h
      exact k_vret F hr hlk G dX11_restore_70
    · have h := op_t h c
      obtain rfl := op_1 h
      exact k_vret F hr hlk G dX11_restore_31
