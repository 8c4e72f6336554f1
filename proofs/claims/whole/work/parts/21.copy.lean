-- the pictures of two plans, of two worlds
def gPP (T : Nat → ClassId) (aD : Nat → Nat) (aP : Nat → Nat) (v : Nat → Nat → Int32) (nm : Nat → Int64) (v2 : Nat → Nat → Int32) (nm2 : Nat → Int64) : va_W :=
  [(aD 0, .inr (5, [.int (v 0 0), .ref (aD 9), .ref (aD 1), .ref (aD 2), .ref (aD 3), .ref (aD 4), .ref (aD 5), .ref (aD 6), .int (v 1 0), .int (v 2 0), .int (v 3 0), .int (v 4 0), .int (v 5 0), .int (v 6 0), .int (v 7 0), .int (v 8 0), .ref (aD 7), .ref (aD 8)])),
   (aD 1, .inl (T 0, 12, .inl (v 9))),
   (aD 2, .inl (T 0, 12, .inl (v 10))),
   (aD 3, .inl (T 0, 12, .inl (v 11))),
   (aD 4, .inl (T 0, 12, .inl (v 12))),
   (aD 5, .inl (T 0, 12, .inl (v 13))),
   (aD 6, .inl (T 0, 12, .inl (v 14))),
   (aD 7, .inl (T 0, 4, .inl (v 15))),
   (aD 8, .inl (T 0, 4, .inl (v 16))),
   (aD 9, .inl (T 1, 12, .inr (.inl nm))),
   (aP 0, .inr (5, [.int (v2 0 0), .ref (aP 9), .ref (aP 1), .ref (aP 2), .ref (aP 3), .ref (aP 4), .ref (aP 5), .ref (aP 6), .int (v2 1 0), .int (v2 2 0), .int (v2 3 0), .int (v2 4 0), .int (v2 5 0), .int (v2 6 0), .int (v2 7 0), .int (v2 8 0), .ref (aP 7), .ref (aP 8)])),
   (aP 1, .inl (T 0, 12, .inl (v2 9))),
   (aP 2, .inl (T 0, 12, .inl (v2 10))),
   (aP 3, .inl (T 0, 12, .inl (v2 11))),
   (aP 4, .inl (T 0, 12, .inl (v2 12))),
   (aP 5, .inl (T 0, 12, .inl (v2 13))),
   (aP 6, .inl (T 0, 12, .inl (v2 14))),
   (aP 7, .inl (T 0, 4, .inl (v2 15))),
   (aP 8, .inl (T 0, 4, .inl (v2 16))),
   (aP 9, .inl (T 1, 12, .inr (.inl nm2)))]
def gWW (T : Nat → ClassId) (aP : Nat → Nat) (aQ : Nat → Nat) (aZ : Nat → Nat) (w : Nat → Nat → Int32) (w2 : Nat → Nat → Int32) : va_W :=
  [(aQ 0, .inr (9, [.ref (aP 0), .ref (aQ 2), .ref (aQ 9), .ref (aQ 19), .int (w 0 0), .int (w 1 0), .int (w 2 0), .int (w 3 0), .int (w 4 0), .int (w 5 0), .int (w 6 0), .int (w 7 0), .ref (aQ 1), .int (w 8 0)])),
   (aQ 1, .inl (T 0, 12, .inl (w 9))),
   (aQ 2, .inr (2, [.ref (aP 0), .ref (aQ 3), .ref (aQ 4), .ref (aQ 5), .ref (aQ 6), .ref (aQ 7), .ref (aQ 8), .int (w 16 0), .int (w 17 0)])),
   (aQ 3, .inl (T 0, 12, .inl (w 10))),
   (aQ 4, .inl (T 0, 12, .inl (w 11))),
   (aQ 5, .inl (T 0, 12, .inl (w 12))),
   (aQ 6, .inl (T 0, 12, .inl (w 13))),
   (aQ 7, .inl (T 0, 12, .inl (w 14))),
   (aQ 8, .inl (T 0, 12, .inl (w 15))),
   (aQ 9, .inr (3, [.ref (aP 0), .ref (aQ 10), .ref (aQ 11), .ref (aQ 12), .int (w 21 0), .ref (aQ 13), .ref (aQ 16)])),
   (aQ 10, .inl (T 0, 12, .inl (w 18))),
   (aQ 11, .inl (T 0, 12, .inl (w 19))),
   (aQ 12, .inl (T 0, 12, .inl (w 20))),
   (aQ 13, .inr (1, [.ref (aQ 14), .ref (aQ 15), .int (w 24 0)])),
   (aQ 14, .inl (T 0, 12, .inl (w 22))),
   (aQ 15, .inl (T 0, 12, .inl (w 23))),
   (aQ 16, .inr (1, [.ref (aQ 17), .ref (aQ 18), .int (w 27 0)])),
   (aQ 17, .inl (T 0, 12, .inl (w 25))),
   (aQ 18, .inl (T 0, 12, .inl (w 26))),
   (aQ 19, .inr (8, [.ref (aP 0), .ref (aQ 20), .ref (aQ 21), .ref (aQ 22), .int (w 31 0), .ref (aQ 23), .ref (aQ 24), .int (w 34 0), .int (w 35 0)])),
   (aQ 20, .inl (T 0, 72, .inl (w 28))),
   (aQ 21, .inl (T 0, 72, .inl (w 29))),
   (aQ 22, .inl (T 0, 72, .inl (w 30))),
   (aQ 23, .inl (T 0, 6, .inl (w 32))),
   (aQ 24, .inl (T 0, 6, .inl (w 33))),
   (aZ 0, .inr (9, [.ref (aP 0), .ref (aZ 2), .ref (aZ 9), .ref (aZ 19), .int (w2 0 0), .int (w2 1 0), .int (w2 2 0), .int (w2 3 0), .int (w2 4 0), .int (w2 5 0), .int (w2 6 0), .int (w2 7 0), .ref (aZ 1), .int (w2 8 0)])),
   (aZ 1, .inl (T 0, 12, .inl (w2 9))),
   (aZ 2, .inr (2, [.ref (aP 0), .ref (aZ 3), .ref (aZ 4), .ref (aZ 5), .ref (aZ 6), .ref (aZ 7), .ref (aZ 8), .int (w2 16 0), .int (w2 17 0)])),
   (aZ 3, .inl (T 0, 12, .inl (w2 10))),
   (aZ 4, .inl (T 0, 12, .inl (w2 11))),
   (aZ 5, .inl (T 0, 12, .inl (w2 12))),
   (aZ 6, .inl (T 0, 12, .inl (w2 13))),
   (aZ 7, .inl (T 0, 12, .inl (w2 14))),
   (aZ 8, .inl (T 0, 12, .inl (w2 15))),
   (aZ 9, .inr (3, [.ref (aP 0), .ref (aZ 10), .ref (aZ 11), .ref (aZ 12), .int (w2 21 0), .ref (aZ 13), .ref (aZ 16)])),
   (aZ 10, .inl (T 0, 12, .inl (w2 18))),
   (aZ 11, .inl (T 0, 12, .inl (w2 19))),
   (aZ 12, .inl (T 0, 12, .inl (w2 20))),
   (aZ 13, .inr (1, [.ref (aZ 14), .ref (aZ 15), .int (w2 24 0)])),
   (aZ 14, .inl (T 0, 12, .inl (w2 22))),
   (aZ 15, .inl (T 0, 12, .inl (w2 23))),
   (aZ 16, .inr (1, [.ref (aZ 17), .ref (aZ 18), .int (w2 27 0)])),
   (aZ 17, .inl (T 0, 12, .inl (w2 25))),
   (aZ 18, .inl (T 0, 12, .inl (w2 26))),
   (aZ 19, .inr (8, [.ref (aP 0), .ref (aZ 20), .ref (aZ 21), .ref (aZ 22), .int (w2 31 0), .ref (aZ 23), .ref (aZ 24), .int (w2 34 0), .int (w2 35 0)])),
   (aZ 20, .inl (T 0, 72, .inl (w2 28))),
   (aZ 21, .inl (T 0, 72, .inl (w2 29))),
   (aZ 22, .inl (T 0, 72, .inl (w2 30))),
   (aZ 23, .inl (T 0, 6, .inl (w2 32))),
   (aZ 24, .inl (T 0, 6, .inl (w2 33)))]
abbrev rmX5_copyFrom : Room := ({ frames := 2, cells := 0, slots := 0, locals := 41 } : Room)
noncomputable def qX5_copyFrom (v : Nat → Nat → Int32) (nm : Nat → Int64) (v2 : Nat → Nat → Int32) (nm2 : Nat → Int64) : Option ((Nat → Nat → Int32) × (Nat → Int64)) :=
  (bs (va_up v2 0 (fun _ => (v 0 0))) fun v2_1 => (bs (kcpy 12 nm nm2) fun nm2_2 => (bs (va_up v2_1 9 (kcpy 12 (v 9) (v2_1 9))) fun v2_3 => (bs (va_up v2_3 10 (kcpy 12 (v 10) (v2_3 10))) fun v2_4 => (bs (va_up v2_4 11 (kcpy 12 (v 11) (v2_4 11))) fun v2_5 => (bs (va_up v2_5 12 (kcpy 12 (v 12) (v2_5 12))) fun v2_6 => (bs (va_up v2_6 13 (kcpy 12 (v 13) (v2_6 13))) fun v2_7 => (bs (va_up v2_7 14 (kcpy 12 (v 14) (v2_7 14))) fun v2_8 => (bs (va_up v2_8 1 (fun _ => (v 1 0))) fun v2_9 => (bs (va_up v2_9 2 (fun _ => (v 2 0))) fun v2_10 => (bs (va_up v2_10 3 (fun _ => (v 3 0))) fun v2_11 => (bs (va_up v2_11 4 (fun _ => (v 4 0))) fun v2_12 => gd (narrow .boolean (.int (v 5 0)) = .int (v 5 0) ∧ fits .boolean (.int (v 5 0)) = true) (bs (va_up v2_12 5 (fun _ => (v 5 0))) fun v2_13 => (bs (va_up v2_13 6 (fun _ => (v 6 0))) fun v2_14 => (bs (va_up v2_14 7 (fun _ => (v 7 0))) fun v2_15 => (bs (va_up v2_15 8 (fun _ => (v 8 0))) fun v2_16 => (bs (va_up v2_16 15 (kcpy 4 (v 15) (v2_16 15))) fun v2_17 => (bs (va_up v2_17 16 (kcpy 4 (v 16) (v2_17 16))) fun v2_18 => some (v2_18, nm2_2)))))))))))))))))))

set_option maxHeartbeats 4000000 in
set_option maxRecDepth 100000 in
theorem mX5_copyFrom (l : Launch) (D : va_G) (T : Nat → ClassId) (aD : Nat → Nat) (aP : Nat → Nat) (v : Nat → Nat → Int32) (nm : Nat → Int64) (v2 : Nat → Nat → Int32) (nm2 : Nat → Int64) {v2R : Nat → Nat → Int32} {nm2R : Nat → Int64} (hres : qX5_copyFrom v nm v2 nm2 = some (v2R, nm2R)) : Ct l yX5_copyFrom (Cond.code yX5_copyFrom cX5_copyFrom 2 none :: kAll) rmX5_copyFrom D T [.ref (aP 0), .ref (aD 0)] (gPP T aD aP v nm v2 nm2) none (gPP T aD aP v nm v2R nm2R) := by
  refine Ct.of (cc := cX5_copyFrom) (maxL := 2) (ret := none) (by decide +kernel) rfl (Nat.le_of_ble_eq_true rfl) ?_
  intro pr en st mi ag bl me co A ls F hr hlk hnm G hl
  have hl : lv_has ls 2 [(0, .ref (aP 0)), (1, .ref (aD 0))] := hl
  have h := hres
  unfold qX5_copyFrom at h
  refine lv_aload_n F.1 F.2.1 dX5_copyFrom_0 rfl (lv_at hl 0 rfl) ?_
  refine lv_aload_n F.1 F.2.1 dX5_copyFrom_1 rfl (lv_at hl 1 rfl) ?_
  refine k_get F G 0 rfl (N := 18) (Tt := TX5) rfl kf5 0 (by decide) kl199 (v := .int (v 0 0)) rfl dX5_copyFrom_2 ?_
  obtain ⟨v2_1, e9, h⟩ := op_st h
  refine k_put F G 10 rfl (N := 18) (Tt := TX5) rfl kf5 tyX5_ok nmX5 0 (by decide) kl199 rfl (v := .int (v 0 0)) rfl rfl (Nat.le_of_ble_eq_true rfl) dX5_copyFrom_5 (Wn := (gPP T aD aP v nm v2_1 nm2)) (by subst e9; rfl) (fun H locs G => ?_)
  clear e9
  refine lv_aload_n F.1 F.2.1 dX5_copyFrom_8 rfl (lv_at hl 1 rfl) ?_
  refine k_get F G 0 rfl (N := 18) (Tt := TX5) rfl kf5 1 (by decide) kl211 (v := .ref (aD 9)) rfl dX5_copyFrom_9 ?_
  refine lv_iconst (v := 0) F.1 F.2.1 dX5_copyFrom_12 (by decide) ?_
  refine lv_aload_n F.1 F.2.1 dX5_copyFrom_13 rfl (lv_at hl 0 rfl) ?_
  refine k_get F G 10 rfl (N := 18) (Tt := TX5) rfl kf5 1 (by decide) kl211 (v := .ref (aP 9)) rfl dX5_copyFrom_14 ?_
  refine lv_iconst (v := 0) F.1 F.2.1 dX5_copyFrom_17 (by decide) ?_
  refine lv_bipush (v := 12) F.1 F.2.1 dX5_copyFrom_18 (by decide) ?_
  obtain ⟨nm2_2, e9, h⟩ := op_st h
  refine k_copyl F G hl.1 kl422 kl73 kl74 kl75 9 19 rfl rfl (x := 12) rfl (by decide) (Nat.le_of_ble_eq_true rfl) (Nat.le_of_ble_eq_true rfl) dX5_copyFrom_20 (Wn := (gPP T aD aP v nm v2_1 nm2_2)) (by subst e9; rfl) (fun H locs G => ?_)
  clear e9
  refine lv_aload_n F.1 F.2.1 dX5_copyFrom_23 rfl (lv_at hl 1 rfl) ?_
  refine k_get F G 0 rfl (N := 18) (Tt := TX5) rfl kf5 2 (by decide) kl212 (v := .ref (aD 1)) rfl dX5_copyFrom_24 ?_
  refine lv_aload_n F.1 F.2.1 dX5_copyFrom_27 rfl (lv_at hl 0 rfl) ?_
  refine k_get F G 10 rfl (N := 18) (Tt := TX5) rfl kf5 2 (by decide) kl212 (v := .ref (aP 1)) rfl dX5_copyFrom_28 ?_
  obtain ⟨v2_3, e9, h⟩ := op_st h
  refine k_callSN (rv := none) (Wc := (gB T (aD 1) (aP 1) 12 (v 9) (v2_1 9))) (W2 := (gB T (aD 1) (aP 1) 12 (v 9) (kcpy 12 (v 9) (v2_1 9)))) (Wn := (gPP T aD aP v nm v2_3 nm2_2)) (As := [.ref (aD 1), .ref (aP 1)]) (rest := []) F G (mX10_copyRow l D T (aD 1) (aP 1) 12 (v 9) (v2_1 9) (by decide)) ⟨va_cnB 2 F.2.2.2.2 (kg_c kl67 kg_a) rfl rfl rfl (k_nest G 9 rfl) (F.2.2.2.2 _ kl80) (by decide +kernel) ⟨Nat.le_of_ble_eq_true rfl, Nat.le_of_ble_eq_true rfl⟩, F.2.2.2.2 _ kl79⟩ (kCut_2 G 1 11 rfl rfl (by decide) (by subst e9; rfl)) rfl hl.1 rfl (Nat.le_of_ble_eq_true rfl) dX5_copyFrom_31 ⟨Nat.le_of_ble_eq_true rfl, Nat.le_of_ble_eq_true rfl⟩ (cN := 0) (sN := 0) ⟨rfl, rfl⟩ (fun H locs G => ?_)
  clear e9
  refine lv_aload_n F.1 F.2.1 dX5_copyFrom_34 rfl (lv_at hl 1 rfl) ?_
  refine k_get F G 0 rfl (N := 18) (Tt := TX5) rfl kf5 3 (by decide) kl213 (v := .ref (aD 2)) rfl dX5_copyFrom_35 ?_
  refine lv_aload_n F.1 F.2.1 dX5_copyFrom_38 rfl (lv_at hl 0 rfl) ?_
  refine k_get F G 10 rfl (N := 18) (Tt := TX5) rfl kf5 3 (by decide) kl213 (v := .ref (aP 2)) rfl dX5_copyFrom_39 ?_
  obtain ⟨v2_4, e9, h⟩ := op_st h
  refine k_callSN (rv := none) (Wc := (gB T (aD 2) (aP 2) 12 (v 10) (v2_3 10))) (W2 := (gB T (aD 2) (aP 2) 12 (v 10) (kcpy 12 (v 10) (v2_3 10)))) (Wn := (gPP T aD aP v nm v2_4 nm2_2)) (As := [.ref (aD 2), .ref (aP 2)]) (rest := []) F G (mX10_copyRow l D T (aD 2) (aP 2) 12 (v 10) (v2_3 10) (by decide)) ⟨va_cnB 2 F.2.2.2.2 (kg_c kl67 kg_a) rfl rfl rfl (k_nest G 9 rfl) (F.2.2.2.2 _ kl80) (by decide +kernel) ⟨Nat.le_of_ble_eq_true rfl, Nat.le_of_ble_eq_true rfl⟩, F.2.2.2.2 _ kl79⟩ (kCut_2 G 2 12 rfl rfl (by decide) (by subst e9; rfl)) rfl hl.1 rfl (Nat.le_of_ble_eq_true rfl) dX5_copyFrom_42 ⟨Nat.le_of_ble_eq_true rfl, Nat.le_of_ble_eq_true rfl⟩ (cN := 0) (sN := 0) ⟨rfl, rfl⟩ (fun H locs G => ?_)
  clear e9
  refine lv_aload_n F.1 F.2.1 dX5_copyFrom_45 rfl (lv_at hl 1 rfl) ?_
  refine k_get F G 0 rfl (N := 18) (Tt := TX5) rfl kf5 4 (by decide) kl214 (v := .ref (aD 3)) rfl dX5_copyFrom_46 ?_
  refine lv_aload_n F.1 F.2.1 dX5_copyFrom_49 rfl (lv_at hl 0 rfl) ?_
  refine k_get F G 10 rfl (N := 18) (Tt := TX5) rfl kf5 4 (by decide) kl214 (v := .ref (aP 3)) rfl dX5_copyFrom_50 ?_
  obtain ⟨v2_5, e9, h⟩ := op_st h
  refine k_callSN (rv := none) (Wc := (gB T (aD 3) (aP 3) 12 (v 11) (v2_4 11))) (W2 := (gB T (aD 3) (aP 3) 12 (v 11) (kcpy 12 (v 11) (v2_4 11)))) (Wn := (gPP T aD aP v nm v2_5 nm2_2)) (As := [.ref (aD 3), .ref (aP 3)]) (rest := []) F G (mX10_copyRow l D T (aD 3) (aP 3) 12 (v 11) (v2_4 11) (by decide)) ⟨va_cnB 2 F.2.2.2.2 (kg_c kl67 kg_a) rfl rfl rfl (k_nest G 9 rfl) (F.2.2.2.2 _ kl80) (by decide +kernel) ⟨Nat.le_of_ble_eq_true rfl, Nat.le_of_ble_eq_true rfl⟩, F.2.2.2.2 _ kl79⟩ (kCut_2 G 3 13 rfl rfl (by decide) (by subst e9; rfl)) rfl hl.1 rfl (Nat.le_of_ble_eq_true rfl) dX5_copyFrom_53 ⟨Nat.le_of_ble_eq_true rfl, Nat.le_of_ble_eq_true rfl⟩ (cN := 0) (sN := 0) ⟨rfl, rfl⟩ (fun H locs G => ?_)
  clear e9
  refine lv_aload_n F.1 F.2.1 dX5_copyFrom_56 rfl (lv_at hl 1 rfl) ?_
  refine k_get F G 0 rfl (N := 18) (Tt := TX5) rfl kf5 5 (by decide) kl215 (v := .ref (aD 4)) rfl dX5_copyFrom_57 ?_
  refine lv_aload_n F.1 F.2.1 dX5_copyFrom_60 rfl (lv_at hl 0 rfl) ?_
  refine k_get F G 10 rfl (N := 18) (Tt := TX5) rfl kf5 5 (by decide) kl215 (v := .ref (aP 4)) rfl dX5_copyFrom_61 ?_
  obtain ⟨v2_6, e9, h⟩ := op_st h
  refine k_callSN (rv := none) (Wc := (gB T (aD 4) (aP 4) 12 (v 12) (v2_5 12))) (W2 := (gB T (aD 4) (aP 4) 12 (v 12) (kcpy 12 (v 12) (v2_5 12)))) (Wn := (gPP T aD aP v nm v2_6 nm2_2)) (As := [.ref (aD 4), .ref (aP 4)]) (rest := []) F G (mX10_copyRow l D T (aD 4) (aP 4) 12 (v 12) (v2_5 12) (by decide)) ⟨va_cnB 2 F.2.2.2.2 (kg_c kl67 kg_a) rfl rfl rfl (k_nest G 9 rfl) (F.2.2.2.2 _ kl80) (by decide +kernel) ⟨Nat.le_of_ble_eq_true rfl, Nat.le_of_ble_eq_true rfl⟩, F.2.2.2.2 _ kl79⟩ (kCut_2 G 4 14 rfl rfl (by decide) (by subst e9; rfl)) rfl hl.1 rfl (Nat.le_of_ble_eq_true rfl) dX5_copyFrom_64 ⟨Nat.le_of_ble_eq_true rfl, Nat.le_of_ble_eq_true rfl⟩ (cN := 0) (sN := 0) ⟨rfl, rfl⟩ (fun H locs G => ?_)
  clear e9
  refine lv_aload_n F.1 F.2.1 dX5_copyFrom_67 rfl (lv_at hl 1 rfl) ?_
  refine k_get F G 0 rfl (N := 18) (Tt := TX5) rfl kf5 6 (by decide) kl216 (v := .ref (aD 5)) rfl dX5_copyFrom_68 ?_
  refine lv_aload_n F.1 F.2.1 dX5_copyFrom_71 rfl (lv_at hl 0 rfl) ?_
  refine k_get F G 10 rfl (N := 18) (Tt := TX5) rfl kf5 6 (by decide) kl216 (v := .ref (aP 5)) rfl dX5_copyFrom_72 ?_
  obtain ⟨v2_7, e9, h⟩ := op_st h
  refine k_callSN (rv := none) (Wc := (gB T (aD 5) (aP 5) 12 (v 13) (v2_6 13))) (W2 := (gB T (aD 5) (aP 5) 12 (v 13) (kcpy 12 (v 13) (v2_6 13)))) (Wn := (gPP T aD aP v nm v2_7 nm2_2)) (As := [.ref (aD 5), .ref (aP 5)]) (rest := []) F G (mX10_copyRow l D T (aD 5) (aP 5) 12 (v 13) (v2_6 13) (by decide)) ⟨va_cnB 2 F.2.2.2.2 (kg_c kl67 kg_a) rfl rfl rfl (k_nest G 9 rfl) (F.2.2.2.2 _ kl80) (by decide +kernel) ⟨Nat.le_of_ble_eq_true rfl, Nat.le_of_ble_eq_true rfl⟩, F.2.2.2.2 _ kl79⟩ (kCut_2 G 5 15 rfl rfl (by decide) (by subst e9; rfl)) rfl hl.1 rfl (Nat.le_of_ble_eq_true rfl) dX5_copyFrom_75 ⟨Nat.le_of_ble_eq_true rfl, Nat.le_of_ble_eq_true rfl⟩ (cN := 0) (sN := 0) ⟨rfl, rfl⟩ (fun H locs G => ?_)
  clear e9
  refine lv_aload_n F.1 F.2.1 dX5_copyFrom_78 rfl (lv_at hl 1 rfl) ?_
  refine k_get F G 0 rfl (N := 18) (Tt := TX5) rfl kf5 7 (by decide) kl217 (v := .ref (aD 6)) rfl dX5_copyFrom_79 ?_
  refine lv_aload_n F.1 F.2.1 dX5_copyFrom_82 rfl (lv_at hl 0 rfl) ?_
  refine k_get F G 10 rfl (N := 18) (Tt := TX5) rfl kf5 7 (by decide) kl217 (v := .ref (aP 6)) rfl dX5_copyFrom_83 ?_
  obtain ⟨v2_8, e9, h⟩ := op_st h
  refine k_callSN (rv := none) (Wc := (gB T (aD 6) (aP 6) 12 (v 14) (v2_7 14))) (W2 := (gB T (aD 6) (aP 6) 12 (v 14) (kcpy 12 (v 14) (v2_7 14)))) (Wn := (gPP T aD aP v nm v2_8 nm2_2)) (As := [.ref (aD 6), .ref (aP 6)]) (rest := []) F G (mX10_copyRow l D T (aD 6) (aP 6) 12 (v 14) (v2_7 14) (by decide)) ⟨va_cnB 2 F.2.2.2.2 (kg_c kl67 kg_a) rfl rfl rfl (k_nest G 9 rfl) (F.2.2.2.2 _ kl80) (by decide +kernel) ⟨Nat.le_of_ble_eq_true rfl, Nat.le_of_ble_eq_true rfl⟩, F.2.2.2.2 _ kl79⟩ (kCut_2 G 6 16 rfl rfl (by decide) (by subst e9; rfl)) rfl hl.1 rfl (Nat.le_of_ble_eq_true rfl) dX5_copyFrom_86 ⟨Nat.le_of_ble_eq_true rfl, Nat.le_of_ble_eq_true rfl⟩ (cN := 0) (sN := 0) ⟨rfl, rfl⟩ (fun H locs G => ?_)
  clear e9
  refine lv_aload_n F.1 F.2.1 dX5_copyFrom_89 rfl (lv_at hl 0 rfl) ?_
  refine lv_aload_n F.1 F.2.1 dX5_copyFrom_90 rfl (lv_at hl 1 rfl) ?_
  refine k_get F G 0 rfl (N := 18) (Tt := TX5) rfl kf5 8 (by decide) kl200 (v := .int (v 1 0)) rfl dX5_copyFrom_91 ?_
  obtain ⟨v2_9, e9, h⟩ := op_st h
  refine k_put F G 10 rfl (N := 18) (Tt := TX5) rfl kf5 tyX5_ok nmX5 8 (by decide) kl200 rfl (v := .int (v 1 0)) rfl rfl (Nat.le_of_ble_eq_true rfl) dX5_copyFrom_94 (Wn := (gPP T aD aP v nm v2_9 nm2_2)) (by subst e9; rfl) (fun H locs G => ?_)
  clear e9
  refine lv_aload_n F.1 F.2.1 dX5_copyFrom_97 rfl (lv_at hl 0 rfl) ?_
  refine lv_aload_n F.1 F.2.1 dX5_copyFrom_98 rfl (lv_at hl 1 rfl) ?_
  refine k_get F G 0 rfl (N := 18) (Tt := TX5) rfl kf5 9 (by decide) kl201 (v := .int (v 2 0)) rfl dX5_copyFrom_99 ?_
  obtain ⟨v2_10, e9, h⟩ := op_st h
  refine k_put F G 10 rfl (N := 18) (Tt := TX5) rfl kf5 tyX5_ok nmX5 9 (by decide) kl201 rfl (v := .int (v 2 0)) rfl rfl (Nat.le_of_ble_eq_true rfl) dX5_copyFrom_102 (Wn := (gPP T aD aP v nm v2_10 nm2_2)) (by subst e9; rfl) (fun H locs G => ?_)
  clear e9
  refine lv_aload_n F.1 F.2.1 dX5_copyFrom_105 rfl (lv_at hl 0 rfl) ?_
  refine lv_aload_n F.1 F.2.1 dX5_copyFrom_106 rfl (lv_at hl 1 rfl) ?_
  refine k_get F G 0 rfl (N := 18) (Tt := TX5) rfl kf5 10 (by decide) kl202 (v := .int (v 3 0)) rfl dX5_copyFrom_107 ?_
  obtain ⟨v2_11, e9, h⟩ := op_st h
  refine k_put F G 10 rfl (N := 18) (Tt := TX5) rfl kf5 tyX5_ok nmX5 10 (by decide) kl202 rfl (v := .int (v 3 0)) rfl rfl (Nat.le_of_ble_eq_true rfl) dX5_copyFrom_110 (Wn := (gPP T aD aP v nm v2_11 nm2_2)) (by subst e9; rfl) (fun H locs G => ?_)
  clear e9
  refine lv_aload_n F.1 F.2.1 dX5_copyFrom_113 rfl (lv_at hl 0 rfl) ?_
  refine lv_aload_n F.1 F.2.1 dX5_copyFrom_114 rfl (lv_at hl 1 rfl) ?_
  refine k_get F G 0 rfl (N := 18) (Tt := TX5) rfl kf5 11 (by decide) kl203 (v := .int (v 4 0)) rfl dX5_copyFrom_115 ?_
  obtain ⟨v2_12, e9, h⟩ := op_st h
  refine k_put F G 10 rfl (N := 18) (Tt := TX5) rfl kf5 tyX5_ok nmX5 11 (by decide) kl203 rfl (v := .int (v 4 0)) rfl rfl (Nat.le_of_ble_eq_true rfl) dX5_copyFrom_118 (Wn := (gPP T aD aP v nm v2_12 nm2_2)) (by subst e9; rfl) (fun H locs G => ?_)
  clear e9
  refine lv_aload_n F.1 F.2.1 dX5_copyFrom_121 rfl (lv_at hl 0 rfl) ?_
  refine lv_aload_n F.1 F.2.1 dX5_copyFrom_122 rfl (lv_at hl 1 rfl) ?_
  refine k_get F G 0 rfl (N := 18) (Tt := TX5) rfl kf5 12 (by decide) kl204 (v := .int (v 5 0)) rfl dX5_copyFrom_123 ?_
  obtain ⟨c, h⟩ := op_g h
  obtain ⟨v2_13, e9, h⟩ := op_st h
  refine k_put F G 10 rfl (N := 18) (Tt := TX5) rfl kf5 tyX5_ok nmX5 12 (by decide) kl204 rfl (v := .int (v 5 0)) c.1 c.2 (Nat.le_of_ble_eq_true rfl) dX5_copyFrom_126 (Wn := (gPP T aD aP v nm v2_13 nm2_2)) (by subst e9; rfl) (fun H locs G => ?_)
  clear e9
  refine lv_aload_n F.1 F.2.1 dX5_copyFrom_129 rfl (lv_at hl 0 rfl) ?_
  refine lv_aload_n F.1 F.2.1 dX5_copyFrom_130 rfl (lv_at hl 1 rfl) ?_
  refine k_get F G 0 rfl (N := 18) (Tt := TX5) rfl kf5 13 (by decide) kl205 (v := .int (v 6 0)) rfl dX5_copyFrom_131 ?_
  obtain ⟨v2_14, e9, h⟩ := op_st h
  refine k_put F G 10 rfl (N := 18) (Tt := TX5) rfl kf5 tyX5_ok nmX5 13 (by decide) kl205 rfl (v := .int (v 6 0)) rfl rfl (Nat.le_of_ble_eq_true rfl) dX5_copyFrom_134 (Wn := (gPP T aD aP v nm v2_14 nm2_2)) (by subst e9; rfl) (fun H locs G => ?_)
  clear e9
  refine lv_aload_n F.1 F.2.1 dX5_copyFrom_137 rfl (lv_at hl 0 rfl) ?_
  refine lv_aload_n F.1 F.2.1 dX5_copyFrom_138 rfl (lv_at hl 1 rfl) ?_
  refine k_get F G 0 rfl (N := 18) (Tt := TX5) rfl kf5 14 (by decide) kl206 (v := .int (v 7 0)) rfl dX5_copyFrom_139 ?_
  obtain ⟨v2_15, e9, h⟩ := op_st h
  refine k_put F G 10 rfl (N := 18) (Tt := TX5) rfl kf5 tyX5_ok nmX5 14 (by decide) kl206 rfl (v := .int (v 7 0)) rfl rfl (Nat.le_of_ble_eq_true rfl) dX5_copyFrom_142 (Wn := (gPP T aD aP v nm v2_15 nm2_2)) (by subst e9; rfl) (fun H locs G => ?_)
  clear e9
  refine lv_aload_n F.1 F.2.1 dX5_copyFrom_145 rfl (lv_at hl 0 rfl) ?_
  refine lv_aload_n F.1 F.2.1 dX5_copyFrom_146 rfl (lv_at hl 1 rfl) ?_
  refine k_get F G 0 rfl (N := 18) (Tt := TX5) rfl kf5 15 (by decide) kl207 (v := .int (v 8 0)) rfl dX5_copyFrom_147 ?_
  obtain ⟨v2_16, e9, h⟩ := op_st h
  refine k_put F G 10 rfl (N := 18) (Tt := TX5) rfl kf5 tyX5_ok nmX5 15 (by decide) kl207 rfl (v := .int (v 8 0)) rfl rfl (Nat.le_of_ble_eq_true rfl) dX5_copyFrom_150 (Wn := (gPP T aD aP v nm v2_16 nm2_2)) (by subst e9; rfl) (fun H locs G => ?_)
  clear e9
  refine lv_aload_n F.1 F.2.1 dX5_copyFrom_153 rfl (lv_at hl 1 rfl) ?_
  refine k_get F G 0 rfl (N := 18) (Tt := TX5) rfl kf5 16 (by decide) kl218 (v := .ref (aD 7)) rfl dX5_copyFrom_154 ?_
  refine lv_aload_n F.1 F.2.1 dX5_copyFrom_157 rfl (lv_at hl 0 rfl) ?_
  refine k_get F G 10 rfl (N := 18) (Tt := TX5) rfl kf5 16 (by decide) kl218 (v := .ref (aP 7)) rfl dX5_copyFrom_158 ?_
  obtain ⟨v2_17, e9, h⟩ := op_st h
  refine k_callSN (rv := none) (Wc := (gB T (aD 7) (aP 7) 4 (v 15) (v2_16 15))) (W2 := (gB T (aD 7) (aP 7) 4 (v 15) (kcpy 4 (v 15) (v2_16 15)))) (Wn := (gPP T aD aP v nm v2_17 nm2_2)) (As := [.ref (aD 7), .ref (aP 7)]) (rest := []) F G (mX10_copyRow l D T (aD 7) (aP 7) 4 (v 15) (v2_16 15) (by decide)) ⟨va_cnB 2 F.2.2.2.2 (kg_c kl67 kg_a) rfl rfl rfl (k_nest G 9 rfl) (F.2.2.2.2 _ kl80) (by decide +kernel) ⟨Nat.le_of_ble_eq_true rfl, Nat.le_of_ble_eq_true rfl⟩, F.2.2.2.2 _ kl79⟩ (kCut_2 G 7 17 rfl rfl (by decide) (by subst e9; rfl)) rfl hl.1 rfl (Nat.le_of_ble_eq_true rfl) dX5_copyFrom_161 ⟨Nat.le_of_ble_eq_true rfl, Nat.le_of_ble_eq_true rfl⟩ (cN := 0) (sN := 0) ⟨rfl, rfl⟩ (fun H locs G => ?_)
  clear e9
  refine lv_aload_n F.1 F.2.1 dX5_copyFrom_164 rfl (lv_at hl 1 rfl) ?_
  refine k_get F G 0 rfl (N := 18) (Tt := TX5) rfl kf5 17 (by decide) kl219 (v := .ref (aD 8)) rfl dX5_copyFrom_165 ?_
  refine lv_aload_n F.1 F.2.1 dX5_copyFrom_168 rfl (lv_at hl 0 rfl) ?_
  refine k_get F G 10 rfl (N := 18) (Tt := TX5) rfl kf5 17 (by decide) kl219 (v := .ref (aP 8)) rfl dX5_copyFrom_169 ?_
  obtain ⟨v2_18, e9, h⟩ := op_st h
  refine k_callSN (rv := none) (Wc := (gB T (aD 8) (aP 8) 4 (v 16) (v2_17 16))) (W2 := (gB T (aD 8) (aP 8) 4 (v 16) (kcpy 4 (v 16) (v2_17 16)))) (Wn := (gPP T aD aP v nm v2_18 nm2_2)) (As := [.ref (aD 8), .ref (aP 8)]) (rest := []) F G (mX10_copyRow l D T (aD 8) (aP 8) 4 (v 16) (v2_17 16) (by decide)) ⟨va_cnB 2 F.2.2.2.2 (kg_c kl67 kg_a) rfl rfl rfl (k_nest G 9 rfl) (F.2.2.2.2 _ kl80) (by decide +kernel) ⟨Nat.le_of_ble_eq_true rfl, Nat.le_of_ble_eq_true rfl⟩, F.2.2.2.2 _ kl79⟩ (kCut_2 G 8 18 rfl rfl (by decide) (by subst e9; rfl)) rfl hl.1 rfl (Nat.le_of_ble_eq_true rfl) dX5_copyFrom_172 ⟨Nat.le_of_ble_eq_true rfl, Nat.le_of_ble_eq_true rfl⟩ (cN := 0) (sN := 0) ⟨rfl, rfl⟩ (fun H locs G => ?_)
  clear e9
  obtain ⟨rfl, rfl⟩ := op_2 h
  exact k_vret F hr hlk G dX5_copyFrom_175
abbrev rmX1_copyFrom_l : Room := ({ frames := 2, cells := 0, slots := 0, locals := 41 } : Room)
noncomputable def qX1_copyFrom_l (w : Nat → Nat → Int32) (w2 : Nat → Nat → Int32) : Option ((Nat → Nat → Int32)) :=
  (bs (va_up w2 22 (kcpy 12 (w 22) (w2 22))) fun w2_1 => (bs (va_up w2_1 23 (kcpy 12 (w 23) (w2_1 23))) fun w2_2 => (bs (va_up w2_2 24 (fun _ => (w 24 0))) fun w2_3 => some w2_3)))

set_option maxHeartbeats 4000000 in
set_option maxRecDepth 100000 in
theorem mX1_copyFrom_l (l : Launch) (D : va_G) (T : Nat → ClassId) (aP : Nat → Nat) (aQ : Nat → Nat) (aZ : Nat → Nat) (w : Nat → Nat → Int32) (w2 : Nat → Nat → Int32) {w2R : Nat → Nat → Int32} (hres : qX1_copyFrom_l w w2 = some (w2R)) : Ct l yX1_copyFrom (Cond.code yX1_copyFrom cX1_copyFrom 2 none :: kAll) rmX1_copyFrom_l D T [.ref (aZ 13), .ref (aQ 13)] (gWW T aP aQ aZ w w2) none (gWW T aP aQ aZ w w2R) := by
  refine Ct.of (cc := cX1_copyFrom) (maxL := 2) (ret := none) (by decide +kernel) rfl (Nat.le_of_ble_eq_true rfl) ?_
  intro pr en st mi ag bl me co A ls F hr hlk hnm G hl
  have hl : lv_has ls 2 [(0, .ref (aZ 13)), (1, .ref (aQ 13))] := hl
  have h := hres
  unfold qX1_copyFrom_l at h
  refine lv_aload_n F.1 F.2.1 dX1_copyFrom_0 rfl (lv_at hl 1 rfl) ?_
  refine k_get F G 13 rfl (N := 3) (Tt := TX1) rfl kf1 0 (by decide) kl14 (v := .ref (aQ 14)) rfl dX1_copyFrom_1 ?_
  refine lv_aload_n F.1 F.2.1 dX1_copyFrom_4 rfl (lv_at hl 0 rfl) ?_
  refine k_get F G 38 rfl (N := 3) (Tt := TX1) rfl kf1 0 (by decide) kl14 (v := .ref (aZ 14)) rfl dX1_copyFrom_5 ?_
  obtain ⟨w2_1, e9, h⟩ := op_st h
  refine k_callSN (rv := none) (Wc := (gB T (aQ 14) (aZ 14) 12 (w 22) (w2 22))) (W2 := (gB T (aQ 14) (aZ 14) 12 (w 22) (kcpy 12 (w 22) (w2 22)))) (Wn := (gWW T aP aQ aZ w w2_1)) (As := [.ref (aQ 14), .ref (aZ 14)]) (rest := []) F G (mX10_copyRow l D T (aQ 14) (aZ 14) 12 (w 22) (w2 22) (by decide)) ⟨va_cnB 2 F.2.2.2.2 (kg_c kl67 kg_a) rfl rfl rfl (k_nest G 3 rfl) (F.2.2.2.2 _ kl80) (by decide +kernel) ⟨Nat.le_of_ble_eq_true rfl, Nat.le_of_ble_eq_true rfl⟩, F.2.2.2.2 _ kl79⟩ (kCut_2 G 14 39 rfl rfl (by decide) (by subst e9; rfl)) rfl hl.1 rfl (Nat.le_of_ble_eq_true rfl) dX1_copyFrom_8 ⟨Nat.le_of_ble_eq_true rfl, Nat.le_of_ble_eq_true rfl⟩ (cN := 0) (sN := 0) ⟨rfl, rfl⟩ (fun H locs G => ?_)
  clear e9
  refine lv_aload_n F.1 F.2.1 dX1_copyFrom_11 rfl (lv_at hl 1 rfl) ?_
  refine k_get F G 13 rfl (N := 3) (Tt := TX1) rfl kf1 1 (by decide) kl15 (v := .ref (aQ 15)) rfl dX1_copyFrom_12 ?_
  refine lv_aload_n F.1 F.2.1 dX1_copyFrom_15 rfl (lv_at hl 0 rfl) ?_
  refine k_get F G 38 rfl (N := 3) (Tt := TX1) rfl kf1 1 (by decide) kl15 (v := .ref (aZ 15)) rfl dX1_copyFrom_16 ?_
  obtain ⟨w2_2, e9, h⟩ := op_st h
  refine k_callSN (rv := none) (Wc := (gB T (aQ 15) (aZ 15) 12 (w 23) (w2_1 23))) (W2 := (gB T (aQ 15) (aZ 15) 12 (w 23) (kcpy 12 (w 23) (w2_1 23)))) (Wn := (gWW T aP aQ aZ w w2_2)) (As := [.ref (aQ 15), .ref (aZ 15)]) (rest := []) F G (mX10_copyRow l D T (aQ 15) (aZ 15) 12 (w 23) (w2_1 23) (by decide)) ⟨va_cnB 2 F.2.2.2.2 (kg_c kl67 kg_a) rfl rfl rfl (k_nest G 3 rfl) (F.2.2.2.2 _ kl80) (by decide +kernel) ⟨Nat.le_of_ble_eq_true rfl, Nat.le_of_ble_eq_true rfl⟩, F.2.2.2.2 _ kl79⟩ (kCut_2 G 15 40 rfl rfl (by decide) (by subst e9; rfl)) rfl hl.1 rfl (Nat.le_of_ble_eq_true rfl) dX1_copyFrom_19 ⟨Nat.le_of_ble_eq_true rfl, Nat.le_of_ble_eq_true rfl⟩ (cN := 0) (sN := 0) ⟨rfl, rfl⟩ (fun H locs G => ?_)
  clear e9
  refine lv_aload_n F.1 F.2.1 dX1_copyFrom_22 rfl (lv_at hl 0 rfl) ?_
  refine lv_aload_n F.1 F.2.1 dX1_copyFrom_23 rfl (lv_at hl 1 rfl) ?_
  refine k_get F G 13 rfl (N := 3) (Tt := TX1) rfl kf1 2 (by decide) kl82 (v := .int (w 24 0)) rfl dX1_copyFrom_24 ?_
  obtain ⟨w2_3, e9, h⟩ := op_st h
  refine k_put F G 38 rfl (N := 3) (Tt := TX1) rfl kf1 tyX1_ok nmX1 2 (by decide) kl82 rfl (v := .int (w 24 0)) rfl rfl (Nat.le_of_ble_eq_true rfl) dX1_copyFrom_27 (Wn := (gWW T aP aQ aZ w w2_3)) (by subst e9; rfl) (fun H locs G => ?_)
  clear e9
  obtain rfl := op_1 h
  exact k_vret F hr hlk G dX1_copyFrom_30
abbrev rmX1_copyFrom_p : Room := ({ frames := 2, cells := 0, slots := 0, locals := 41 } : Room)
noncomputable def qX1_copyFrom_p (w : Nat → Nat → Int32) (w2 : Nat → Nat → Int32) : Option ((Nat → Nat → Int32)) :=
  (bs (va_up w2 25 (kcpy 12 (w 25) (w2 25))) fun w2_1 => (bs (va_up w2_1 26 (kcpy 12 (w 26) (w2_1 26))) fun w2_2 => (bs (va_up w2_2 27 (fun _ => (w 27 0))) fun w2_3 => some w2_3)))

set_option maxHeartbeats 4000000 in
set_option maxRecDepth 100000 in
theorem mX1_copyFrom_p (l : Launch) (D : va_G) (T : Nat → ClassId) (aP : Nat → Nat) (aQ : Nat → Nat) (aZ : Nat → Nat) (w : Nat → Nat → Int32) (w2 : Nat → Nat → Int32) {w2R : Nat → Nat → Int32} (hres : qX1_copyFrom_p w w2 = some (w2R)) : Ct l yX1_copyFrom (Cond.code yX1_copyFrom cX1_copyFrom 2 none :: kAll) rmX1_copyFrom_p D T [.ref (aZ 16), .ref (aQ 16)] (gWW T aP aQ aZ w w2) none (gWW T aP aQ aZ w w2R) := by
  refine Ct.of (cc := cX1_copyFrom) (maxL := 2) (ret := none) (by decide +kernel) rfl (Nat.le_of_ble_eq_true rfl) ?_
  intro pr en st mi ag bl me co A ls F hr hlk hnm G hl
  have hl : lv_has ls 2 [(0, .ref (aZ 16)), (1, .ref (aQ 16))] := hl
  have h := hres
  unfold qX1_copyFrom_p at h
  refine lv_aload_n F.1 F.2.1 dX1_copyFrom_0 rfl (lv_at hl 1 rfl) ?_
  refine k_get F G 16 rfl (N := 3) (Tt := TX1) rfl kf1 0 (by decide) kl14 (v := .ref (aQ 17)) rfl dX1_copyFrom_1 ?_
  refine lv_aload_n F.1 F.2.1 dX1_copyFrom_4 rfl (lv_at hl 0 rfl) ?_
  refine k_get F G 41 rfl (N := 3) (Tt := TX1) rfl kf1 0 (by decide) kl14 (v := .ref (aZ 17)) rfl dX1_copyFrom_5 ?_
  obtain ⟨w2_1, e9, h⟩ := op_st h
  refine k_callSN (rv := none) (Wc := (gB T (aQ 17) (aZ 17) 12 (w 25) (w2 25))) (W2 := (gB T (aQ 17) (aZ 17) 12 (w 25) (kcpy 12 (w 25) (w2 25)))) (Wn := (gWW T aP aQ aZ w w2_1)) (As := [.ref (aQ 17), .ref (aZ 17)]) (rest := []) F G (mX10_copyRow l D T (aQ 17) (aZ 17) 12 (w 25) (w2 25) (by decide)) ⟨va_cnB 2 F.2.2.2.2 (kg_c kl67 kg_a) rfl rfl rfl (k_nest G 3 rfl) (F.2.2.2.2 _ kl80) (by decide +kernel) ⟨Nat.le_of_ble_eq_true rfl, Nat.le_of_ble_eq_true rfl⟩, F.2.2.2.2 _ kl79⟩ (kCut_2 G 17 42 rfl rfl (by decide) (by subst e9; rfl)) rfl hl.1 rfl (Nat.le_of_ble_eq_true rfl) dX1_copyFrom_8 ⟨Nat.le_of_ble_eq_true rfl, Nat.le_of_ble_eq_true rfl⟩ (cN := 0) (sN := 0) ⟨rfl, rfl⟩ (fun H locs G => ?_)
  clear e9
  refine lv_aload_n F.1 F.2.1 dX1_copyFrom_11 rfl (lv_at hl 1 rfl) ?_
  refine k_get F G 16 rfl (N := 3) (Tt := TX1) rfl kf1 1 (by decide) kl15 (v := .ref (aQ 18)) rfl dX1_copyFrom_12 ?_
  refine lv_aload_n F.1 F.2.1 dX1_copyFrom_15 rfl (lv_at hl 0 rfl) ?_
  refine k_get F G 41 rfl (N := 3) (Tt := TX1) rfl kf1 1 (by decide) kl15 (v := .ref (aZ 18)) rfl dX1_copyFrom_16 ?_
  obtain ⟨w2_2, e9, h⟩ := op_st h
  refine k_callSN (rv := none) (Wc := (gB T (aQ 18) (aZ 18) 12 (w 26) (w2_1 26))) (W2 := (gB T (aQ 18) (aZ 18) 12 (w 26) (kcpy 12 (w 26) (w2_1 26)))) (Wn := (gWW T aP aQ aZ w w2_2)) (As := [.ref (aQ 18), .ref (aZ 18)]) (rest := []) F G (mX10_copyRow l D T (aQ 18) (aZ 18) 12 (w 26) (w2_1 26) (by decide)) ⟨va_cnB 2 F.2.2.2.2 (kg_c kl67 kg_a) rfl rfl rfl (k_nest G 3 rfl) (F.2.2.2.2 _ kl80) (by decide +kernel) ⟨Nat.le_of_ble_eq_true rfl, Nat.le_of_ble_eq_true rfl⟩, F.2.2.2.2 _ kl79⟩ (kCut_2 G 18 43 rfl rfl (by decide) (by subst e9; rfl)) rfl hl.1 rfl (Nat.le_of_ble_eq_true rfl) dX1_copyFrom_19 ⟨Nat.le_of_ble_eq_true rfl, Nat.le_of_ble_eq_true rfl⟩ (cN := 0) (sN := 0) ⟨rfl, rfl⟩ (fun H locs G => ?_)
  clear e9
  refine lv_aload_n F.1 F.2.1 dX1_copyFrom_22 rfl (lv_at hl 0 rfl) ?_
  refine lv_aload_n F.1 F.2.1 dX1_copyFrom_23 rfl (lv_at hl 1 rfl) ?_
  refine k_get F G 16 rfl (N := 3) (Tt := TX1) rfl kf1 2 (by decide) kl82 (v := .int (w 27 0)) rfl dX1_copyFrom_24 ?_
  obtain ⟨w2_3, e9, h⟩ := op_st h
  refine k_put F G 41 rfl (N := 3) (Tt := TX1) rfl kf1 tyX1_ok nmX1 2 (by decide) kl82 rfl (v := .int (w 27 0)) rfl rfl (Nat.le_of_ble_eq_true rfl) dX1_copyFrom_27 (Wn := (gWW T aP aQ aZ w w2_3)) (by subst e9; rfl) (fun H locs G => ?_)
  clear e9
  obtain rfl := op_1 h
  exact k_vret F hr hlk G dX1_copyFrom_30
abbrev rmX2_copyFrom : Room := ({ frames := 2, cells := 0, slots := 0, locals := 41 } : Room)
noncomputable def qX2_copyFrom (w : Nat → Nat → Int32) (w2 : Nat → Nat → Int32) : Option ((Nat → Nat → Int32)) :=
  (bs (va_up w2 10 (kcpy 12 (w 10) (w2 10))) fun w2_1 => (bs (va_up w2_1 11 (kcpy 12 (w 11) (w2_1 11))) fun w2_2 => (bs (va_up w2_2 12 (kcpy 12 (w 12) (w2_2 12))) fun w2_3 => (bs (va_up w2_3 13 (kcpy 12 (w 13) (w2_3 13))) fun w2_4 => (bs (va_up w2_4 14 (kcpy 12 (w 14) (w2_4 14))) fun w2_5 => (bs (va_up w2_5 15 (kcpy 12 (w 15) (w2_5 15))) fun w2_6 => (bs (va_up w2_6 16 (fun _ => (w 16 0))) fun w2_7 => (bs (va_up w2_7 17 (fun _ => (w 17 0))) fun w2_8 => some w2_8))))))))

set_option maxHeartbeats 4000000 in
set_option maxRecDepth 100000 in
theorem mX2_copyFrom (l : Launch) (D : va_G) (T : Nat → ClassId) (aP : Nat → Nat) (aQ : Nat → Nat) (aZ : Nat → Nat) (w : Nat → Nat → Int32) (w2 : Nat → Nat → Int32) {w2R : Nat → Nat → Int32} (hres : qX2_copyFrom w w2 = some (w2R)) : Ct l yX2_copyFrom (Cond.code yX2_copyFrom cX2_copyFrom 2 none :: kAll) rmX2_copyFrom D T [.ref (aZ 2), .ref (aQ 2)] (gWW T aP aQ aZ w w2) none (gWW T aP aQ aZ w w2R) := by
  refine Ct.of (cc := cX2_copyFrom) (maxL := 2) (ret := none) (by decide +kernel) rfl (Nat.le_of_ble_eq_true rfl) ?_
  intro pr en st mi ag bl me co A ls F hr hlk hnm G hl
  have hl : lv_has ls 2 [(0, .ref (aZ 2)), (1, .ref (aQ 2))] := hl
  have h := hres
  unfold qX2_copyFrom at h
  refine lv_aload_n F.1 F.2.1 dX2_copyFrom_0 rfl (lv_at hl 1 rfl) ?_
  refine k_get F G 2 rfl (N := 9) (Tt := TX2) rfl kf2 1 (by decide) kl5 (v := .ref (aQ 3)) rfl dX2_copyFrom_1 ?_
  refine lv_aload_n F.1 F.2.1 dX2_copyFrom_4 rfl (lv_at hl 0 rfl) ?_
  refine k_get F G 27 rfl (N := 9) (Tt := TX2) rfl kf2 1 (by decide) kl5 (v := .ref (aZ 3)) rfl dX2_copyFrom_5 ?_
  obtain ⟨w2_1, e9, h⟩ := op_st h
  refine k_callSN (rv := none) (Wc := (gB T (aQ 3) (aZ 3) 12 (w 10) (w2 10))) (W2 := (gB T (aQ 3) (aZ 3) 12 (w 10) (kcpy 12 (w 10) (w2 10)))) (Wn := (gWW T aP aQ aZ w w2_1)) (As := [.ref (aQ 3), .ref (aZ 3)]) (rest := []) F G (mX10_copyRow l D T (aQ 3) (aZ 3) 12 (w 10) (w2 10) (by decide)) ⟨va_cnB 2 F.2.2.2.2 (kg_c kl67 kg_a) rfl rfl rfl (k_nest G 4 rfl) (F.2.2.2.2 _ kl80) (by decide +kernel) ⟨Nat.le_of_ble_eq_true rfl, Nat.le_of_ble_eq_true rfl⟩, F.2.2.2.2 _ kl79⟩ (kCut_2 G 3 28 rfl rfl (by decide) (by subst e9; rfl)) rfl hl.1 rfl (Nat.le_of_ble_eq_true rfl) dX2_copyFrom_8 ⟨Nat.le_of_ble_eq_true rfl, Nat.le_of_ble_eq_true rfl⟩ (cN := 0) (sN := 0) ⟨rfl, rfl⟩ (fun H locs G => ?_)
  clear e9
  refine lv_aload_n F.1 F.2.1 dX2_copyFrom_11 rfl (lv_at hl 1 rfl) ?_
  refine k_get F G 2 rfl (N := 9) (Tt := TX2) rfl kf2 2 (by decide) kl6 (v := .ref (aQ 4)) rfl dX2_copyFrom_12 ?_
  refine lv_aload_n F.1 F.2.1 dX2_copyFrom_15 rfl (lv_at hl 0 rfl) ?_
  refine k_get F G 27 rfl (N := 9) (Tt := TX2) rfl kf2 2 (by decide) kl6 (v := .ref (aZ 4)) rfl dX2_copyFrom_16 ?_
  obtain ⟨w2_2, e9, h⟩ := op_st h
  refine k_callSN (rv := none) (Wc := (gB T (aQ 4) (aZ 4) 12 (w 11) (w2_1 11))) (W2 := (gB T (aQ 4) (aZ 4) 12 (w 11) (kcpy 12 (w 11) (w2_1 11)))) (Wn := (gWW T aP aQ aZ w w2_2)) (As := [.ref (aQ 4), .ref (aZ 4)]) (rest := []) F G (mX10_copyRow l D T (aQ 4) (aZ 4) 12 (w 11) (w2_1 11) (by decide)) ⟨va_cnB 2 F.2.2.2.2 (kg_c kl67 kg_a) rfl rfl rfl (k_nest G 4 rfl) (F.2.2.2.2 _ kl80) (by decide +kernel) ⟨Nat.le_of_ble_eq_true rfl, Nat.le_of_ble_eq_true rfl⟩, F.2.2.2.2 _ kl79⟩ (kCut_2 G 4 29 rfl rfl (by decide) (by subst e9; rfl)) rfl hl.1 rfl (Nat.le_of_ble_eq_true rfl) dX2_copyFrom_19 ⟨Nat.le_of_ble_eq_true rfl, Nat.le_of_ble_eq_true rfl⟩ (cN := 0) (sN := 0) ⟨rfl, rfl⟩ (fun H locs G => ?_)
  clear e9
  refine lv_aload_n F.1 F.2.1 dX2_copyFrom_22 rfl (lv_at hl 1 rfl) ?_
  refine k_get F G 2 rfl (N := 9) (Tt := TX2) rfl kf2 3 (by decide) kl7 (v := .ref (aQ 5)) rfl dX2_copyFrom_23 ?_
  refine lv_aload_n F.1 F.2.1 dX2_copyFrom_26 rfl (lv_at hl 0 rfl) ?_
  refine k_get F G 27 rfl (N := 9) (Tt := TX2) rfl kf2 3 (by decide) kl7 (v := .ref (aZ 5)) rfl dX2_copyFrom_27 ?_
  obtain ⟨w2_3, e9, h⟩ := op_st h
  refine k_callSN (rv := none) (Wc := (gB T (aQ 5) (aZ 5) 12 (w 12) (w2_2 12))) (W2 := (gB T (aQ 5) (aZ 5) 12 (w 12) (kcpy 12 (w 12) (w2_2 12)))) (Wn := (gWW T aP aQ aZ w w2_3)) (As := [.ref (aQ 5), .ref (aZ 5)]) (rest := []) F G (mX10_copyRow l D T (aQ 5) (aZ 5) 12 (w 12) (w2_2 12) (by decide)) ⟨va_cnB 2 F.2.2.2.2 (kg_c kl67 kg_a) rfl rfl rfl (k_nest G 4 rfl) (F.2.2.2.2 _ kl80) (by decide +kernel) ⟨Nat.le_of_ble_eq_true rfl, Nat.le_of_ble_eq_true rfl⟩, F.2.2.2.2 _ kl79⟩ (kCut_2 G 5 30 rfl rfl (by decide) (by subst e9; rfl)) rfl hl.1 rfl (Nat.le_of_ble_eq_true rfl) dX2_copyFrom_30 ⟨Nat.le_of_ble_eq_true rfl, Nat.le_of_ble_eq_true rfl⟩ (cN := 0) (sN := 0) ⟨rfl, rfl⟩ (fun H locs G => ?_)
  clear e9
  refine lv_aload_n F.1 F.2.1 dX2_copyFrom_33 rfl (lv_at hl 1 rfl) ?_
  refine k_get F G 2 rfl (N := 9) (Tt := TX2) rfl kf2 4 (by decide) kl8 (v := .ref (aQ 6)) rfl dX2_copyFrom_34 ?_
  refine lv_aload_n F.1 F.2.1 dX2_copyFrom_37 rfl (lv_at hl 0 rfl) ?_
  refine k_get F G 27 rfl (N := 9) (Tt := TX2) rfl kf2 4 (by decide) kl8 (v := .ref (aZ 6)) rfl dX2_copyFrom_38 ?_
  obtain ⟨w2_4, e9, h⟩ := op_st h
  refine k_callSN (rv := none) (Wc := (gB T (aQ 6) (aZ 6) 12 (w 13) (w2_3 13))) (W2 := (gB T (aQ 6) (aZ 6) 12 (w 13) (kcpy 12 (w 13) (w2_3 13)))) (Wn := (gWW T aP aQ aZ w w2_4)) (As := [.ref (aQ 6), .ref (aZ 6)]) (rest := []) F G (mX10_copyRow l D T (aQ 6) (aZ 6) 12 (w 13) (w2_3 13) (by decide)) ⟨va_cnB 2 F.2.2.2.2 (kg_c kl67 kg_a) rfl rfl rfl (k_nest G 4 rfl) (F.2.2.2.2 _ kl80) (by decide +kernel) ⟨Nat.le_of_ble_eq_true rfl, Nat.le_of_ble_eq_true rfl⟩, F.2.2.2.2 _ kl79⟩ (kCut_2 G 6 31 rfl rfl (by decide) (by subst e9; rfl)) rfl hl.1 rfl (Nat.le_of_ble_eq_true rfl) dX2_copyFrom_41 ⟨Nat.le_of_ble_eq_true rfl, Nat.le_of_ble_eq_true rfl⟩ (cN := 0) (sN := 0) ⟨rfl, rfl⟩ (fun H locs G => ?_)
  clear e9
  refine lv_aload_n F.1 F.2.1 dX2_copyFrom_44 rfl (lv_at hl 1 rfl) ?_
  refine k_get F G 2 rfl (N := 9) (Tt := TX2) rfl kf2 5 (by decide) kl9 (v := .ref (aQ 7)) rfl dX2_copyFrom_45 ?_
  refine lv_aload_n F.1 F.2.1 dX2_copyFrom_48 rfl (lv_at hl 0 rfl) ?_
  refine k_get F G 27 rfl (N := 9) (Tt := TX2) rfl kf2 5 (by decide) kl9 (v := .ref (aZ 7)) rfl dX2_copyFrom_49 ?_
  obtain ⟨w2_5, e9, h⟩ := op_st h
  refine k_callSN (rv := none) (Wc := (gB T (aQ 7) (aZ 7) 12 (w 14) (w2_4 14))) (W2 := (gB T (aQ 7) (aZ 7) 12 (w 14) (kcpy 12 (w 14) (w2_4 14)))) (Wn := (gWW T aP aQ aZ w w2_5)) (As := [.ref (aQ 7), .ref (aZ 7)]) (rest := []) F G (mX10_copyRow l D T (aQ 7) (aZ 7) 12 (w 14) (w2_4 14) (by decide)) ⟨va_cnB 2 F.2.2.2.2 (kg_c kl67 kg_a) rfl rfl rfl (k_nest G 4 rfl) (F.2.2.2.2 _ kl80) (by decide +kernel) ⟨Nat.le_of_ble_eq_true rfl, Nat.le_of_ble_eq_true rfl⟩, F.2.2.2.2 _ kl79⟩ (kCut_2 G 7 32 rfl rfl (by decide) (by subst e9; rfl)) rfl hl.1 rfl (Nat.le_of_ble_eq_true rfl) dX2_copyFrom_52 ⟨Nat.le_of_ble_eq_true rfl, Nat.le_of_ble_eq_true rfl⟩ (cN := 0) (sN := 0) ⟨rfl, rfl⟩ (fun H locs G => ?_)
  clear e9
  refine lv_aload_n F.1 F.2.1 dX2_copyFrom_55 rfl (lv_at hl 1 rfl) ?_
  refine k_get F G 2 rfl (N := 9) (Tt := TX2) rfl kf2 6 (by decide) kl10 (v := .ref (aQ 8)) rfl dX2_copyFrom_56 ?_
  refine lv_aload_n F.1 F.2.1 dX2_copyFrom_59 rfl (lv_at hl 0 rfl) ?_
  refine k_get F G 27 rfl (N := 9) (Tt := TX2) rfl kf2 6 (by decide) kl10 (v := .ref (aZ 8)) rfl dX2_copyFrom_60 ?_
  obtain ⟨w2_6, e9, h⟩ := op_st h
  refine k_callSN (rv := none) (Wc := (gB T (aQ 8) (aZ 8) 12 (w 15) (w2_5 15))) (W2 := (gB T (aQ 8) (aZ 8) 12 (w 15) (kcpy 12 (w 15) (w2_5 15)))) (Wn := (gWW T aP aQ aZ w w2_6)) (As := [.ref (aQ 8), .ref (aZ 8)]) (rest := []) F G (mX10_copyRow l D T (aQ 8) (aZ 8) 12 (w 15) (w2_5 15) (by decide)) ⟨va_cnB 2 F.2.2.2.2 (kg_c kl67 kg_a) rfl rfl rfl (k_nest G 4 rfl) (F.2.2.2.2 _ kl80) (by decide +kernel) ⟨Nat.le_of_ble_eq_true rfl, Nat.le_of_ble_eq_true rfl⟩, F.2.2.2.2 _ kl79⟩ (kCut_2 G 8 33 rfl rfl (by decide) (by subst e9; rfl)) rfl hl.1 rfl (Nat.le_of_ble_eq_true rfl) dX2_copyFrom_63 ⟨Nat.le_of_ble_eq_true rfl, Nat.le_of_ble_eq_true rfl⟩ (cN := 0) (sN := 0) ⟨rfl, rfl⟩ (fun H locs G => ?_)
  clear e9
  refine lv_aload_n F.1 F.2.1 dX2_copyFrom_66 rfl (lv_at hl 0 rfl) ?_
  refine lv_aload_n F.1 F.2.1 dX2_copyFrom_67 rfl (lv_at hl 1 rfl) ?_
  refine k_get F G 2 rfl (N := 9) (Tt := TX2) rfl kf2 7 (by decide) kl77 (v := .int (w 16 0)) rfl dX2_copyFrom_68 ?_
  obtain ⟨w2_7, e9, h⟩ := op_st h
  refine k_put F G 27 rfl (N := 9) (Tt := TX2) rfl kf2 tyX2_ok nmX2 7 (by decide) kl77 rfl (v := .int (w 16 0)) rfl rfl (Nat.le_of_ble_eq_true rfl) dX2_copyFrom_71 (Wn := (gWW T aP aQ aZ w w2_7)) (by subst e9; rfl) (fun H locs G => ?_)
  clear e9
  refine lv_aload_n F.1 F.2.1 dX2_copyFrom_74 rfl (lv_at hl 0 rfl) ?_
  refine lv_aload_n F.1 F.2.1 dX2_copyFrom_75 rfl (lv_at hl 1 rfl) ?_
  refine k_get F G 2 rfl (N := 9) (Tt := TX2) rfl kf2 8 (by decide) kl78 (v := .int (w 17 0)) rfl dX2_copyFrom_76 ?_
  obtain ⟨w2_8, e9, h⟩ := op_st h
  refine k_put F G 27 rfl (N := 9) (Tt := TX2) rfl kf2 tyX2_ok nmX2 8 (by decide) kl78 rfl (v := .int (w 17 0)) rfl rfl (Nat.le_of_ble_eq_true rfl) dX2_copyFrom_79 (Wn := (gWW T aP aQ aZ w w2_8)) (by subst e9; rfl) (fun H locs G => ?_)
  clear e9
  obtain rfl := op_1 h
  exact k_vret F hr hlk G dX2_copyFrom_82
abbrev rmX3_copyFrom : Room := ({ frames := 3, cells := 0, slots := 0, locals := 62 } : Room)
noncomputable def qX3_copyFrom (w : Nat → Nat → Int32) (w2 : Nat → Nat → Int32) : Option ((Nat → Nat → Int32)) :=
  (bs (va_up w2 18 (kcpy 12 (w 18) (w2 18))) fun w2_1 => (bs (va_up w2_1 19 (kcpy 12 (w 19) (w2_1 19))) fun w2_2 => (bs (va_up w2_2 20 (kcpy 12 (w 20) (w2_2 20))) fun w2_3 => (bs (va_up w2_3 21 (fun _ => (w 21 0))) fun w2_4 => bd (qX1_copyFrom_l w w2_4) fun w2_5 => bd (qX1_copyFrom_p w w2_5) fun w2_6 => some w2_6))))

set_option maxHeartbeats 4000000 in
set_option maxRecDepth 100000 in
theorem mX3_copyFrom (l : Launch) (D : va_G) (T : Nat → ClassId) (aP : Nat → Nat) (aQ : Nat → Nat) (aZ : Nat → Nat) (w : Nat → Nat → Int32) (w2 : Nat → Nat → Int32) {w2R : Nat → Nat → Int32} (hres : qX3_copyFrom w w2 = some (w2R)) : Ct l yX3_copyFrom (Cond.code yX3_copyFrom cX3_copyFrom 2 none :: kAll) rmX3_copyFrom D T [.ref (aZ 9), .ref (aQ 9)] (gWW T aP aQ aZ w w2) none (gWW T aP aQ aZ w w2R) := by
  refine Ct.of (cc := cX3_copyFrom) (maxL := 2) (ret := none) (by decide +kernel) rfl (Nat.le_of_ble_eq_true rfl) ?_
  intro pr en st mi ag bl me co A ls F hr hlk hnm G hl
  have hl : lv_has ls 2 [(0, .ref (aZ 9)), (1, .ref (aQ 9))] := hl
  have h := hres
  unfold qX3_copyFrom at h
  refine lv_aload_n F.1 F.2.1 dX3_copyFrom_0 rfl (lv_at hl 1 rfl) ?_
  refine k_get F G 9 rfl (N := 7) (Tt := TX3) rfl kf3 1 (by decide) kl18 (v := .ref (aQ 10)) rfl dX3_copyFrom_1 ?_
  refine lv_aload_n F.1 F.2.1 dX3_copyFrom_4 rfl (lv_at hl 0 rfl) ?_
  refine k_get F G 34 rfl (N := 7) (Tt := TX3) rfl kf3 1 (by decide) kl18 (v := .ref (aZ 10)) rfl dX3_copyFrom_5 ?_
  obtain ⟨w2_1, e9, h⟩ := op_st h
  refine k_callSN (rv := none) (Wc := (gB T (aQ 10) (aZ 10) 12 (w 18) (w2 18))) (W2 := (gB T (aQ 10) (aZ 10) 12 (w 18) (kcpy 12 (w 18) (w2 18)))) (Wn := (gWW T aP aQ aZ w w2_1)) (As := [.ref (aQ 10), .ref (aZ 10)]) (rest := []) F G (mX10_copyRow l D T (aQ 10) (aZ 10) 12 (w 18) (w2 18) (by decide)) ⟨va_cnB 2 F.2.2.2.2 (kg_c kl67 kg_a) rfl rfl rfl (k_nest G 7 rfl) (F.2.2.2.2 _ kl80) (by decide +kernel) ⟨Nat.le_of_ble_eq_true rfl, Nat.le_of_ble_eq_true rfl⟩, F.2.2.2.2 _ kl79⟩ (kCut_2 G 10 35 rfl rfl (by decide) (by subst e9; rfl)) rfl hl.1 rfl (Nat.le_of_ble_eq_true rfl) dX3_copyFrom_8 ⟨Nat.le_of_ble_eq_true rfl, Nat.le_of_ble_eq_true rfl⟩ (cN := 0) (sN := 0) ⟨rfl, rfl⟩ (fun H locs G => ?_)
  clear e9
  refine lv_aload_n F.1 F.2.1 dX3_copyFrom_11 rfl (lv_at hl 1 rfl) ?_
  refine k_get F G 9 rfl (N := 7) (Tt := TX3) rfl kf3 2 (by decide) kl19 (v := .ref (aQ 11)) rfl dX3_copyFrom_12 ?_
  refine lv_aload_n F.1 F.2.1 dX3_copyFrom_15 rfl (lv_at hl 0 rfl) ?_
  refine k_get F G 34 rfl (N := 7) (Tt := TX3) rfl kf3 2 (by decide) kl19 (v := .ref (aZ 11)) rfl dX3_copyFrom_16 ?_
  obtain ⟨w2_2, e9, h⟩ := op_st h
  refine k_callSN (rv := none) (Wc := (gB T (aQ 11) (aZ 11) 12 (w 19) (w2_1 19))) (W2 := (gB T (aQ 11) (aZ 11) 12 (w 19) (kcpy 12 (w 19) (w2_1 19)))) (Wn := (gWW T aP aQ aZ w w2_2)) (As := [.ref (aQ 11), .ref (aZ 11)]) (rest := []) F G (mX10_copyRow l D T (aQ 11) (aZ 11) 12 (w 19) (w2_1 19) (by decide)) ⟨va_cnB 2 F.2.2.2.2 (kg_c kl67 kg_a) rfl rfl rfl (k_nest G 7 rfl) (F.2.2.2.2 _ kl80) (by decide +kernel) ⟨Nat.le_of_ble_eq_true rfl, Nat.le_of_ble_eq_true rfl⟩, F.2.2.2.2 _ kl79⟩ (kCut_2 G 11 36 rfl rfl (by decide) (by subst e9; rfl)) rfl hl.1 rfl (Nat.le_of_ble_eq_true rfl) dX3_copyFrom_19 ⟨Nat.le_of_ble_eq_true rfl, Nat.le_of_ble_eq_true rfl⟩ (cN := 0) (sN := 0) ⟨rfl, rfl⟩ (fun H locs G => ?_)
  clear e9
  refine lv_aload_n F.1 F.2.1 dX3_copyFrom_22 rfl (lv_at hl 1 rfl) ?_
  refine k_get F G 9 rfl (N := 7) (Tt := TX3) rfl kf3 3 (by decide) kl20 (v := .ref (aQ 12)) rfl dX3_copyFrom_23 ?_
  refine lv_aload_n F.1 F.2.1 dX3_copyFrom_26 rfl (lv_at hl 0 rfl) ?_
  refine k_get F G 34 rfl (N := 7) (Tt := TX3) rfl kf3 3 (by decide) kl20 (v := .ref (aZ 12)) rfl dX3_copyFrom_27 ?_
  obtain ⟨w2_3, e9, h⟩ := op_st h
  refine k_callSN (rv := none) (Wc := (gB T (aQ 12) (aZ 12) 12 (w 20) (w2_2 20))) (W2 := (gB T (aQ 12) (aZ 12) 12 (w 20) (kcpy 12 (w 20) (w2_2 20)))) (Wn := (gWW T aP aQ aZ w w2_3)) (As := [.ref (aQ 12), .ref (aZ 12)]) (rest := []) F G (mX10_copyRow l D T (aQ 12) (aZ 12) 12 (w 20) (w2_2 20) (by decide)) ⟨va_cnB 2 F.2.2.2.2 (kg_c kl67 kg_a) rfl rfl rfl (k_nest G 7 rfl) (F.2.2.2.2 _ kl80) (by decide +kernel) ⟨Nat.le_of_ble_eq_true rfl, Nat.le_of_ble_eq_true rfl⟩, F.2.2.2.2 _ kl79⟩ (kCut_2 G 12 37 rfl rfl (by decide) (by subst e9; rfl)) rfl hl.1 rfl (Nat.le_of_ble_eq_true rfl) dX3_copyFrom_30 ⟨Nat.le_of_ble_eq_true rfl, Nat.le_of_ble_eq_true rfl⟩ (cN := 0) (sN := 0) ⟨rfl, rfl⟩ (fun H locs G => ?_)
  clear e9
  refine lv_aload_n F.1 F.2.1 dX3_copyFrom_33 rfl (lv_at hl 0 rfl) ?_
  refine lv_aload_n F.1 F.2.1 dX3_copyFrom_34 rfl (lv_at hl 1 rfl) ?_
  refine k_get F G 9 rfl (N := 7) (Tt := TX3) rfl kf3 4 (by decide) kl84 (v := .int (w 21 0)) rfl dX3_copyFrom_35 ?_
  obtain ⟨w2_4, e9, h⟩ := op_st h
  refine k_put F G 34 rfl (N := 7) (Tt := TX3) rfl kf3 tyX3_ok nmX3 4 (by decide) kl84 rfl (v := .int (w 21 0)) rfl rfl (Nat.le_of_ble_eq_true rfl) dX3_copyFrom_38 (Wn := (gWW T aP aQ aZ w w2_4)) (by subst e9; rfl) (fun H locs G => ?_)
  clear e9
  refine lv_aload_n F.1 F.2.1 dX3_copyFrom_41 rfl (lv_at hl 0 rfl) ?_
  refine k_get F G 34 rfl (N := 7) (Tt := TX3) rfl kf3 5 (by decide) kl24 (v := .ref (aZ 13)) rfl dX3_copyFrom_42 ?_
  refine lv_aload_n F.1 F.2.1 dX3_copyFrom_45 rfl (lv_at hl 1 rfl) ?_
  refine k_get F G 9 rfl (N := 7) (Tt := TX3) rfl kf3 5 (by decide) kl24 (v := .ref (aQ 13)) rfl dX3_copyFrom_46 ?_
  obtain ⟨w2_5, hc, h⟩ := op_b h
  refine k_callV (rv := none) (Wc := (gWW T aP aQ aZ w w2_4)) (W2 := (gWW T aP aQ aZ w w2_5)) (Wn := (gWW T aP aQ aZ w w2_5)) (As := [.ref (aQ 13)]) (rest := []) F G (mX1_copyFrom_l l D T aP aQ aZ w w2_4 hc) (cwV 1 F.2.2.2.2 (kg_c kl85 (kg_c kl86 (kg_c kl87 (kg_c kl23 (kg_c kl81 kg_a))))) rfl rfl rfl (by decide +kernel) ⟨Nat.le_of_ble_eq_true rfl, Nat.le_of_ble_eq_true rfl⟩) 38 rfl (q := (RX1, TX1, 3)) rfl rfl (kCut_F G) rfl hl.1 rfl (Nat.le_of_ble_eq_true rfl) dX3_copyFrom_49 ⟨Nat.le_of_ble_eq_true rfl, Nat.le_of_ble_eq_true rfl⟩ (cN := 0) (sN := 0) ⟨rfl, rfl⟩ (fun H locs G => ?_)
  refine lv_aload_n F.1 F.2.1 dX3_copyFrom_52 rfl (lv_at hl 0 rfl) ?_
  refine k_get F G 34 rfl (N := 7) (Tt := TX3) rfl kf3 6 (by decide) kl25 (v := .ref (aZ 16)) rfl dX3_copyFrom_53 ?_
  refine lv_aload_n F.1 F.2.1 dX3_copyFrom_56 rfl (lv_at hl 1 rfl) ?_
  refine k_get F G 9 rfl (N := 7) (Tt := TX3) rfl kf3 6 (by decide) kl25 (v := .ref (aQ 16)) rfl dX3_copyFrom_57 ?_
  obtain ⟨w2_6, hc, h⟩ := op_b h
  refine k_callV (rv := none) (Wc := (gWW T aP aQ aZ w w2_5)) (W2 := (gWW T aP aQ aZ w w2_6)) (Wn := (gWW T aP aQ aZ w w2_6)) (As := [.ref (aQ 16)]) (rest := []) F G (mX1_copyFrom_p l D T aP aQ aZ w w2_5 hc) (cwV 1 F.2.2.2.2 (kg_c kl85 (kg_c kl86 (kg_c kl87 (kg_c kl23 (kg_c kl81 kg_a))))) rfl rfl rfl (by decide +kernel) ⟨Nat.le_of_ble_eq_true rfl, Nat.le_of_ble_eq_true rfl⟩) 41 rfl (q := (RX1, TX1, 3)) rfl rfl (kCut_F G) rfl hl.1 rfl (Nat.le_of_ble_eq_true rfl) dX3_copyFrom_60 ⟨Nat.le_of_ble_eq_true rfl, Nat.le_of_ble_eq_true rfl⟩ (cN := 0) (sN := 0) ⟨rfl, rfl⟩ (fun H locs G => ?_)
  obtain rfl := op_1 h
  exact k_vret F hr hlk G dX3_copyFrom_63
abbrev rmX8_copyFrom : Room := ({ frames := 2, cells := 0, slots := 0, locals := 41 } : Room)
noncomputable def qX8_copyFrom (w : Nat → Nat → Int32) (w2 : Nat → Nat → Int32) : Option ((Nat → Nat → Int32)) :=
  (bs (va_up w2 28 (kcpy 72 (w 28) (w2 28))) fun w2_1 => (bs (va_up w2_1 29 (kcpy 72 (w 29) (w2_1 29))) fun w2_2 => (bs (va_up w2_2 30 (kcpy 72 (w 30) (w2_2 30))) fun w2_3 => (bs (va_up w2_3 31 (fun _ => (w 31 0))) fun w2_4 => (bs (va_up w2_4 32 (kcpy 6 (w 32) (w2_4 32))) fun w2_5 => (bs (va_up w2_5 33 (kcpy 6 (w 33) (w2_5 33))) fun w2_6 => (bs (va_up w2_6 34 (fun _ => (w 34 0))) fun w2_7 => gd (narrow .boolean (.int (w 35 0)) = .int (w 35 0) ∧ fits .boolean (.int (w 35 0)) = true) (bs (va_up w2_7 35 (fun _ => (w 35 0))) fun w2_8 => some w2_8))))))))

set_option maxHeartbeats 4000000 in
set_option maxRecDepth 100000 in
theorem mX8_copyFrom (l : Launch) (D : va_G) (T : Nat → ClassId) (aP : Nat → Nat) (aQ : Nat → Nat) (aZ : Nat → Nat) (w : Nat → Nat → Int32) (w2 : Nat → Nat → Int32) {w2R : Nat → Nat → Int32} (hres : qX8_copyFrom w w2 = some (w2R)) : Ct l yX8_copyFrom (Cond.code yX8_copyFrom cX8_copyFrom 2 none :: kAll) rmX8_copyFrom D T [.ref (aZ 19), .ref (aQ 19)] (gWW T aP aQ aZ w w2) none (gWW T aP aQ aZ w w2R) := by
  refine Ct.of (cc := cX8_copyFrom) (maxL := 2) (ret := none) (by decide +kernel) rfl (Nat.le_of_ble_eq_true rfl) ?_
  intro pr en st mi ag bl me co A ls F hr hlk hnm G hl
  have hl : lv_has ls 2 [(0, .ref (aZ 19)), (1, .ref (aQ 19))] := hl
  have h := hres
  unfold qX8_copyFrom at h
  refine lv_aload_n F.1 F.2.1 dX8_copyFrom_0 rfl (lv_at hl 1 rfl) ?_
  refine k_get F G 19 rfl (N := 9) (Tt := TX8) rfl kf8 1 (by decide) kl30 (v := .ref (aQ 20)) rfl dX8_copyFrom_1 ?_
  refine lv_aload_n F.1 F.2.1 dX8_copyFrom_4 rfl (lv_at hl 0 rfl) ?_
  refine k_get F G 44 rfl (N := 9) (Tt := TX8) rfl kf8 1 (by decide) kl30 (v := .ref (aZ 20)) rfl dX8_copyFrom_5 ?_
  obtain ⟨w2_1, e9, h⟩ := op_st h
  refine k_callSN (rv := none) (Wc := (gB T (aQ 20) (aZ 20) 72 (w 28) (w2 28))) (W2 := (gB T (aQ 20) (aZ 20) 72 (w 28) (kcpy 72 (w 28) (w2 28)))) (Wn := (gWW T aP aQ aZ w w2_1)) (As := [.ref (aQ 20), .ref (aZ 20)]) (rest := []) F G (mX10_copyRow l D T (aQ 20) (aZ 20) 72 (w 28) (w2 28) (by decide)) ⟨va_cnB 2 F.2.2.2.2 (kg_c kl67 kg_a) rfl rfl rfl (k_nest G 11 rfl) (F.2.2.2.2 _ kl80) (by decide +kernel) ⟨Nat.le_of_ble_eq_true rfl, Nat.le_of_ble_eq_true rfl⟩, F.2.2.2.2 _ kl79⟩ (kCut_2 G 20 45 rfl rfl (by decide) (by subst e9; rfl)) rfl hl.1 rfl (Nat.le_of_ble_eq_true rfl) dX8_copyFrom_8 ⟨Nat.le_of_ble_eq_true rfl, Nat.le_of_ble_eq_true rfl⟩ (cN := 0) (sN := 0) ⟨rfl, rfl⟩ (fun H locs G => ?_)
  clear e9
  refine lv_aload_n F.1 F.2.1 dX8_copyFrom_11 rfl (lv_at hl 1 rfl) ?_
  refine k_get F G 19 rfl (N := 9) (Tt := TX8) rfl kf8 2 (by decide) kl31 (v := .ref (aQ 21)) rfl dX8_copyFrom_12 ?_
  refine lv_aload_n F.1 F.2.1 dX8_copyFrom_15 rfl (lv_at hl 0 rfl) ?_
  refine k_get F G 44 rfl (N := 9) (Tt := TX8) rfl kf8 2 (by decide) kl31 (v := .ref (aZ 21)) rfl dX8_copyFrom_16 ?_
  obtain ⟨w2_2, e9, h⟩ := op_st h
  refine k_callSN (rv := none) (Wc := (gB T (aQ 21) (aZ 21) 72 (w 29) (w2_1 29))) (W2 := (gB T (aQ 21) (aZ 21) 72 (w 29) (kcpy 72 (w 29) (w2_1 29)))) (Wn := (gWW T aP aQ aZ w w2_2)) (As := [.ref (aQ 21), .ref (aZ 21)]) (rest := []) F G (mX10_copyRow l D T (aQ 21) (aZ 21) 72 (w 29) (w2_1 29) (by decide)) ⟨va_cnB 2 F.2.2.2.2 (kg_c kl67 kg_a) rfl rfl rfl (k_nest G 11 rfl) (F.2.2.2.2 _ kl80) (by decide +kernel) ⟨Nat.le_of_ble_eq_true rfl, Nat.le_of_ble_eq_true rfl⟩, F.2.2.2.2 _ kl79⟩ (kCut_2 G 21 46 rfl rfl (by decide) (by subst e9; rfl)) rfl hl.1 rfl (Nat.le_of_ble_eq_true rfl) dX8_copyFrom_19 ⟨Nat.le_of_ble_eq_true rfl, Nat.le_of_ble_eq_true rfl⟩ (cN := 0) (sN := 0) ⟨rfl, rfl⟩ (fun H locs G => ?_)
  clear e9
  refine lv_aload_n F.1 F.2.1 dX8_copyFrom_22 rfl (lv_at hl 1 rfl) ?_
  refine k_get F G 19 rfl (N := 9) (Tt := TX8) rfl kf8 3 (by decide) kl32 (v := .ref (aQ 22)) rfl dX8_copyFrom_23 ?_
  refine lv_aload_n F.1 F.2.1 dX8_copyFrom_26 rfl (lv_at hl 0 rfl) ?_
  refine k_get F G 44 rfl (N := 9) (Tt := TX8) rfl kf8 3 (by decide) kl32 (v := .ref (aZ 22)) rfl dX8_copyFrom_27 ?_
  obtain ⟨w2_3, e9, h⟩ := op_st h
  refine k_callSN (rv := none) (Wc := (gB T (aQ 22) (aZ 22) 72 (w 30) (w2_2 30))) (W2 := (gB T (aQ 22) (aZ 22) 72 (w 30) (kcpy 72 (w 30) (w2_2 30)))) (Wn := (gWW T aP aQ aZ w w2_3)) (As := [.ref (aQ 22), .ref (aZ 22)]) (rest := []) F G (mX10_copyRow l D T (aQ 22) (aZ 22) 72 (w 30) (w2_2 30) (by decide)) ⟨va_cnB 2 F.2.2.2.2 (kg_c kl67 kg_a) rfl rfl rfl (k_nest G 11 rfl) (F.2.2.2.2 _ kl80) (by decide +kernel) ⟨Nat.le_of_ble_eq_true rfl, Nat.le_of_ble_eq_true rfl⟩, F.2.2.2.2 _ kl79⟩ (kCut_2 G 22 47 rfl rfl (by decide) (by subst e9; rfl)) rfl hl.1 rfl (Nat.le_of_ble_eq_true rfl) dX8_copyFrom_30 ⟨Nat.le_of_ble_eq_true rfl, Nat.le_of_ble_eq_true rfl⟩ (cN := 0) (sN := 0) ⟨rfl, rfl⟩ (fun H locs G => ?_)
  clear e9
  refine lv_aload_n F.1 F.2.1 dX8_copyFrom_33 rfl (lv_at hl 0 rfl) ?_
  refine lv_aload_n F.1 F.2.1 dX8_copyFrom_34 rfl (lv_at hl 1 rfl) ?_
  refine k_get F G 19 rfl (N := 9) (Tt := TX8) rfl kf8 4 (by decide) kl89 (v := .int (w 31 0)) rfl dX8_copyFrom_35 ?_
  obtain ⟨w2_4, e9, h⟩ := op_st h
  refine k_put F G 44 rfl (N := 9) (Tt := TX8) rfl kf8 tyX8_ok nmX8 4 (by decide) kl89 rfl (v := .int (w 31 0)) rfl rfl (Nat.le_of_ble_eq_true rfl) dX8_copyFrom_38 (Wn := (gWW T aP aQ aZ w w2_4)) (by subst e9; rfl) (fun H locs G => ?_)
  clear e9
  refine lv_aload_n F.1 F.2.1 dX8_copyFrom_41 rfl (lv_at hl 1 rfl) ?_
  refine k_get F G 19 rfl (N := 9) (Tt := TX8) rfl kf8 5 (by decide) kl33 (v := .ref (aQ 23)) rfl dX8_copyFrom_42 ?_
  refine lv_aload_n F.1 F.2.1 dX8_copyFrom_45 rfl (lv_at hl 0 rfl) ?_
  refine k_get F G 44 rfl (N := 9) (Tt := TX8) rfl kf8 5 (by decide) kl33 (v := .ref (aZ 23)) rfl dX8_copyFrom_46 ?_
  obtain ⟨w2_5, e9, h⟩ := op_st h
  refine k_callSN (rv := none) (Wc := (gB T (aQ 23) (aZ 23) 6 (w 32) (w2_4 32))) (W2 := (gB T (aQ 23) (aZ 23) 6 (w 32) (kcpy 6 (w 32) (w2_4 32)))) (Wn := (gWW T aP aQ aZ w w2_5)) (As := [.ref (aQ 23), .ref (aZ 23)]) (rest := []) F G (mX10_copyRow l D T (aQ 23) (aZ 23) 6 (w 32) (w2_4 32) (by decide)) ⟨va_cnB 2 F.2.2.2.2 (kg_c kl67 kg_a) rfl rfl rfl (k_nest G 11 rfl) (F.2.2.2.2 _ kl80) (by decide +kernel) ⟨Nat.le_of_ble_eq_true rfl, Nat.le_of_ble_eq_true rfl⟩, F.2.2.2.2 _ kl79⟩ (kCut_2 G 23 48 rfl rfl (by decide) (by subst e9; rfl)) rfl hl.1 rfl (Nat.le_of_ble_eq_true rfl) dX8_copyFrom_49 ⟨Nat.le_of_ble_eq_true rfl, Nat.le_of_ble_eq_true rfl⟩ (cN := 0) (sN := 0) ⟨rfl, rfl⟩ (fun H locs G => ?_)
  clear e9
  refine lv_aload_n F.1 F.2.1 dX8_copyFrom_52 rfl (lv_at hl 1 rfl) ?_
  refine k_get F G 19 rfl (N := 9) (Tt := TX8) rfl kf8 6 (by decide) kl34 (v := .ref (aQ 24)) rfl dX8_copyFrom_53 ?_
  refine lv_aload_n F.1 F.2.1 dX8_copyFrom_56 rfl (lv_at hl 0 rfl) ?_
  refine k_get F G 44 rfl (N := 9) (Tt := TX8) rfl kf8 6 (by decide) kl34 (v := .ref (aZ 24)) rfl dX8_copyFrom_57 ?_
  obtain ⟨w2_6, e9, h⟩ := op_st h
  refine k_callSN (rv := none) (Wc := (gB T (aQ 24) (aZ 24) 6 (w 33) (w2_5 33))) (W2 := (gB T (aQ 24) (aZ 24) 6 (w 33) (kcpy 6 (w 33) (w2_5 33)))) (Wn := (gWW T aP aQ aZ w w2_6)) (As := [.ref (aQ 24), .ref (aZ 24)]) (rest := []) F G (mX10_copyRow l D T (aQ 24) (aZ 24) 6 (w 33) (w2_5 33) (by decide)) ⟨va_cnB 2 F.2.2.2.2 (kg_c kl67 kg_a) rfl rfl rfl (k_nest G 11 rfl) (F.2.2.2.2 _ kl80) (by decide +kernel) ⟨Nat.le_of_ble_eq_true rfl, Nat.le_of_ble_eq_true rfl⟩, F.2.2.2.2 _ kl79⟩ (kCut_2 G 24 49 rfl rfl (by decide) (by subst e9; rfl)) rfl hl.1 rfl (Nat.le_of_ble_eq_true rfl) dX8_copyFrom_60 ⟨Nat.le_of_ble_eq_true rfl, Nat.le_of_ble_eq_true rfl⟩ (cN := 0) (sN := 0) ⟨rfl, rfl⟩ (fun H locs G => ?_)
  clear e9
  refine lv_aload_n F.1 F.2.1 dX8_copyFrom_63 rfl (lv_at hl 0 rfl) ?_
  refine lv_aload_n F.1 F.2.1 dX8_copyFrom_64 rfl (lv_at hl 1 rfl) ?_
  refine k_get F G 19 rfl (N := 9) (Tt := TX8) rfl kf8 7 (by decide) kl90 (v := .int (w 34 0)) rfl dX8_copyFrom_65 ?_
  obtain ⟨w2_7, e9, h⟩ := op_st h
  refine k_put F G 44 rfl (N := 9) (Tt := TX8) rfl kf8 tyX8_ok nmX8 7 (by decide) kl90 rfl (v := .int (w 34 0)) rfl rfl (Nat.le_of_ble_eq_true rfl) dX8_copyFrom_68 (Wn := (gWW T aP aQ aZ w w2_7)) (by subst e9; rfl) (fun H locs G => ?_)
  clear e9
  refine lv_aload_n F.1 F.2.1 dX8_copyFrom_71 rfl (lv_at hl 0 rfl) ?_
  refine lv_aload_n F.1 F.2.1 dX8_copyFrom_72 rfl (lv_at hl 1 rfl) ?_
  refine k_get F G 19 rfl (N := 9) (Tt := TX8) rfl kf8 8 (by decide) kl91 (v := .int (w 35 0)) rfl dX8_copyFrom_73 ?_
  obtain ⟨c, h⟩ := op_g h
  obtain ⟨w2_8, e9, h⟩ := op_st h
  refine k_put F G 44 rfl (N := 9) (Tt := TX8) rfl kf8 tyX8_ok nmX8 8 (by decide) kl91 rfl (v := .int (w 35 0)) c.1 c.2 (Nat.le_of_ble_eq_true rfl) dX8_copyFrom_76 (Wn := (gWW T aP aQ aZ w w2_8)) (by subst e9; rfl) (fun H locs G => ?_)
  clear e9
  obtain rfl := op_1 h
  exact k_vret F hr hlk G dX8_copyFrom_79
abbrev rmX10_copyState : Room := ({ frames := 4, cells := 0, slots := 0, locals := 83 } : Room)
noncomputable def qX10_copyState (w : Nat → Nat → Int32) (w2 : Nat → Nat → Int32) : Option ((Nat → Nat → Int32)) :=
  (bs (va_up w2 0 (fun _ => (w 0 0))) fun w2_1 => (bs (va_up w2_1 1 (fun _ => (w 1 0))) fun w2_2 => (bs (va_up w2_2 2 (fun _ => (w 2 0))) fun w2_3 => (bs (va_up w2_3 3 (fun _ => (w 3 0))) fun w2_4 => gd (narrow .boolean (.int (w 4 0)) = .int (w 4 0) ∧ fits .boolean (.int (w 4 0)) = true) (bs (va_up w2_4 4 (fun _ => (w 4 0))) fun w2_5 => (bs (va_up w2_5 5 (fun _ => (w 5 0))) fun w2_6 => (bs (va_up w2_6 6 (fun _ => (w 6 0))) fun w2_7 => (bs (va_up w2_7 7 (fun _ => (w 7 0))) fun w2_8 => bd (qX2_copyFrom w w2_8) fun w2_9 => bd (qX3_copyFrom w w2_9) fun w2_10 => bd (qX8_copyFrom w w2_10) fun w2_11 => some w2_11))))))))

set_option maxHeartbeats 4000000 in
set_option maxRecDepth 100000 in
theorem mX10_copyState (l : Launch) (D : va_G) (T : Nat → ClassId) (aP : Nat → Nat) (aQ : Nat → Nat) (aZ : Nat → Nat) (w : Nat → Nat → Int32) (w2 : Nat → Nat → Int32) {w2R : Nat → Nat → Int32} (hres : qX10_copyState w w2 = some (w2R)) : Ct l yX10_copyState (Cond.code yX10_copyState cX10_copyState 2 none :: kAll) rmX10_copyState D T [.ref (aQ 0), .ref (aZ 0)] (gWW T aP aQ aZ w w2) none (gWW T aP aQ aZ w w2R) := by
  refine Ct.of (cc := cX10_copyState) (maxL := 2) (ret := none) (by decide +kernel) rfl (Nat.le_of_ble_eq_true rfl) ?_
  intro pr en st mi ag bl me co A ls F hr hlk hnm G hl
  have hl : lv_has ls 2 [(0, .ref (aQ 0)), (1, .ref (aZ 0))] := hl
  have h := hres
  unfold qX10_copyState at h
  refine lv_aload_n F.1 F.2.1 dX10_copyState_0 rfl (lv_at hl 0 rfl) ?_
  refine lv_ifnull F.1 F.2.1 dX10_copyState_1 ?_
  refine lv_aload_n F.1 F.2.1 dX10_copyState_4 rfl (lv_at hl 1 rfl) ?_
  refine lv_ifnonnull (tgt := 9) F.1 F.2.1 dX10_copyState_5 (by decide) ?_
  refine lv_aload_n F.1 F.2.1 dX10_copyState_9 rfl (lv_at hl 1 rfl) ?_
  refine lv_aload_n F.1 F.2.1 dX10_copyState_10 rfl (lv_at hl 0 rfl) ?_
  refine k_get F G 0 rfl (N := 14) (Tt := TX9) rfl kf9 4 (by decide) kl93 (v := .int (w 0 0)) rfl dX10_copyState_11 ?_
  obtain ⟨w2_1, e9, h⟩ := op_st h
  refine k_put F G 25 rfl (N := 14) (Tt := TX9) rfl kf9 tyX9_ok nmX9 4 (by decide) kl93 rfl (v := .int (w 0 0)) rfl rfl (Nat.le_of_ble_eq_true rfl) dX10_copyState_14 (Wn := (gWW T aP aQ aZ w w2_1)) (by subst e9; rfl) (fun H locs G => ?_)
  clear e9
  refine lv_aload_n F.1 F.2.1 dX10_copyState_17 rfl (lv_at hl 1 rfl) ?_
  refine lv_aload_n F.1 F.2.1 dX10_copyState_18 rfl (lv_at hl 0 rfl) ?_
  refine k_get F G 0 rfl (N := 14) (Tt := TX9) rfl kf9 5 (by decide) kl94 (v := .int (w 1 0)) rfl dX10_copyState_19 ?_
  obtain ⟨w2_2, e9, h⟩ := op_st h
  refine k_put F G 25 rfl (N := 14) (Tt := TX9) rfl kf9 tyX9_ok nmX9 5 (by decide) kl94 rfl (v := .int (w 1 0)) rfl rfl (Nat.le_of_ble_eq_true rfl) dX10_copyState_22 (Wn := (gWW T aP aQ aZ w w2_2)) (by subst e9; rfl) (fun H locs G => ?_)
  clear e9
  refine lv_aload_n F.1 F.2.1 dX10_copyState_25 rfl (lv_at hl 1 rfl) ?_
  refine lv_aload_n F.1 F.2.1 dX10_copyState_26 rfl (lv_at hl 0 rfl) ?_
  refine k_get F G 0 rfl (N := 14) (Tt := TX9) rfl kf9 6 (by decide) kl95 (v := .int (w 2 0)) rfl dX10_copyState_27 ?_
  obtain ⟨w2_3, e9, h⟩ := op_st h
  refine k_put F G 25 rfl (N := 14) (Tt := TX9) rfl kf9 tyX9_ok nmX9 6 (by decide) kl95 rfl (v := .int (w 2 0)) rfl rfl (Nat.le_of_ble_eq_true rfl) dX10_copyState_30 (Wn := (gWW T aP aQ aZ w w2_3)) (by subst e9; rfl) (fun H locs G => ?_)
  clear e9
  refine lv_aload_n F.1 F.2.1 dX10_copyState_33 rfl (lv_at hl 1 rfl) ?_
  refine lv_aload_n F.1 F.2.1 dX10_copyState_34 rfl (lv_at hl 0 rfl) ?_
  refine k_get F G 0 rfl (N := 14) (Tt := TX9) rfl kf9 7 (by decide) kl96 (v := .int (w 3 0)) rfl dX10_copyState_35 ?_
  obtain ⟨w2_4, e9, h⟩ := op_st h
  refine k_put F G 25 rfl (N := 14) (Tt := TX9) rfl kf9 tyX9_ok nmX9 7 (by decide) kl96 rfl (v := .int (w 3 0)) rfl rfl (Nat.le_of_ble_eq_true rfl) dX10_copyState_38 (Wn := (gWW T aP aQ aZ w w2_4)) (by subst e9; rfl) (fun H locs G => ?_)
  clear e9
  refine lv_aload_n F.1 F.2.1 dX10_copyState_41 rfl (lv_at hl 1 rfl) ?_
  refine lv_aload_n F.1 F.2.1 dX10_copyState_42 rfl (lv_at hl 0 rfl) ?_
  refine k_get F G 0 rfl (N := 14) (Tt := TX9) rfl kf9 8 (by decide) kl97 (v := .int (w 4 0)) rfl dX10_copyState_43 ?_
  obtain ⟨c, h⟩ := op_g h
  obtain ⟨w2_5, e9, h⟩ := op_st h
  refine k_put F G 25 rfl (N := 14) (Tt := TX9) rfl kf9 tyX9_ok nmX9 8 (by decide) kl97 rfl (v := .int (w 4 0)) c.1 c.2 (Nat.le_of_ble_eq_true rfl) dX10_copyState_46 (Wn := (gWW T aP aQ aZ w w2_5)) (by subst e9; rfl) (fun H locs G => ?_)
  clear e9
  refine lv_aload_n F.1 F.2.1 dX10_copyState_49 rfl (lv_at hl 1 rfl) ?_
  refine lv_aload_n F.1 F.2.1 dX10_copyState_50 rfl (lv_at hl 0 rfl) ?_
  refine k_get F G 0 rfl (N := 14) (Tt := TX9) rfl kf9 9 (by decide) kl98 (v := .int (w 5 0)) rfl dX10_copyState_51 ?_
  obtain ⟨w2_6, e9, h⟩ := op_st h
  refine k_put F G 25 rfl (N := 14) (Tt := TX9) rfl kf9 tyX9_ok nmX9 9 (by decide) kl98 rfl (v := .int (w 5 0)) rfl rfl (Nat.le_of_ble_eq_true rfl) dX10_copyState_54 (Wn := (gWW T aP aQ aZ w w2_6)) (by subst e9; rfl) (fun H locs G => ?_)
  clear e9
  refine lv_aload_n F.1 F.2.1 dX10_copyState_57 rfl (lv_at hl 1 rfl) ?_
  refine lv_aload_n F.1 F.2.1 dX10_copyState_58 rfl (lv_at hl 0 rfl) ?_
  refine k_get F G 0 rfl (N := 14) (Tt := TX9) rfl kf9 10 (by decide) kl99 (v := .int (w 6 0)) rfl dX10_copyState_59 ?_
  obtain ⟨w2_7, e9, h⟩ := op_st h
  refine k_put F G 25 rfl (N := 14) (Tt := TX9) rfl kf9 tyX9_ok nmX9 10 (by decide) kl99 rfl (v := .int (w 6 0)) rfl rfl (Nat.le_of_ble_eq_true rfl) dX10_copyState_62 (Wn := (gWW T aP aQ aZ w w2_7)) (by subst e9; rfl) (fun H locs G => ?_)
  clear e9
  refine lv_aload_n F.1 F.2.1 dX10_copyState_65 rfl (lv_at hl 1 rfl) ?_
  refine lv_aload_n F.1 F.2.1 dX10_copyState_66 rfl (lv_at hl 0 rfl) ?_
  refine k_get F G 0 rfl (N := 14) (Tt := TX9) rfl kf9 11 (by decide) kl100 (v := .int (w 7 0)) rfl dX10_copyState_67 ?_
  obtain ⟨w2_8, e9, h⟩ := op_st h
  refine k_put F G 25 rfl (N := 14) (Tt := TX9) rfl kf9 tyX9_ok nmX9 11 (by decide) kl100 rfl (v := .int (w 7 0)) rfl rfl (Nat.le_of_ble_eq_true rfl) dX10_copyState_70 (Wn := (gWW T aP aQ aZ w w2_8)) (by subst e9; rfl) (fun H locs G => ?_)
  clear e9
  refine lv_aload_n F.1 F.2.1 dX10_copyState_73 rfl (lv_at hl 1 rfl) ?_
  refine k_get F G 25 rfl (N := 14) (Tt := TX9) rfl kf9 1 (by decide) kl101 (v := .ref (aZ 2)) rfl dX10_copyState_74 ?_
  refine lv_aload_n F.1 F.2.1 dX10_copyState_77 rfl (lv_at hl 0 rfl) ?_
  refine k_get F G 0 rfl (N := 14) (Tt := TX9) rfl kf9 1 (by decide) kl101 (v := .ref (aQ 2)) rfl dX10_copyState_78 ?_
  obtain ⟨w2_9, hc, h⟩ := op_b h
  refine k_callV (rv := none) (Wc := (gWW T aP aQ aZ w w2_8)) (W2 := (gWW T aP aQ aZ w w2_9)) (Wn := (gWW T aP aQ aZ w w2_9)) (As := [.ref (aQ 2)]) (rest := []) F G (mX2_copyFrom l D T aP aQ aZ w w2_8 hc) (cwV 1 F.2.2.2.2 (kg_c kl104 (kg_c kl105 (kg_c kl106 (kg_c kl42 (kg_c kl76 kg_a))))) rfl rfl rfl (by decide +kernel) ⟨Nat.le_of_ble_eq_true rfl, Nat.le_of_ble_eq_true rfl⟩) 27 rfl (q := (RX2, TX2, 9)) rfl rfl (kCut_F G) rfl hl.1 rfl (Nat.le_of_ble_eq_true rfl) dX10_copyState_81 ⟨Nat.le_of_ble_eq_true rfl, Nat.le_of_ble_eq_true rfl⟩ (cN := 0) (sN := 0) ⟨rfl, rfl⟩ (fun H locs G => ?_)
  refine lv_aload_n F.1 F.2.1 dX10_copyState_84 rfl (lv_at hl 1 rfl) ?_
  refine k_get F G 25 rfl (N := 14) (Tt := TX9) rfl kf9 2 (by decide) kl102 (v := .ref (aZ 9)) rfl dX10_copyState_85 ?_
  refine lv_aload_n F.1 F.2.1 dX10_copyState_88 rfl (lv_at hl 0 rfl) ?_
  refine k_get F G 0 rfl (N := 14) (Tt := TX9) rfl kf9 2 (by decide) kl102 (v := .ref (aQ 9)) rfl dX10_copyState_89 ?_
  obtain ⟨w2_10, hc, h⟩ := op_b h
  refine k_callV (rv := none) (Wc := (gWW T aP aQ aZ w w2_9)) (W2 := (gWW T aP aQ aZ w w2_10)) (Wn := (gWW T aP aQ aZ w w2_10)) (As := [.ref (aQ 9)]) (rest := []) F G (mX3_copyFrom l D T aP aQ aZ w w2_9 hc) (cwV 1 F.2.2.2.2 (kg_c kl107 (kg_c kl108 (kg_c kl109 (kg_c kl46 (kg_c kl83 kg_a))))) rfl rfl rfl (by decide +kernel) ⟨Nat.le_of_ble_eq_true rfl, Nat.le_of_ble_eq_true rfl⟩) 34 rfl (q := (RX3, TX3, 7)) rfl rfl (kCut_F G) rfl hl.1 rfl (Nat.le_of_ble_eq_true rfl) dX10_copyState_92 ⟨Nat.le_of_ble_eq_true rfl, Nat.le_of_ble_eq_true rfl⟩ (cN := 0) (sN := 0) ⟨rfl, rfl⟩ (fun H locs G => ?_)
  refine lv_aload_n F.1 F.2.1 dX10_copyState_95 rfl (lv_at hl 1 rfl) ?_
  refine k_get F G 25 rfl (N := 14) (Tt := TX9) rfl kf9 3 (by decide) kl103 (v := .ref (aZ 19)) rfl dX10_copyState_96 ?_
  refine lv_aload_n F.1 F.2.1 dX10_copyState_99 rfl (lv_at hl 0 rfl) ?_
  refine k_get F G 0 rfl (N := 14) (Tt := TX9) rfl kf9 3 (by decide) kl103 (v := .ref (aQ 19)) rfl dX10_copyState_100 ?_
  obtain ⟨w2_11, hc, h⟩ := op_b h
  refine k_callV (rv := none) (Wc := (gWW T aP aQ aZ w w2_10)) (W2 := (gWW T aP aQ aZ w w2_11)) (Wn := (gWW T aP aQ aZ w w2_11)) (As := [.ref (aQ 19)]) (rest := []) F G (mX8_copyFrom l D T aP aQ aZ w w2_10 hc) (cwV 1 F.2.2.2.2 (kg_c kl110 (kg_c kl111 (kg_c kl112 (kg_c kl50 (kg_c kl88 kg_a))))) rfl rfl rfl (by decide +kernel) ⟨Nat.le_of_ble_eq_true rfl, Nat.le_of_ble_eq_true rfl⟩) 44 rfl (q := (RX8, TX8, 9)) rfl rfl (kCut_F G) rfl hl.1 rfl (Nat.le_of_ble_eq_true rfl) dX10_copyState_103 ⟨Nat.le_of_ble_eq_true rfl, Nat.le_of_ble_eq_true rfl⟩ (cN := 0) (sN := 0) ⟨rfl, rfl⟩ (fun H locs G => ?_)
  obtain rfl := op_1 h
  exact k_vret F hr hlk G dX10_copyState_106
