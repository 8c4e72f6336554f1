-- the history
-- more of the face's base
theorem kx_g1 : ∀ w ∈ Cond.classLink RX10 58 "java/lang/IllegalStateException" :: Cond.initialized "java/lang/IllegalStateException" :: vx_atS RX10 62 "java/lang/IllegalStateException" kNms, vx_ot w = true := by decide +kernel
theorem kx_g2 : ∀ w ∈ Cond.classLink RX10 69 "java/lang/IndexOutOfBoundsException" :: Cond.initialized "java/lang/IndexOutOfBoundsException" :: vx_atS RX10 73 "java/lang/IndexOutOfBoundsException" kNms, vx_ot w = true := by decide +kernel
theorem kx_g3 : ∀ w ∈ Cond.classLink RX10 78 "java/lang/IllegalArgumentException" :: Cond.initialized "java/lang/IllegalArgumentException" :: vx_atS RX10 82 "java/lang/IllegalArgumentException" kNms, vx_ot w = true := by decide +kernel
theorem kx_g4 : ∀ w ∈ Cond.classLink RX10 112 "java/util/NoSuchElementException" :: Cond.initialized "java/util/NoSuchElementException" :: vy_at RX10 116 "java/util/NoSuchElementException" "java/lang/RuntimeException" ["java/lang/Exception"], vx_ot w = true := by decide +kernel
theorem kx_fR : Bundle.fit "java/lang/RuntimeException" = true := by decide +kernel
theorem kx_nmE : ∀ n ∈ ["java/lang/Exception"], Bundle.fit n = true := by decide +kernel
theorem gF_sameH {T : Nat → ClassId} {aF aR aD aP aH : Nat → Nat} {aW : Nat → Nat → Nat} {tx ps v hs hs2 : Nat → Nat → Int32} {nm vn : Nat → Int64} {ww ww2 : Nat → Nat → Nat → Int32} : ∀ k, k < 19 → k ∉ [6, 7, 8, 9, 10, 11, 12, 13, 14, 15, 16, 17, 18] → gFc T aF aR aD aP aH aW tx ps nm v vn hs2 ww2 k = gFc T aF aR aD aP aH aW tx ps nm v vn hs ww k
  | 0, _, _ => rfl
  | 1, _, _ => rfl
  | 2, _, _ => rfl
  | 3, _, _ => rfl
  | 4, _, _ => rfl
  | 5, _, _ => rfl
  | 6, _, h => absurd (by decide) h
  | k + 7, hk, h => absurd (by simp only [List.mem_cons, List.not_mem_nil, or_false]; omega) h
section
variable {D : va_G} {T : Nat → ClassId} {A : Nat → Prop} {s : State} {H : Heap} {locs : List Loc}
theorem kCut_H {aF aR aD aP aH : Nat → Nat} {aW : Nat → Nat → Nat} {tx ps v hs hs2 : Nat → Nat → Int32} {nm vn : Nat → Int64} {ww ww2 : Nat → Nat → Nat → Int32} (G : Rg D T A s (gU T aF aR aD aP aH aW tx ps nm v vn hs ww) H locs) : kCut D A (gU T aF aR aD aP aH aW tx ps nm v vn hs ww) (gHU T aP aH aW hs ww) (gHU T aP aH aW hs2 ww2) (gU T aF aR aD aP aH aW tx ps nm v vn hs2 ww2) H :=
  kCut_g (g' := gFc T aF aR aD aP aH aW tx ps nm v vn hs2 ww2) [6, 7, 8, 9, 10, 11, 12, 13, 14, 15, 16, 17, 18] G (by decide) (by decide) gF_sameH gF_addr
end
abbrev rmX0_keep : Room := ({ frames := 5, cells := 0, slots := 0, locals := 104 } : Room)
noncomputable def qX0_keep (hs : Nat → Nat → Int32) (ww : Nat → Nat → Nat → Int32) : Option ((Nat → Nat → Int32) × (Nat → Nat → Nat → Int32)) :=
  gd (vp_in (((hs 0 0) + (hs 1 0)) &&& 7) 8) (bd (qX10_copyState (ww 0) (ww ((((hs 0 0) + (hs 1 0)) &&& 7).toNatClampNeg + 2))) fun w2_1 => (bs (va_up ww ((((hs 0 0) + (hs 1 0)) &&& 7).toNatClampNeg + 2) w2_1) fun ww_2 => if 8 ≤ (hs 1 0) then (bs (va_up hs 0 (fun _ => (((hs 0 0) + 1) &&& 7))) fun hs_3 => some (hs_3, ww_2)) else (bs (va_up hs 1 (fun _ => ((hs 1 0) + 1))) fun hs_4 => some (hs_4, ww_2))))

set_option maxHeartbeats 8000000 in
set_option maxRecDepth 100000 in
theorem mX0_keep (l : Launch) (D : va_G) (T : Nat → ClassId) (aP : Nat → Nat) (aH : Nat → Nat) (aW : Nat → Nat → Nat) (hs : Nat → Nat → Int32) (ww : Nat → Nat → Nat → Int32) {hsR : Nat → Nat → Int32} {wwR : Nat → Nat → Nat → Int32} (hres : qX0_keep hs ww = some (hsR, wwR)) : Ct l yX0_keep (Cond.code yX0_keep cX0_keep 2 none :: kAll) rmX0_keep D T [.ref (aH 0), .ref (aW 0 0)] (gHU T aP aH aW hs ww) none (gHU T aP aH aW hsR wwR) := by
  refine Ct.of (cc := cX0_keep) (maxL := 2) (ret := none) (by decide +kernel) rfl (Nat.le_of_ble_eq_true rfl) ?_
  intro pr en st mi ag bl me co A ls F hr hlk hnm G hl
  have hl : lv_has ls 2 [(0, .ref (aH 0)), (1, .ref (aW 0 0))] := hl
  have h := hres
  unfold qX0_keep at h
  refine lv_aload_n F.1 F.2.1 dX0_keep_0 rfl (lv_at hl 1 rfl) ?_
  refine lv_aload_n F.1 F.2.1 dX0_keep_1 rfl (lv_at hl 0 rfl) ?_
  refine kg_get F G 0 0 (by decide) rfl (N := 5) (Tt := TX0) rfl kf0 0 (by decide) kl61 (v := .ref (aH 1)) rfl dX0_keep_2 ?_
  refine lv_aload_n F.1 F.2.1 dX0_keep_5 rfl (lv_at hl 0 rfl) ?_
  refine kg_get F G 0 0 (by decide) rfl (N := 5) (Tt := TX0) rfl kf0 2 (by decide) kl114 (v := .int (hs 0 0)) rfl dX0_keep_6 ?_
  refine lv_aload_n F.1 F.2.1 dX0_keep_9 rfl (lv_at hl 0 rfl) ?_
  refine kg_get F G 0 0 (by decide) rfl (N := 5) (Tt := TX0) rfl kf0 3 (by decide) kl115 (v := .int (hs 1 0)) rfl dX0_keep_10 ?_
  refine lv_iadd F.1 F.2.1 dX0_keep_13 ?_
  refine lv_bipush (v := 7) F.1 F.2.1 dX0_keep_14 (by decide) ?_
  refine lv_iand F.1 F.2.1 dX0_keep_16 ?_
  obtain ⟨ci, h⟩ := op_g h
  refine kg_aald F G 0 1 (by decide) rfl ci (b := aW ((((hs 0 0) + (hs 1 0)) &&& 7).toNatClampNeg + 2) 0) rfl dX0_keep_17 ?_
  obtain ⟨w2_1, hc, h⟩ := op_b h
  obtain ⟨ww_2, e9, h⟩ := op_st h
  refine k_callSN (rv := none) (Wc := (gWW T aP (aW 0) (aW ((((hs 0 0) + (hs 1 0)) &&& 7).toNatClampNeg + 2)) (ww 0) (ww ((((hs 0 0) + (hs 1 0)) &&& 7).toNatClampNeg + 2)))) (W2 := (gWW T aP (aW 0) (aW ((((hs 0 0) + (hs 1 0)) &&& 7).toNatClampNeg + 2)) (ww 0) w2_1)) (Wn := (gHU T aP aH aW hs ww_2)) (As := [.ref (aW 0 0), .ref (aW ((((hs 0 0) + (hs 1 0)) &&& 7).toNatClampNeg + 2) 0)]) (rest := []) F G (mX10_copyState l D T aP (aW 0) (aW ((((hs 0 0) + (hs 1 0)) &&& 7).toNatClampNeg + 2)) (ww 0) (ww ((((hs 0 0) + (hs 1 0)) &&& 7).toNatClampNeg + 2)) hc) ⟨va_cnB 2 F.2.2.2.2 (kg_c kl92 kg_a) rfl rfl rfl (k_nest G 1 rfl) (F.2.2.2.2 _ kl80) (by decide +kernel) ⟨Nat.le_of_ble_eq_true rfl, Nat.le_of_ble_eq_true rfl⟩, F.2.2.2.2 _ kl116⟩ (by have hci := vp_lt ci; subst e9; exact gH_two (T := T) (aP := aP) (aH := aH) (aW := aW) (hs := hs) (ww := ww) (X := 0) (Y := ((((hs 0 0) + (hs 1 0)) &&& 7).toNatClampNeg + 2)) (by omega) w2_1 ▸ kCut_g (g' := (gHc T aP aH aW hs (va_up ww ((((hs 0 0) + (hs 1 0)) &&& 7).toNatClampNeg + 2) w2_1))) [1, ((((hs 0 0) + (hs 1 0)) &&& 7).toNatClampNeg + 2) + 1] G (kn2 (by omega)) (knl2 (by omega) (by omega)) (gH_same [1, ((((hs 0 0) + (hs 1 0)) &&& 7).toNatClampNeg + 2) + 1] (Or.inr rfl) (gW_up ((((hs 0 0) + (hs 1 0)) &&& 7).toNatClampNeg + 2) _ 1 (by simp))) gH_addr) rfl hl.1 rfl (Nat.le_of_ble_eq_true rfl) dX0_keep_18 ⟨Nat.le_of_ble_eq_true rfl, Nat.le_of_ble_eq_true rfl⟩ (cN := 0) (sN := 0) ⟨rfl, rfl⟩ (fun H locs G => ?_)
  clear e9
  refine lv_aload_n F.1 F.2.1 dX0_keep_21 rfl (lv_at hl 0 rfl) ?_
  refine kg_get F G 0 0 (by decide) rfl (N := 5) (Tt := TX0) rfl kf0 3 (by decide) kl115 (v := .int (hs 1 0)) rfl dX0_keep_22 ?_
  refine lv_bipush (v := 8) F.1 F.2.1 dX0_keep_25 (by decide) ?_
  refine lv_icmp_ge (tgt := 43) F.1 F.2.1 dX0_keep_27 (by decide) (fun c => ?_) (fun c => ?_)
  · have h := op_t h c
    refine lv_aload_n F.1 F.2.1 dX0_keep_43 rfl (lv_at hl 0 rfl) ?_
    refine lv_aload_n F.1 F.2.1 dX0_keep_44 rfl (lv_at hl 0 rfl) ?_
    refine kg_get F G 0 0 (by decide) rfl (N := 5) (Tt := TX0) rfl kf0 2 (by decide) kl114 (v := .int (hs 0 0)) rfl dX0_keep_45 ?_
    refine lv_iconst (v := 1) F.1 F.2.1 dX0_keep_48 (by decide) ?_
    refine lv_iadd F.1 F.2.1 dX0_keep_49 ?_
    refine lv_bipush (v := 7) F.1 F.2.1 dX0_keep_50 (by decide) ?_
    refine lv_iand F.1 F.2.1 dX0_keep_52 ?_
    obtain ⟨hs_3, e9, h⟩ := op_st h
    refine kg_put (g' := (gHc T aP aH aW hs_3 ww_2)) F G 0 0 (by decide) rfl (N := 5) (Tt := TX0) rfl kf0 tyX0_ok nmX0 2 (by decide) kl114 rfl (v := .int (((hs 0 0) + 1) &&& 7)) rfl rfl (Nat.le_of_ble_eq_true rfl) dX0_keep_53 (by subst e9; rfl) (by subst e9; exact fun k hk h9 => (gH_same [0] (Or.inl (by simp)) (fun _ => Or.inr rfl)) k hk (not_cons h9)) (fun H locs G => ?_)
    clear e9
    obtain ⟨rfl, rfl⟩ := op_2 h
    exact k_vret F hr hlk G dX0_keep_56
  · have h := op_f h c
    refine lv_aload_n F.1 F.2.1 dX0_keep_30 rfl (lv_at hl 0 rfl) ?_
    refine lv_dup F.1 F.2.1 dX0_keep_31 rfl ?_
    refine kg_get F G 0 0 (by decide) rfl (N := 5) (Tt := TX0) rfl kf0 3 (by decide) kl115 (v := .int (hs 1 0)) rfl dX0_keep_32 ?_
    refine lv_iconst (v := 1) F.1 F.2.1 dX0_keep_35 (by decide) ?_
    refine lv_iadd F.1 F.2.1 dX0_keep_36 ?_
    obtain ⟨hs_4, e9, h⟩ := op_st h
    refine kg_put (g' := (gHc T aP aH aW hs_4 ww_2)) F G 0 0 (by decide) rfl (N := 5) (Tt := TX0) rfl kf0 tyX0_ok nmX0 3 (by decide) kl115 rfl (v := .int ((hs 1 0) + 1)) rfl rfl (Nat.le_of_ble_eq_true rfl) dX0_keep_37 (by subst e9; rfl) (by subst e9; exact fun k hk h9 => (gH_same [0] (Or.inl (by simp)) (fun _ => Or.inr rfl)) k hk (not_cons h9)) (fun H locs G => ?_)
    clear e9
    refine lv_goto (tgt := 56) F.1 F.2.1 dX0_keep_40 (by decide) ?_
    obtain ⟨rfl, rfl⟩ := op_2 h
    exact k_vret F hr hlk G dX0_keep_56
abbrev rmX0_takeBack : Room := ({ frames := 5, cells := 0, slots := 0, locals := 104 } : Room)
noncomputable def qX0_takeBack (hs : Nat → Nat → Int32) (ww : Nat → Nat → Nat → Int32) : Option ((Nat → Nat → Int32) × (Nat → Nat → Nat → Int32)) :=
  if (hs 1 0) ≤ 0 then some (hs, ww) else (bs (va_up hs 1 (fun _ => ((hs 1 0) - 1))) fun hs_1 => gd (vp_in (((hs_1 0 0) + (hs_1 1 0)) &&& 7) 8) (bd (qX10_copyState (ww ((((hs_1 0 0) + (hs_1 1 0)) &&& 7).toNatClampNeg + 2)) (ww 0)) fun w2_2 => (bs (va_up ww 0 w2_2) fun ww_3 => some (hs_1, ww_3))))

set_option maxHeartbeats 8000000 in
set_option maxRecDepth 100000 in
theorem mX0_takeBack (l : Launch) (D : va_G) (T : Nat → ClassId) (aP : Nat → Nat) (aH : Nat → Nat) (aW : Nat → Nat → Nat) (hs : Nat → Nat → Int32) (ww : Nat → Nat → Nat → Int32) {hsR : Nat → Nat → Int32} {wwR : Nat → Nat → Nat → Int32} (hres : qX0_takeBack hs ww = some (hsR, wwR)) : Ct l yX0_takeBack (Cond.code yX0_takeBack cX0_takeBack 2 none :: kAll) rmX0_takeBack D T [.ref (aH 0), .ref (aW 0 0)] (gHU T aP aH aW hs ww) none (gHU T aP aH aW hsR wwR) := by
  refine Ct.of (cc := cX0_takeBack) (maxL := 2) (ret := none) (by decide +kernel) rfl (Nat.le_of_ble_eq_true rfl) ?_
  intro pr en st mi ag bl me co A ls F hr hlk hnm G hl
  have hl : lv_has ls 2 [(0, .ref (aH 0)), (1, .ref (aW 0 0))] := hl
  have h := hres
  unfold qX0_takeBack at h
  refine lv_aload_n F.1 F.2.1 dX0_takeBack_0 rfl (lv_at hl 0 rfl) ?_
  refine kg_get F G 0 0 (by decide) rfl (N := 5) (Tt := TX0) rfl kf0 3 (by decide) kl115 (v := .int (hs 1 0)) rfl dX0_takeBack_1 ?_
  refine lv_if_le (tgt := 38) F.1 F.2.1 dX0_takeBack_4 (by decide) (fun c => ?_) (fun c => ?_)
  · have h := op_t h c
    obtain ⟨rfl, rfl⟩ := op_2 h
    exact k_vret F hr hlk G dX0_takeBack_38
  · have h := op_f h c
    refine lv_aload_n F.1 F.2.1 dX0_takeBack_7 rfl (lv_at hl 0 rfl) ?_
    refine lv_dup F.1 F.2.1 dX0_takeBack_8 rfl ?_
    refine kg_get F G 0 0 (by decide) rfl (N := 5) (Tt := TX0) rfl kf0 3 (by decide) kl115 (v := .int (hs 1 0)) rfl dX0_takeBack_9 ?_
    refine lv_iconst (v := 1) F.1 F.2.1 dX0_takeBack_12 (by decide) ?_
    refine lv_isub F.1 F.2.1 dX0_takeBack_13 ?_
    obtain ⟨hs_1, e9, h⟩ := op_st h
    refine kg_put (g' := (gHc T aP aH aW hs_1 ww)) F G 0 0 (by decide) rfl (N := 5) (Tt := TX0) rfl kf0 tyX0_ok nmX0 3 (by decide) kl115 rfl (v := .int ((hs 1 0) - 1)) rfl rfl (Nat.le_of_ble_eq_true rfl) dX0_takeBack_14 (by subst e9; rfl) (by subst e9; exact fun k hk h9 => (gH_same [0] (Or.inl (by simp)) (fun _ => Or.inr rfl)) k hk (not_cons h9)) (fun H locs G => ?_)
    clear e9
    refine lv_aload_n F.1 F.2.1 dX0_takeBack_17 rfl (lv_at hl 0 rfl) ?_
    refine kg_get F G 0 0 (by decide) rfl (N := 5) (Tt := TX0) rfl kf0 0 (by decide) kl61 (v := .ref (aH 1)) rfl dX0_takeBack_18 ?_
    refine lv_aload_n F.1 F.2.1 dX0_takeBack_21 rfl (lv_at hl 0 rfl) ?_
    refine kg_get F G 0 0 (by decide) rfl (N := 5) (Tt := TX0) rfl kf0 2 (by decide) kl114 (v := .int (hs_1 0 0)) rfl dX0_takeBack_22 ?_
    refine lv_aload_n F.1 F.2.1 dX0_takeBack_25 rfl (lv_at hl 0 rfl) ?_
    refine kg_get F G 0 0 (by decide) rfl (N := 5) (Tt := TX0) rfl kf0 3 (by decide) kl115 (v := .int (hs_1 1 0)) rfl dX0_takeBack_26 ?_
    refine lv_iadd F.1 F.2.1 dX0_takeBack_29 ?_
    refine lv_bipush (v := 7) F.1 F.2.1 dX0_takeBack_30 (by decide) ?_
    refine lv_iand F.1 F.2.1 dX0_takeBack_32 ?_
    obtain ⟨ci, h⟩ := op_g h
    refine kg_aald F G 0 1 (by decide) rfl ci (b := aW ((((hs_1 0 0) + (hs_1 1 0)) &&& 7).toNatClampNeg + 2) 0) rfl dX0_takeBack_33 ?_
    refine lv_aload_n F.1 F.2.1 dX0_takeBack_34 rfl (lv_at hl 1 rfl) ?_
    obtain ⟨w2_2, hc, h⟩ := op_b h
    obtain ⟨ww_3, e9, h⟩ := op_st h
    refine k_callSN (rv := none) (Wc := (gWW T aP (aW ((((hs_1 0 0) + (hs_1 1 0)) &&& 7).toNatClampNeg + 2)) (aW 0) (ww ((((hs_1 0 0) + (hs_1 1 0)) &&& 7).toNatClampNeg + 2)) (ww 0))) (W2 := (gWW T aP (aW ((((hs_1 0 0) + (hs_1 1 0)) &&& 7).toNatClampNeg + 2)) (aW 0) (ww ((((hs_1 0 0) + (hs_1 1 0)) &&& 7).toNatClampNeg + 2)) w2_2)) (Wn := (gHU T aP aH aW hs_1 ww_3)) (As := [.ref (aW ((((hs_1 0 0) + (hs_1 1 0)) &&& 7).toNatClampNeg + 2) 0), .ref (aW 0 0)]) (rest := []) F G (mX10_copyState l D T aP (aW ((((hs_1 0 0) + (hs_1 1 0)) &&& 7).toNatClampNeg + 2)) (aW 0) (ww ((((hs_1 0 0) + (hs_1 1 0)) &&& 7).toNatClampNeg + 2)) (ww 0) hc) ⟨va_cnB 2 F.2.2.2.2 (kg_c kl92 kg_a) rfl rfl rfl (k_nest G 1 rfl) (F.2.2.2.2 _ kl80) (by decide +kernel) ⟨Nat.le_of_ble_eq_true rfl, Nat.le_of_ble_eq_true rfl⟩, F.2.2.2.2 _ kl116⟩ (by have hci := vp_lt ci; subst e9; exact gH_two (T := T) (aP := aP) (aH := aH) (aW := aW) (hs := hs_1) (ww := ww) (X := ((((hs_1 0 0) + (hs_1 1 0)) &&& 7).toNatClampNeg + 2)) (Y := 0) (by omega) w2_2 ▸ kCut_g (g' := (gHc T aP aH aW hs_1 (va_up ww 0 w2_2))) [((((hs_1 0 0) + (hs_1 1 0)) &&& 7).toNatClampNeg + 2) + 1, 1] G (kn2 (by omega)) (knl2 (by omega) (by omega)) (gH_same [((((hs_1 0 0) + (hs_1 1 0)) &&& 7).toNatClampNeg + 2) + 1, 1] (Or.inr rfl) (gW_up 0 _ 1 (by simp))) gH_addr) rfl hl.1 rfl (Nat.le_of_ble_eq_true rfl) dX0_takeBack_35 ⟨Nat.le_of_ble_eq_true rfl, Nat.le_of_ble_eq_true rfl⟩ (cN := 0) (sN := 0) ⟨rfl, rfl⟩ (fun H locs G => ?_)
    clear e9
    obtain ⟨rfl, rfl⟩ := op_2 h
    exact k_vret F hr hlk G dX0_takeBack_38
abbrev rmX0_dropChanges : Room := ({ frames := 0, cells := 0, slots := 0, locals := 0 } : Room)
noncomputable def qX0_dropChanges (hs : Nat → Nat → Int32) (ww : Nat → Nat → Nat → Int32) : Option ((Nat → Nat → Int32)) :=
  (bs (va_up hs 1 (fun _ => 0)) fun hs_1 => some hs_1)

set_option maxHeartbeats 8000000 in
set_option maxRecDepth 100000 in
theorem mX0_dropChanges (l : Launch) (D : va_G) (T : Nat → ClassId) (aP : Nat → Nat) (aH : Nat → Nat) (aW : Nat → Nat → Nat) (hs : Nat → Nat → Int32) (ww : Nat → Nat → Nat → Int32) {hsR : Nat → Nat → Int32} (hres : qX0_dropChanges hs ww = some (hsR)) : Ct l yX0_dropChanges (Cond.code yX0_dropChanges cX0_dropChanges 1 none :: kAll) rmX0_dropChanges D T [.ref (aH 0)] (gHU T aP aH aW hs ww) none (gHU T aP aH aW hsR ww) := by
  refine Ct.of (cc := cX0_dropChanges) (maxL := 1) (ret := none) (by decide +kernel) rfl (Nat.le_of_ble_eq_true rfl) ?_
  intro pr en st mi ag bl me co A ls F hr hlk hnm G hl
  have hl : lv_has ls 1 [(0, .ref (aH 0))] := hl
  have h := hres
  unfold qX0_dropChanges at h
  refine lv_aload_n F.1 F.2.1 dX0_dropChanges_0 rfl (lv_at hl 0 rfl) ?_
  refine lv_iconst (v := 0) F.1 F.2.1 dX0_dropChanges_1 (by decide) ?_
  obtain ⟨hs_1, e9, h⟩ := op_st h
  refine kg_put (g' := (gHc T aP aH aW hs_1 ww)) F G 0 0 (by decide) rfl (N := 5) (Tt := TX0) rfl kf0 tyX0_ok nmX0 3 (by decide) kl115 rfl (v := .int 0) rfl rfl (Nat.le_of_ble_eq_true rfl) dX0_dropChanges_2 (by subst e9; rfl) (by subst e9; exact fun k hk h9 => (gH_same [0] (Or.inl (by simp)) (fun _ => Or.inr rfl)) k hk (not_cons h9)) (fun H locs G => ?_)
  clear e9
  obtain rfl := op_1 h
  exact k_vret F hr hlk G dX0_dropChanges_5
abbrev rmX0_isSaved : Room := ({ frames := 1, cells := 0, slots := 0, locals := 21 } : Room)
noncomputable def qX0_isSaved (hs : Nat → Nat → Int32) (ww : Nat → Nat → Nat → Int32) (x1 : Int32) : Option (Int32) :=
  bd (qX10_isIn (hs 2 0) x1) fun r_1 => gd (narrow .boolean (.int r_1) = .int r_1) (some r_1)

set_option maxHeartbeats 8000000 in
set_option maxRecDepth 100000 in
theorem mX0_isSaved (l : Launch) (D : va_G) (T : Nat → ClassId) (aP : Nat → Nat) (aH : Nat → Nat) (aW : Nat → Nat → Nat) (hs : Nat → Nat → Int32) (ww : Nat → Nat → Nat → Int32) (x1 : Int32) {rR : Int32} (hres : qX0_isSaved hs ww x1 = some (rR)) : Ct l yX0_isSaved (Cond.code yX0_isSaved cX0_isSaved 2 (some .boolean) :: kAll) rmX0_isSaved D T [.ref (aH 0), .int x1] (gHU T aP aH aW hs ww) (some (.int rR)) (gHU T aP aH aW hs ww) := by
  refine Ct.of (cc := cX0_isSaved) (maxL := 2) (ret := (some .boolean)) (by decide +kernel) rfl (Nat.le_of_ble_eq_true rfl) ?_
  intro pr en st mi ag bl me co A ls F hr hlk hnm G hl
  have hl : lv_has ls 2 [(0, .ref (aH 0)), (1, .int x1)] := hl
  have h := hres
  unfold qX0_isSaved at h
  refine lv_aload_n F.1 F.2.1 dX0_isSaved_0 rfl (lv_at hl 0 rfl) ?_
  refine kg_get F G 0 0 (by decide) rfl (N := 5) (Tt := TX0) rfl kf0 4 (by decide) kl121 (v := .int (hs 2 0)) rfl dX0_isSaved_1 ?_
  refine lv_iload_n F.1 F.2.1 dX0_isSaved_4 rfl (lv_at hl 1 rfl) ?_
  obtain ⟨r_1, hc, h⟩ := op_b h
  refine k_callSN (rv := (some (.int r_1))) (Wc := ([] : va_W)) (W2 := ([] : va_W)) (Wn := (gHU T aP aH aW hs ww)) (As := [.int (hs 2 0), .int x1]) (rest := []) F G (mX10_isIn l D T (hs 2 0) x1 hc) ⟨va_cnB 2 F.2.2.2.2 (kg_c kl119 kg_a) rfl rfl rfl (k_nest G 2 rfl) (F.2.2.2.2 _ kl80) (by decide +kernel) ⟨Nat.le_of_ble_eq_true rfl, Nat.le_of_ble_eq_true rfl⟩, F.2.2.2.2 _ kl122⟩ (kCut_0 G) rfl hl.1 rfl (Nat.le_of_ble_eq_true rfl) dX0_isSaved_5 ⟨Nat.le_of_ble_eq_true rfl, Nat.le_of_ble_eq_true rfl⟩ (cN := 0) (sN := 0) ⟨rfl, rfl⟩ (fun H locs G => ?_)
  obtain ⟨c, h⟩ := op_g h
  obtain rfl := op_1 h
  exact k_zret F hr c hlk G dX0_isSaved_8
abbrev rmX0_putIn : Room := ({ frames := 5, cells := 0, slots := 0, locals := 104 } : Room)
noncomputable def qX0_putIn (hs : Nat → Nat → Int32) (ww : Nat → Nat → Nat → Int32) (x1 : Int32) : Option ((Nat → Nat → Int32) × (Nat → Nat → Nat → Int32)) :=
  gd (vp_in x1 2) (bd (qX10_copyState (ww 0) (ww (x1.toNatClampNeg + 10))) fun w2_1 => (bs (va_up ww (x1.toNatClampNeg + 10) w2_1) fun ww_2 => (bs (va_up hs 2 (fun _ => ((hs 2 0) ||| (1 <<< (x1 &&& 31))))) fun hs_3 => some (hs_3, ww_2))))

set_option maxHeartbeats 8000000 in
set_option maxRecDepth 100000 in
theorem mX0_putIn (l : Launch) (D : va_G) (T : Nat → ClassId) (aP : Nat → Nat) (aH : Nat → Nat) (aW : Nat → Nat → Nat) (hs : Nat → Nat → Int32) (ww : Nat → Nat → Nat → Int32) (x1 : Int32) {hsR : Nat → Nat → Int32} {wwR : Nat → Nat → Nat → Int32} (hres : qX0_putIn hs ww x1 = some (hsR, wwR)) : Ct l yX0_putIn (Cond.code yX0_putIn cX0_putIn 3 none :: kAll) rmX0_putIn D T [.ref (aH 0), .int x1, .ref (aW 0 0)] (gHU T aP aH aW hs ww) none (gHU T aP aH aW hsR wwR) := by
  refine Ct.of (cc := cX0_putIn) (maxL := 3) (ret := none) (by decide +kernel) rfl (Nat.le_of_ble_eq_true rfl) ?_
  intro pr en st mi ag bl me co A ls F hr hlk hnm G hl
  have hl : lv_has ls 3 [(0, .ref (aH 0)), (1, .int x1), (2, .ref (aW 0 0))] := hl
  have h := hres
  unfold qX0_putIn at h
  refine lv_aload_n F.1 F.2.1 dX0_putIn_0 rfl (lv_at hl 2 rfl) ?_
  refine lv_aload_n F.1 F.2.1 dX0_putIn_1 rfl (lv_at hl 0 rfl) ?_
  refine kg_get F G 0 0 (by decide) rfl (N := 5) (Tt := TX0) rfl kf0 1 (by decide) kl62 (v := .ref (aH 2)) rfl dX0_putIn_2 ?_
  refine lv_iload_n F.1 F.2.1 dX0_putIn_5 rfl (lv_at hl 1 rfl) ?_
  obtain ⟨ci, h⟩ := op_g h
  refine kg_aald F G 0 2 (by decide) rfl ci (b := aW (x1.toNatClampNeg + 10) 0) rfl dX0_putIn_6 ?_
  obtain ⟨w2_1, hc, h⟩ := op_b h
  obtain ⟨ww_2, e9, h⟩ := op_st h
  refine k_callSN (rv := none) (Wc := (gWW T aP (aW 0) (aW (x1.toNatClampNeg + 10)) (ww 0) (ww (x1.toNatClampNeg + 10)))) (W2 := (gWW T aP (aW 0) (aW (x1.toNatClampNeg + 10)) (ww 0) w2_1)) (Wn := (gHU T aP aH aW hs ww_2)) (As := [.ref (aW 0 0), .ref (aW (x1.toNatClampNeg + 10) 0)]) (rest := []) F G (mX10_copyState l D T aP (aW 0) (aW (x1.toNatClampNeg + 10)) (ww 0) (ww (x1.toNatClampNeg + 10)) hc) ⟨va_cnB 2 F.2.2.2.2 (kg_c kl92 kg_a) rfl rfl rfl (k_nest G 1 rfl) (F.2.2.2.2 _ kl80) (by decide +kernel) ⟨Nat.le_of_ble_eq_true rfl, Nat.le_of_ble_eq_true rfl⟩, F.2.2.2.2 _ kl116⟩ (by have hci := vp_lt ci; subst e9; exact gH_two (T := T) (aP := aP) (aH := aH) (aW := aW) (hs := hs) (ww := ww) (X := 0) (Y := (x1.toNatClampNeg + 10)) (by omega) w2_1 ▸ kCut_g (g' := (gHc T aP aH aW hs (va_up ww (x1.toNatClampNeg + 10) w2_1))) [1, (x1.toNatClampNeg + 10) + 1] G (kn2 (by omega)) (knl2 (by omega) (by omega)) (gH_same [1, (x1.toNatClampNeg + 10) + 1] (Or.inr rfl) (gW_up (x1.toNatClampNeg + 10) _ 1 (by simp))) gH_addr) rfl hl.1 rfl (Nat.le_of_ble_eq_true rfl) dX0_putIn_7 ⟨Nat.le_of_ble_eq_true rfl, Nat.le_of_ble_eq_true rfl⟩ (cN := 0) (sN := 0) ⟨rfl, rfl⟩ (fun H locs G => ?_)
  clear e9
  refine lv_aload_n F.1 F.2.1 dX0_putIn_10 rfl (lv_at hl 0 rfl) ?_
  refine lv_dup F.1 F.2.1 dX0_putIn_11 rfl ?_
  refine kg_get F G 0 0 (by decide) rfl (N := 5) (Tt := TX0) rfl kf0 4 (by decide) kl121 (v := .int (hs 2 0)) rfl dX0_putIn_12 ?_
  refine lv_iconst (v := 1) F.1 F.2.1 dX0_putIn_15 (by decide) ?_
  refine lv_iload_n F.1 F.2.1 dX0_putIn_16 rfl (lv_at hl 1 rfl) ?_
  refine lv_ishl F.1 F.2.1 dX0_putIn_17 ?_
  refine lv_ior F.1 F.2.1 dX0_putIn_18 ?_
  obtain ⟨hs_3, e9, h⟩ := op_st h
  refine kg_put (g' := (gHc T aP aH aW hs_3 ww_2)) F G 0 0 (by decide) rfl (N := 5) (Tt := TX0) rfl kf0 tyX0_ok nmX0 4 (by decide) kl121 rfl (v := .int ((hs 2 0) ||| (1 <<< (x1 &&& 31)))) rfl rfl (Nat.le_of_ble_eq_true rfl) dX0_putIn_19 (by subst e9; rfl) (by subst e9; exact fun k hk h9 => (gH_same [0] (Or.inl (by simp)) (fun _ => Or.inr rfl)) k hk (not_cons h9)) (fun H locs G => ?_)
  clear e9
  obtain ⟨rfl, rfl⟩ := op_2 h
  exact k_vret F hr hlk G dX0_putIn_22
abbrev rmX0_takeFrom : Room := ({ frames := 5, cells := 0, slots := 0, locals := 104 } : Room)
noncomputable def qX0_takeFrom (hs : Nat → Nat → Int32) (ww : Nat → Nat → Nat → Int32) (x1 : Int32) : Option ((Nat → Nat → Nat → Int32)) :=
  gd (vp_in x1 2) (bd (qX10_copyState (ww (x1.toNatClampNeg + 10)) (ww 0)) fun w2_1 => (bs (va_up ww 0 w2_1) fun ww_2 => some ww_2))

set_option maxHeartbeats 8000000 in
set_option maxRecDepth 100000 in
theorem mX0_takeFrom (l : Launch) (D : va_G) (T : Nat → ClassId) (aP : Nat → Nat) (aH : Nat → Nat) (aW : Nat → Nat → Nat) (hs : Nat → Nat → Int32) (ww : Nat → Nat → Nat → Int32) (x1 : Int32) {wwR : Nat → Nat → Nat → Int32} (hres : qX0_takeFrom hs ww x1 = some (wwR)) : Ct l yX0_takeFrom (Cond.code yX0_takeFrom cX0_takeFrom 3 none :: kAll) rmX0_takeFrom D T [.ref (aH 0), .int x1, .ref (aW 0 0)] (gHU T aP aH aW hs ww) none (gHU T aP aH aW hs wwR) := by
  refine Ct.of (cc := cX0_takeFrom) (maxL := 3) (ret := none) (by decide +kernel) rfl (Nat.le_of_ble_eq_true rfl) ?_
  intro pr en st mi ag bl me co A ls F hr hlk hnm G hl
  have hl : lv_has ls 3 [(0, .ref (aH 0)), (1, .int x1), (2, .ref (aW 0 0))] := hl
  have h := hres
  unfold qX0_takeFrom at h
  refine lv_aload_n F.1 F.2.1 dX0_takeFrom_0 rfl (lv_at hl 0 rfl) ?_
  refine kg_get F G 0 0 (by decide) rfl (N := 5) (Tt := TX0) rfl kf0 1 (by decide) kl62 (v := .ref (aH 2)) rfl dX0_takeFrom_1 ?_
  refine lv_iload_n F.1 F.2.1 dX0_takeFrom_4 rfl (lv_at hl 1 rfl) ?_
  obtain ⟨ci, h⟩ := op_g h
  refine kg_aald F G 0 2 (by decide) rfl ci (b := aW (x1.toNatClampNeg + 10) 0) rfl dX0_takeFrom_5 ?_
  refine lv_aload_n F.1 F.2.1 dX0_takeFrom_6 rfl (lv_at hl 2 rfl) ?_
  obtain ⟨w2_1, hc, h⟩ := op_b h
  obtain ⟨ww_2, e9, h⟩ := op_st h
  refine k_callSN (rv := none) (Wc := (gWW T aP (aW (x1.toNatClampNeg + 10)) (aW 0) (ww (x1.toNatClampNeg + 10)) (ww 0))) (W2 := (gWW T aP (aW (x1.toNatClampNeg + 10)) (aW 0) (ww (x1.toNatClampNeg + 10)) w2_1)) (Wn := (gHU T aP aH aW hs ww_2)) (As := [.ref (aW (x1.toNatClampNeg + 10) 0), .ref (aW 0 0)]) (rest := []) F G (mX10_copyState l D T aP (aW (x1.toNatClampNeg + 10)) (aW 0) (ww (x1.toNatClampNeg + 10)) (ww 0) hc) ⟨va_cnB 2 F.2.2.2.2 (kg_c kl92 kg_a) rfl rfl rfl (k_nest G 1 rfl) (F.2.2.2.2 _ kl80) (by decide +kernel) ⟨Nat.le_of_ble_eq_true rfl, Nat.le_of_ble_eq_true rfl⟩, F.2.2.2.2 _ kl116⟩ (by have hci := vp_lt ci; subst e9; exact gH_two (T := T) (aP := aP) (aH := aH) (aW := aW) (hs := hs) (ww := ww) (X := (x1.toNatClampNeg + 10)) (Y := 0) (by omega) w2_1 ▸ kCut_g (g' := (gHc T aP aH aW hs (va_up ww 0 w2_1))) [(x1.toNatClampNeg + 10) + 1, 1] G (kn2 (by omega)) (knl2 (by omega) (by omega)) (gH_same [(x1.toNatClampNeg + 10) + 1, 1] (Or.inr rfl) (gW_up 0 _ 1 (by simp))) gH_addr) rfl hl.1 rfl (Nat.le_of_ble_eq_true rfl) dX0_takeFrom_7 ⟨Nat.le_of_ble_eq_true rfl, Nat.le_of_ble_eq_true rfl⟩ (cN := 0) (sN := 0) ⟨rfl, rfl⟩ (fun H locs G => ?_)
  clear e9
  obtain rfl := op_1 h
  exact k_vret F hr hlk G dX0_takeFrom_10
abbrev rmX0_dropSaved : Room := ({ frames := 0, cells := 0, slots := 0, locals := 0 } : Room)
noncomputable def qX0_dropSaved (hs : Nat → Nat → Int32) (ww : Nat → Nat → Nat → Int32) : Option ((Nat → Nat → Int32)) :=
  (bs (va_up hs 2 (fun _ => 0)) fun hs_1 => some hs_1)

set_option maxHeartbeats 8000000 in
set_option maxRecDepth 100000 in
theorem mX0_dropSaved (l : Launch) (D : va_G) (T : Nat → ClassId) (aP : Nat → Nat) (aH : Nat → Nat) (aW : Nat → Nat → Nat) (hs : Nat → Nat → Int32) (ww : Nat → Nat → Nat → Int32) {hsR : Nat → Nat → Int32} (hres : qX0_dropSaved hs ww = some (hsR)) : Ct l yX0_dropSaved (Cond.code yX0_dropSaved cX0_dropSaved 1 none :: kAll) rmX0_dropSaved D T [.ref (aH 0)] (gHU T aP aH aW hs ww) none (gHU T aP aH aW hsR ww) := by
  refine Ct.of (cc := cX0_dropSaved) (maxL := 1) (ret := none) (by decide +kernel) rfl (Nat.le_of_ble_eq_true rfl) ?_
  intro pr en st mi ag bl me co A ls F hr hlk hnm G hl
  have hl : lv_has ls 1 [(0, .ref (aH 0))] := hl
  have h := hres
  unfold qX0_dropSaved at h
  refine lv_aload_n F.1 F.2.1 dX0_dropSaved_0 rfl (lv_at hl 0 rfl) ?_
  refine lv_iconst (v := 0) F.1 F.2.1 dX0_dropSaved_1 (by decide) ?_
  obtain ⟨hs_1, e9, h⟩ := op_st h
  refine kg_put (g' := (gHc T aP aH aW hs_1 ww)) F G 0 0 (by decide) rfl (N := 5) (Tt := TX0) rfl kf0 tyX0_ok nmX0 4 (by decide) kl121 rfl (v := .int 0) rfl rfl (Nat.le_of_ble_eq_true rfl) dX0_dropSaved_2 (by subst e9; rfl) (by subst e9; exact fun k hk h9 => (gH_same [0] (Or.inl (by simp)) (fun _ => Or.inr rfl)) k hk (not_cons h9)) (fun H locs G => ?_)
  clear e9
  obtain rfl := op_1 h
  exact k_vret F hr hlk G dX0_dropSaved_5
