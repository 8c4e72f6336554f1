abbrev rmJ7_fill_53178_g : Room := ({ frames := 0, cells := 0, slots := 0, locals := 0 } : Room)
noncomputable def qJ7_fill_53178_g_L5 (nn : Nat) (x1_1 : Int32) (x3_3 : Int32) (K : (Nat → Int32) → Option ((Nat → Int32))) : Nat → Int32 → (Nat → Int32) → Option ((Nat → Int32))
  | 0, _, _ => none
  | n + 1, x2_2, f_4 =>
    if x3_3 ≤ x2_2 then (K f_4) else gd (vp_in x2_2 nn) (bs (upd f_4 x2_2.toNatClampNeg x1_1) fun f_6 => (qJ7_fill_53178_g_L5 nn x1_1 x3_3 K n (x2_2 + 1) f_6))

noncomputable def qJ7_fill_53178_g (nn : Nat) (f : Nat → Int32) (x1 : Int32) : Option ((Nat → Int32)) :=
  (qJ7_fill_53178_g_L5 nn x1 (Int32.ofNat nn) (fun (f_5 : Nat → Int32) => some f_5) fu 0 f)

set_option maxHeartbeats 4000000 in
set_option maxRecDepth 100000 in
theorem mJ7_fill_53178_g (l : Launch) (D : va_G) (T : Nat → ClassId) (aA : Nat) (nn : Nat) (f : Nat → Int32) (x1 : Int32) {fR : Nat → Int32} (hres : qJ7_fill_53178_g nn f x1 = some (fR)) : Ct l yJ7_fill_53178 (Cond.code yJ7_fill_53178 cJ7_fill_53178 4 none :: kAll) rmJ7_fill_53178_g D T [.ref aA, .int x1] (gA T aA nn f) none (gA T aA nn fR) := by
  refine Ct.of (cc := cJ7_fill_53178) (maxL := 4) (ret := none) (by decide +kernel) rfl (Nat.le_of_ble_eq_true rfl) ?_
  intro pr en st mi ag bl me co A ls F hr hlk hnm G hl
  have hl : lv_has ls 4 [(0, .ref aA), (1, .int x1)] := hl
  have h := hres
  unfold qJ7_fill_53178_g at h
  refine lv_iconst (v := 0) F.1 F.2.1 dJ7_fill_53178_0 (by decide) ?_
  refine lv_istore_n (lv' := [(2, .int 0), (0, .ref aA), (1, .int x1)]) F.1 F.2.1 dJ7_fill_53178_1 rfl hl (by decide) rfl (fun ls hl => ?_)
  refine lv_aload_n F.1 F.2.1 dJ7_fill_53178_2 rfl (lv_at hl 1 rfl) ?_
  refine k_alen F G 0 0 rfl rfl (v := (Int32.ofNat nn)) rfl dJ7_fill_53178_3 ?_
  refine lv_istore_n (lv' := [(3, .int (Int32.ofNat nn)), (2, .int 0), (0, .ref aA), (1, .int x1)]) F.1 F.2.1 dJ7_fill_53178_4 rfl hl (by decide) rfl (fun ls hl => ?_)
  have L5 : ∀ (nn : Nat) (x1_1 : Int32) (x3_3 : Int32) (K : (Nat → Int32) → Option ((Nat → Int32))) (hK : ∀ (f_5 : Nat → Int32) (H : Heap) (locs : List Loc) (ls : Array Slot), K f_5 = some (fR) → Rg D T A st (gA T aA nn f_5) H locs → lv_has ls 4 [] → W pr l en rmJ7_fill_53178_g st mi ag bl me co H locs 0 0 (MQ bl (kQ none D (gA T aA nn fR) A) ag st rmJ7_fill_53178_g.cells rmJ7_fill_53178_g.slots A) (F0 mi 20 ls [])) (n : Nat) (x2_2 : Int32) (f_4 : Nat → Int32) (H : Heap) (locs : List Loc) (ls : Array Slot), qJ7_fill_53178_g_L5 nn x1_1 x3_3 K n x2_2 f_4 = some (fR) → Rg D T A st (gA T aA nn f_4) H locs → lv_has ls 4 [(0, .ref aA), (1, .int x1_1), (2, .int x2_2), (3, .int x3_3)] → W pr l en rmJ7_fill_53178_g st mi ag bl me co H locs 0 0 (MQ bl (kQ none D (gA T aA nn fR) A) ag st rmJ7_fill_53178_g.cells rmJ7_fill_53178_g.slots A) (F0 mi 5 ls []) := by
    intro nn x1_1 x3_3 K hK n
    induction n with
    | zero => intro x2_2 f_4 H locs ls h; exact op_n h
    | succ n ih =>
      intro x2_2 f_4 H locs ls h G hl
      rw [qJ7_fill_53178_g_L5] at h
      refine lv_iload_n F.1 F.2.1 dJ7_fill_53178_5 rfl (lv_at hl 2 rfl) ?_
      refine lv_iload_n F.1 F.2.1 dJ7_fill_53178_6 rfl (lv_at hl 3 rfl) ?_
      refine lv_icmp_ge (tgt := 20) F.1 F.2.1 dJ7_fill_53178_7 (by decide) (fun c => ?_) (fun c => ?_)
      · have h := op_t h c
        exact hK f_4 _ _ _ h G (lv_sub hl [] rfl)
      · have h := op_f h c
        refine lv_aload_n F.1 F.2.1 dJ7_fill_53178_10 rfl (lv_at hl 0 rfl) ?_
        refine lv_iload_n F.1 F.2.1 dJ7_fill_53178_11 rfl (lv_at hl 2 rfl) ?_
        refine lv_iload_n F.1 F.2.1 dJ7_fill_53178_12 rfl (lv_at hl 1 rfl) ?_
        obtain ⟨c, h⟩ := op_g h
        obtain ⟨f_6, e9, h⟩ := op_st h
        refine k_iast F G 0 rfl c dJ7_fill_53178_13 (Wn := (gA T aA nn f_6)) (by subst e9; rfl) (fun H locs G => ?_)
        clear e9
        refine lv_iinc (v := (x2_2 + 1)) (lv' := [(2, .int (x2_2 + 1)), (0, .ref aA), (1, .int x1_1), (3, .int x3_3)]) F.1 F.2.1 dJ7_fill_53178_14 hl (k := 2) rfl rfl (by decide) rfl (fun ls hl => ?_)
        refine lv_goto (tgt := 5) F.1 F.2.1 dJ7_fill_53178_17 (by decide) ?_
        exact ih (x2_2 + 1) f_6 _ _ _ h G (lv_sub hl [1, 2, 0, 3] rfl)
  refine L5 nn x1 (Int32.ofNat nn) _ (fun f_5 H locs ls h G hl => ?_) fu 0 f _ _ _ h G (lv_sub hl [2, 3, 1, 0] rfl)
  clear L5
  obtain rfl := op_1 h
  exact k_vret F hr hlk G dJ7_fill_53178_20

theorem fill_L (x1 : Int32) (n0 : Nat) (hn0 : n0 < 2 ^ 31) (K : (Nat → Int32) → Option (Nat → Int32)) : ∀ (n j : Nat) (f : Nat → Int32), j ≤ n0 → n0 - j < n → qJ7_fill_53178_g_L5 n0 x1 (Int32.ofNat n0) K n (nI j) f = K (fun k => if j ≤ k ∧ k < n0 then x1 else f k)
  | 0, j, f, _, h => absurd h (Nat.not_lt_zero _)
  | n + 1, j, f, hj, h => by
    rw [qJ7_fill_53178_g_L5]
    by_cases hc : j = n0
    · rw [if_pos (show Int32.ofNat n0 ≤ nI j from nI_le (by omega) (by omega))]
      congr 1
      funext k
      rw [if_neg (by omega)]
    · rw [if_neg (show ¬ Int32.ofNat n0 ≤ nI j from nI_ge (by omega) (by omega)), gd_t (vp_in_nI (by omega) (by omega)), nI_1]
      show qJ7_fill_53178_g_L5 n0 x1 (Int32.ofNat n0) K n (nI (j + 1)) (upd f (nI j).toNatClampNeg x1) = _
      rw [fill_L x1 n0 hn0 K n (j + 1) _ (by omega) (by omega), nI_clamp (by omega)]
      congr 1
      funext k
      unfold upd
      by_cases h1 : j + 1 ≤ k ∧ k < n0
      · rw [if_pos h1, if_pos (by omega)]
      · rw [if_neg h1]
        by_cases h2 : k = j
        · rw [if_pos h2, if_pos (by omega)]
        · rw [if_neg h2, if_neg (by omega)]
theorem fill_q (n : Nat) (hn : n < 3900) (f : Nat → Int32) (x1 : Int32) : qJ7_fill_53178_g n f x1 = some (kfill n x1 f) := by
  unfold qJ7_fill_53178_g
  have := fill_L x1 n (by omega) (fun f => some f) fu 0 f (by omega) (by unfold fu; omega)
  rw [nI_0] at this
  rw [this]
  congr 1
  funext k
  unfold kfill
  by_cases h : k < n
  · rw [if_pos h, if_pos ⟨Nat.zero_le _, h⟩]
  · rw [if_neg h, if_neg (fun z => h z.2)]
theorem mJ7_fill_53178 (l : Launch) (D : va_G) (T : Nat → ClassId) (aA n : Nat) (f : Nat → Int32) (x1 : Int32) (hn : n < 3900) : Ct l yJ7_fill_53178 (Cond.code yJ7_fill_53178 cJ7_fill_53178 4 none :: kAll) rmJ7_fill_53178_g D T [.ref aA, .int x1] (gA T aA n f) none (gA T aA n (kfill n x1 f)) := mJ7_fill_53178_g l D T aA n f x1 (fill_q n hn f x1)
abbrev rmX10_copyRow : Room := ({ frames := 1, cells := 0, slots := 0, locals := 20 } : Room)
set_option maxHeartbeats 4000000 in
set_option maxRecDepth 100000 in
theorem mX10_copyRow (l : Launch) (D : va_G) (T : Nat → ClassId) (aA aB n : Nat) (f f2 : Nat → Int32) (hn : n < 3900) : Ct l yX10_copyRow (Cond.code yX10_copyRow cX10_copyRow 2 none :: kAll) rmX10_copyRow D T [.ref aA, .ref aB] (gB T aA aB n f f2) none (gB T aA aB n f (kcpy n f f2)) := by
  refine Ct.of (cc := cX10_copyRow) (maxL := 2) (ret := none) (by decide +kernel) rfl (Nat.le_of_ble_eq_true rfl) ?_
  intro pr en st mi ag bl me co A ls F hr hlk hnm G hl
  have hl : lv_has ls 2 [(0, .ref aA), (1, .ref aB)] := hl
  refine lv_aload_n F.1 F.2.1 dX10_copyRow_0 rfl (lv_at hl 0 rfl) ?_
  refine lv_iconst (v := 0) F.1 F.2.1 dX10_copyRow_1 (by decide) ?_
  refine lv_aload_n F.1 F.2.1 dX10_copyRow_2 rfl (lv_at hl 1 rfl) ?_
  refine lv_iconst (v := 0) F.1 F.2.1 dX10_copyRow_3 (by decide) ?_
  refine lv_aload_n F.1 F.2.1 dX10_copyRow_4 rfl (lv_at hl 0 rfl) ?_
  refine k_alen F G 0 0 rfl rfl (v := nI n) rfl dX10_copyRow_5 ?_
  refine lv_aload_n F.1 F.2.1 dX10_copyRow_6 rfl (lv_at hl 1 rfl) ?_
  refine k_alen F G 1 0 rfl rfl (v := nI n) rfl dX10_copyRow_7 ?_
  refine va_mmin F.1 F.2.1 (F.2.2.1.trans hl.1.symm) F.2.2.2.1 (F.2.2.2.2 _ kl68) (F.2.2.2.2 _ kl69) (F.2.2.2.2 _ kl70) (F.2.2.2.2 _ kl71) (Nat.le_of_ble_eq_true rfl) (Nat.le_of_ble_eq_true rfl) (Nat.le_of_ble_eq_true rfl) (Nat.le_of_ble_eq_true rfl) dX10_copyRow_8 ?_
  rw [if_neg (nI_nlt (Nat.le_refl n) (by omega))]
  have hc : (nI n).toNatClampNeg = n := nI_clamp (by omega)
  have h0 : (0 : Int32).toNatClampNeg = 0 := rfl
  refine va_copyi F.1 F.2.1 (F.2.2.1.trans hl.1.symm) F.2.2.2.1 (F.2.2.2.2 _ kl72) (F.2.2.2.2 _ kl73) (F.2.2.2.2 _ kl74) (F.2.2.2.2 _ kl75) G.1 G.2.1 G.2.2.1 G.2.2.2.1 0 1 0 0 (ty := .int) rfl rfl rfl rfl rfl (by decide) (by decide) (nI_pos (by omega)) (by rw [hc, h0]; omega) (by rw [hc, h0]; omega) (fun _ _ => rfl) (Nat.le_of_ble_eq_true rfl) (Nat.le_of_ble_eq_true rfl) dX10_copyRow_11 (fun H locs hP hD hS => ?_)
  have e : va_cpy f f2 (0 : Int32).toNatClampNeg (0 : Int32).toNatClampNeg (nI n).toNatClampNeg = kcpy n f f2 := by
    rw [hc, h0]
    funext k
    unfold va_cpy kcpy
    by_cases h : k < n
    · rw [if_pos ⟨Nat.zero_le _, by omega⟩, if_pos h]
      congr 1
      omega
    · rw [if_neg (fun z => h (by omega)), if_neg h]
  rw [e] at hP hD
  exact k_vret (W2 := gB T aA aB n f (kcpy n f f2)) F hr hlk ⟨G.1, hP, hD, hS, G.2.2.2.2.1, G.2.2.2.2.2⟩ dX10_copyRow_14
