-- the JDK's length and charAt of a String constant
theorem kLen_lt : ∀ i, i < 9 → kLen.getD i 0 < 16 := by decide +kernel
theorem kChr_ok : ∀ i, i < 9 → ∀ j, j < kLen.getD i 0 → ((((kByt.getD i []).getD j 0) &&& 255).toUInt32 % 65536).toInt32 = (kByt.getD i []).getD j 0 ∧ narrow .char (.int ((kByt.getD i []).getD j 0)) = .int ((kByt.getD i []).getD j 0) := by decide +kernel
abbrev rmJ0_coder_7d493 : Room := ({ frames := 0, cells := 0, slots := 0, locals := 0 } : Room)
set_option maxHeartbeats 4000000 in
set_option maxRecDepth 100000 in
theorem mJ0_coder_7d493 (l : Launch) (D : va_G) (T : Nat → ClassId) (wi : Nat) (hw : wi < 9) : Ct l yJ0_coder_7d493 (Cond.code yJ0_coder_7d493 cJ0_coder_7d493 1 (some .byte) :: kAll) rmJ0_coder_7d493 D T [.ref (T (100 + wi))] [] (some (.int 0)) [] := by
  refine Ct.of (cc := cJ0_coder_7d493) (maxL := 1) (ret := (some .byte)) (by decide +kernel) rfl (Nat.le_of_ble_eq_true rfl) ?_
  intro pr en st mi ag bl me co A ls F hr hlk hnm G hl
  have hl : lv_has ls 1 [(0, .ref (T (100 + wi)))] := hl
  refine va_gets F.1 F.2.1 G.2.2.2.2.1.2.2.2.2.2.2.2.1 G.2.2.2.1 F.2.2.2.1 (F.2.2.2.2 _ kl259) (fun _ h => h) dJ0_coder_7d493_0 ?_
  refine lv_if_eq (tgt := 13) F.1 F.2.1 dJ0_coder_7d493_3 (by decide) (fun c => absurd c (by decide)) (fun _ => ?_)
  refine lv_aload_n F.1 F.2.1 dJ0_coder_7d493_6 rfl (lv_at hl 0 rfl) ?_
  refine vk_getf F.1 F.2.1 (G.2.2.2.2.1.2.1.1 wi hw).2.1 G.2.2.2.1 F.2.2.2.1 (F.2.2.2.2 _ kl260) (fun _ h => h) dJ0_coder_7d493_7 ?_
  refine lv_goto (tgt := 14) F.1 F.2.1 dJ0_coder_7d493_10 (by decide) ?_
  exact k_zret F hr rfl hlk G dJ0_coder_7d493_14
abbrev rmJ0_isLatin1_aae02 : Room := ({ frames := 0, cells := 0, slots := 0, locals := 0 } : Room)
set_option maxHeartbeats 4000000 in
set_option maxRecDepth 100000 in
theorem mJ0_isLatin1_aae02 (l : Launch) (D : va_G) (T : Nat → ClassId) (wi : Nat) (hw : wi < 9) : Ct l yJ0_isLatin1_aae02 (Cond.code yJ0_isLatin1_aae02 cJ0_isLatin1_aae02 1 (some .boolean) :: kAll) rmJ0_isLatin1_aae02 D T [.ref (T (100 + wi))] [] (some (.int 1)) [] := by
  refine Ct.of (cc := cJ0_isLatin1_aae02) (maxL := 1) (ret := (some .boolean)) (by decide +kernel) rfl (Nat.le_of_ble_eq_true rfl) ?_
  intro pr en st mi ag bl me co A ls F hr hlk hnm G hl
  have hl : lv_has ls 1 [(0, .ref (T (100 + wi)))] := hl
  refine va_gets F.1 F.2.1 G.2.2.2.2.1.2.2.2.2.2.2.2.1 G.2.2.2.1 F.2.2.2.1 (F.2.2.2.2 _ kl259) (fun _ h => h) dJ0_isLatin1_aae02_0 ?_
  refine lv_if_eq (tgt := 17) F.1 F.2.1 dJ0_isLatin1_aae02_3 (by decide) (fun c => absurd c (by decide)) (fun _ => ?_)
  refine lv_aload_n F.1 F.2.1 dJ0_isLatin1_aae02_6 rfl (lv_at hl 0 rfl) ?_
  refine vk_getf F.1 F.2.1 (G.2.2.2.2.1.2.1.1 wi hw).2.1 G.2.2.2.1 F.2.2.2.1 (F.2.2.2.2 _ kl260) (fun _ h => h) dJ0_isLatin1_aae02_7 ?_
  refine lv_if_ne (tgt := 17) F.1 F.2.1 dJ0_isLatin1_aae02_10 (by decide) (fun c => absurd rfl c) (fun _ => ?_)
  refine lv_iconst (v := 1) F.1 F.2.1 dJ0_isLatin1_aae02_13 (by decide) ?_
  refine lv_goto (tgt := 18) F.1 F.2.1 dJ0_isLatin1_aae02_14 (by decide) ?_
  exact k_zret F hr rfl hlk G dJ0_isLatin1_aae02_18
abbrev rmJ0_length_8abf5 : Room := ({ frames := 1, cells := 0, slots := 0, locals := 20 } : Room)
set_option maxHeartbeats 4000000 in
set_option maxRecDepth 100000 in
theorem mJ0_length_8abf5 (l : Launch) (D : va_G) (T : Nat → ClassId) (wi : Nat) (hw : wi < 9) : Ct l yJ0_length_8abf5 (Cond.code yJ0_length_8abf5 cJ0_length_8abf5 1 (some .int) :: kAll) rmJ0_length_8abf5 D T [.ref (T (100 + wi))] [] (some (.int (kLenI wi))) [] := by
  refine Ct.of (cc := cJ0_length_8abf5) (maxL := 1) (ret := (some .int)) (by decide +kernel) rfl (Nat.le_of_ble_eq_true rfl) ?_
  intro pr en st mi ag bl me co A ls F hr hlk hnm G hl
  have hl : lv_has ls 1 [(0, .ref (T (100 + wi)))] := hl
  have hlen := kLen_lt wi hw
  refine lv_aload_n F.1 F.2.1 dJ0_length_8abf5_0 rfl (lv_at hl 0 rfl) ?_
  refine vk_getf F.1 F.2.1 (G.2.2.2.2.1.2.1.1 wi hw).2.2.1 G.2.2.2.1 F.2.2.2.1 (F.2.2.2.2 _ kl262) (fun _ h => h) dJ0_length_8abf5_1 ?_
  refine va_tlen F.1 F.2.1 (G.2.2.2.2.1.2.1.1 wi hw).2.2.2 G.2.2.2.1 (v := kLenI wi) rfl dJ0_length_8abf5_4 ?_
  refine lv_aload_n F.1 F.2.1 dJ0_length_8abf5_5 rfl (lv_at hl 0 rfl) ?_
  refine k_callVR (rv := some (.int 0)) (Wc := []) (W2 := []) (Wn := []) (As := []) (rest := [.int (kLenI wi)]) F G (mJ0_coder_7d493 l D T wi hw) (cwV 0 F.2.2.2.2 (kg_c kl263 (kg_c kl264 (kg_c kl265 (kg_c kl266 (kg_c kl258 kg_a))))) rfl rfl rfl (by decide +kernel) ⟨Nat.le_of_ble_eq_true rfl, Nat.le_of_ble_eq_true rfl⟩) (k_strv G hw) (kCut_0 G) rfl hl.1 rfl (Nat.le_of_ble_eq_true rfl) dJ0_length_8abf5_6 ⟨Nat.le_of_ble_eq_true rfl, Nat.le_of_ble_eq_true rfl⟩ (cN := 0) (sN := 0) ⟨rfl, rfl⟩ (fun H locs G => ?_)
  refine lv_ishr F.1 F.2.1 dJ0_length_8abf5_9 ?_
  rw [sb_shr0]
  exact k_iret F hr hlk G dJ0_length_8abf5_10
abbrev rmJ3_checkIndex_8e157 : Room := ({ frames := 0, cells := 0, slots := 0, locals := 0 } : Room)
set_option maxHeartbeats 4000000 in
set_option maxRecDepth 100000 in
theorem mJ3_checkIndex_8e157 (l : Launch) (D : va_G) (T : Nat → ClassId) (x n : Int32) (t : Value) (ht : t.isRef = true) (h0 : ¬ x < 0) (h1 : x < n) : Ct l yJ3_checkIndex_8e157 (Cond.code yJ3_checkIndex_8e157 cJ3_checkIndex_8e157 3 (some .int) :: kAll) rmJ3_checkIndex_8e157 D T [.int x, .int n, t] [] (some (.int x)) [] := by
  refine Ct.of (cc := cJ3_checkIndex_8e157) (maxL := 3) (ret := (some .int)) (by decide +kernel) rfl (by cases t <;> first | exact Nat.le_of_ble_eq_true rfl | (simp [Value.isRef] at ht)) ?_
  intro pr en st mi ag bl me co A ls F hr hlk hnm G hl
  have hl : lv_has ls 3 [(0, .int x), (1, .int n), (2, t)] := by
    cases t <;> first | exact hl | (simp [Value.isRef] at ht)
  refine lv_iload_n F.1 F.2.1 dJ3_checkIndex_8e157_0 rfl (lv_at hl 0 rfl) ?_
  refine lv_if_lt (tgt := 9) F.1 F.2.1 dJ3_checkIndex_8e157_1 (by decide) (fun c => absurd c h0) (fun _ => ?_)
  refine lv_iload_n F.1 F.2.1 dJ3_checkIndex_8e157_4 rfl (lv_at hl 0 rfl) ?_
  refine lv_iload_n F.1 F.2.1 dJ3_checkIndex_8e157_5 rfl (lv_at hl 1 rfl) ?_
  refine lv_icmp_lt (tgt := 16) F.1 F.2.1 dJ3_checkIndex_8e157_6 (by decide) (fun _ => ?_) (fun c => absurd h1 c)
  refine lv_iload_n F.1 F.2.1 dJ3_checkIndex_8e157_16 rfl (lv_at hl 0 rfl) ?_
  exact k_iret F hr hlk G dJ3_checkIndex_8e157_17
abbrev rmJ0_checkIndex_df160 : Room := ({ frames := 1, cells := 0, slots := 0, locals := 22 } : Room)
set_option maxHeartbeats 4000000 in
set_option maxRecDepth 100000 in
theorem mJ0_checkIndex_df160 (l : Launch) (D : va_G) (T : Nat → ClassId) (x n : Int32) (h0 : ¬ x < 0) (h1 : x < n) : Ct l yJ0_checkIndex_df160 (Cond.code yJ0_checkIndex_df160 cJ0_checkIndex_df160 2 none :: kAll) rmJ0_checkIndex_df160 D T [.int x, .int n] [] none [] := by
  refine Ct.of (cc := cJ0_checkIndex_df160) (maxL := 2) (ret := none) (by decide +kernel) rfl (Nat.le_of_ble_eq_true rfl) ?_
  intro pr en st mi ag bl me co A ls F hr hlk hnm G hl
  have hl : lv_has ls 2 [(0, .int x), (1, .int n)] := hl
  refine lv_iload_n F.1 F.2.1 dJ0_checkIndex_df160_0 rfl (lv_at hl 0 rfl) ?_
  refine lv_iload_n F.1 F.2.1 dJ0_checkIndex_df160_1 rfl (lv_at hl 1 rfl) ?_
  have go : ∀ t : Value, t.isRef = true → W pr l en rmJ0_checkIndex_df160 st mi ag bl me co st.heap [] 0 0 (MQ bl (kQ none D [] A) ag st rmJ0_checkIndex_df160.cells rmJ0_checkIndex_df160.slots A) (F0 mi 5 ls [t, .int n, .int x]) := by
    intro t ht
    refine k_callS (rv := some (.int x)) (Wc := []) (W2 := []) (Wn := []) (As := [.int x, .int n, t]) (rest := []) F G (mJ3_checkIndex_8e157 l D T x n t ht h0 h1) (va_cwS 3 F.2.2.2.2 (kg_c kl272 (kg_c kl273 (kg_c kl274 (kg_c kl269 kg_a)))) rfl rfl rfl (by decide +kernel) ⟨Nat.le_of_ble_eq_true rfl, Nat.le_of_ble_eq_true rfl⟩) (kCut_0 G) rfl hl.1 rfl (Nat.le_of_ble_eq_true rfl) dJ0_checkIndex_df160_5 ⟨Nat.le_of_ble_eq_true rfl, Nat.le_of_ble_eq_true rfl⟩ (cN := 0) (sN := 0) ⟨rfl, rfl⟩ (fun H locs G => ?_)
    refine lv_pop F.1 F.2.1 dJ0_checkIndex_df160_8 rfl ?_
    exact k_vret F hr hlk G dJ0_checkIndex_df160_9
  rcases G.2.2.2.2.1.2.2.2.2.2.2.2.2.1 with h | ⟨q, h⟩
  · refine va_gets F.1 F.2.1 h G.2.2.2.1 F.2.2.2.1 (F.2.2.2.2 _ kl271) (fun _ h => h) dJ0_checkIndex_df160_2 ?_
    exact go _ rfl
  · refine va_gets F.1 F.2.1 h G.2.2.2.1 F.2.2.2.1 (F.2.2.2.2 _ kl271) (fun _ h => h) dJ0_checkIndex_df160_2 ?_
    exact go _ rfl
abbrev rmJ1_charAt_3b067 : Room := ({ frames := 2, cells := 0, slots := 0, locals := 43 } : Room)
set_option maxHeartbeats 4000000 in
set_option maxRecDepth 100000 in
theorem mJ1_charAt_3b067 (l : Launch) (D : va_G) (T : Nat → ClassId) (wi : Nat) (x1 : Int32) (hw : wi < 9) (hx : vp_in x1 (kLen.getD wi 0)) : Ct l yJ1_charAt_3b067 (Cond.code yJ1_charAt_3b067 cJ1_charAt_3b067 2 (some .char) :: kAll) rmJ1_charAt_3b067 D T [.ref (T (200 + wi)), .int x1] [] (some (.int (kChr wi x1))) [] := by
  refine Ct.of (cc := cJ1_charAt_3b067) (maxL := 2) (ret := (some .char)) (by decide +kernel) rfl (Nat.le_of_ble_eq_true rfl) ?_
  intro pr en st mi ag bl me co A ls F hr hlk hnm G hl
  have hl : lv_has ls 2 [(0, .ref (T (200 + wi))), (1, .int x1)] := hl
  have hlen := kLen_lt wi hw
  obtain ⟨j, hj, rfl⟩ := vp_in_of hx (by omega)
  have hT := (G.2.2.2.2.1.2.1.1 wi hw).2.2.2
  refine lv_iload_n F.1 F.2.1 dJ1_charAt_3b067_0 rfl (lv_at hl 1 rfl) ?_
  refine lv_aload_n F.1 F.2.1 dJ1_charAt_3b067_1 rfl (lv_at hl 0 rfl) ?_
  refine va_tlen F.1 F.2.1 hT G.2.2.2.1 (v := nI (kLen.getD wi 0)) rfl dJ1_charAt_3b067_2 ?_
  refine k_callS (rv := none) (Wc := []) (W2 := []) (Wn := []) (As := [.int (nI j), .int (nI (kLen.getD wi 0))]) (rest := []) F G (mJ0_checkIndex_df160 l D T (nI j) (nI (kLen.getD wi 0)) (nI_pos (by omega)) (nI_lt hj (by omega))) (va_cwS 2 F.2.2.2.2 (kg_c kl276 (kg_c kl277 (kg_c kl266 (kg_c kl270 kg_a)))) rfl rfl rfl (by decide +kernel) ⟨Nat.le_of_ble_eq_true rfl, Nat.le_of_ble_eq_true rfl⟩) (kCut_0 G) rfl hl.1 rfl (Nat.le_of_ble_eq_true rfl) dJ1_charAt_3b067_3 ⟨Nat.le_of_ble_eq_true rfl, Nat.le_of_ble_eq_true rfl⟩ (cN := 0) (sN := 0) ⟨rfl, rfl⟩ (fun H locs G => ?_)
  refine lv_aload_n F.1 F.2.1 dJ1_charAt_3b067_6 rfl (lv_at hl 0 rfl) ?_
  refine lv_iload_n F.1 F.2.1 dJ1_charAt_3b067_7 rfl (lv_at hl 1 rfl) ?_
  refine va_tb F.1 F.2.1 hT G.2.2.2.1 hx (v := .int ((kByt.getD wi []).getD j 0)) (by rw [nI_clamp (by omega)]) dJ1_charAt_3b067_8 ?_
  refine lv_sipush (v := 255) F.1 F.2.1 dJ1_charAt_3b067_9 (by decide) ?_
  refine lv_iand F.1 F.2.1 dJ1_charAt_3b067_12 ?_
  refine lv_i2c (v := (kByt.getD wi []).getD j 0) F.1 F.2.1 dJ1_charAt_3b067_13 (kChr_ok wi hw j hj).1 ?_
  have e : kChr wi (nI j) = (kByt.getD wi []).getD j 0 := by unfold kChr; rw [nI_clamp (by omega)]
  rw [e]
  exact k_zret F hr (kChr_ok wi hw j hj).2 hlk G dJ1_charAt_3b067_14
abbrev rmJ0_charAt_5068e : Room := ({ frames := 3, cells := 0, slots := 0, locals := 64 } : Room)
set_option maxHeartbeats 4000000 in
set_option maxRecDepth 100000 in
theorem mJ0_charAt_5068e (l : Launch) (D : va_G) (T : Nat → ClassId) (wi : Nat) (x1 : Int32) (hw : wi < 9) (hx : vp_in x1 (kLen.getD wi 0)) : Ct l yJ0_charAt_5068e (Cond.code yJ0_charAt_5068e cJ0_charAt_5068e 2 (some .char) :: kAll) rmJ0_charAt_5068e D T [.ref (T (100 + wi)), .int x1] [] (some (.int (kChr wi x1))) [] := by
  refine Ct.of (cc := cJ0_charAt_5068e) (maxL := 2) (ret := (some .char)) (by decide +kernel) rfl (Nat.le_of_ble_eq_true rfl) ?_
  intro pr en st mi ag bl me co A ls F hr hlk hnm G hl
  have hl : lv_has ls 2 [(0, .ref (T (100 + wi))), (1, .int x1)] := hl
  have hlen := kLen_lt wi hw
  obtain ⟨j, hj, rfl⟩ := vp_in_of hx (by omega)
  refine lv_aload_n F.1 F.2.1 dJ0_charAt_5068e_0 rfl (lv_at hl 0 rfl) ?_
  refine k_callVR (rv := some (.int 1)) (Wc := []) (W2 := []) (Wn := []) (As := []) (rest := []) F G (mJ0_isLatin1_aae02 l D T wi hw) (cwV 0 F.2.2.2.2 (kg_c kl294 (kg_c kl295 (kg_c kl296 (kg_c kl266 (kg_c kl268 kg_a))))) rfl rfl rfl (by decide +kernel) ⟨Nat.le_of_ble_eq_true rfl, Nat.le_of_ble_eq_true rfl⟩) (k_strv G hw) (kCut_0 G) rfl hl.1 rfl (Nat.le_of_ble_eq_true rfl) dJ0_charAt_5068e_1 ⟨Nat.le_of_ble_eq_true rfl, Nat.le_of_ble_eq_true rfl⟩ (cN := 0) (sN := 0) ⟨rfl, rfl⟩ (fun H locs G => ?_)
  refine lv_if_eq (tgt := 16) F.1 F.2.1 dJ0_charAt_5068e_4 (by decide) (fun c => absurd c (by decide)) (fun _ => ?_)
  refine lv_aload_n F.1 F.2.1 dJ0_charAt_5068e_7 rfl (lv_at hl 0 rfl) ?_
  refine vk_getf F.1 F.2.1 (G.2.2.2.2.1.2.1.1 wi hw).2.2.1 G.2.2.2.1 F.2.2.2.1 (F.2.2.2.2 _ kl262) (fun _ h => h) dJ0_charAt_5068e_8 ?_
  refine lv_iload_n F.1 F.2.1 dJ0_charAt_5068e_11 rfl (lv_at hl 1 rfl) ?_
  refine k_callS (rv := some (.int (kChr wi (nI j)))) (Wc := []) (W2 := []) (Wn := []) (As := [.ref (T (200 + wi)), .int (nI j)]) (rest := []) F G (mJ1_charAt_3b067 l D T wi (nI j) hw hx) (va_cwS 2 F.2.2.2.2 (kg_c kl297 (kg_c kl298 (kg_c kl299 (kg_c kl275 kg_a)))) rfl rfl rfl (by decide +kernel) ⟨Nat.le_of_ble_eq_true rfl, Nat.le_of_ble_eq_true rfl⟩) (kCut_0 G) rfl hl.1 rfl (Nat.le_of_ble_eq_true rfl) dJ0_charAt_5068e_12 ⟨Nat.le_of_ble_eq_true rfl, Nat.le_of_ble_eq_true rfl⟩ (cN := 0) (sN := 0) ⟨rfl, rfl⟩ (fun H locs G => ?_)
  have e : kChr wi (nI j) = (kByt.getD wi []).getD j 0 := by unfold kChr; rw [nI_clamp (by omega)]
  have hn := (kChr_ok wi hw j hj).2
  rw [← e] at hn
  exact k_zret F hr hn hlk G dJ0_charAt_5068e_15
