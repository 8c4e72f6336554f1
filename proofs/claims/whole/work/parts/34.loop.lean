-- the law's loop
theorem st_self (s : State) : s.setDrawn s.drawn = s := rfl
def StAll (Sim : (Nat → Nat → Int32) → (Nat → Nat → Int32) → (Nat → Int64) → (Nat → Nat → Int32) → (Nat → Int64) → (Nat → Nat → Int32) → (Nat → Nat → Nat → Int32) → (Nat → Nat → Int32) → Prop) : Prop := St_append Sim ∧ St_truncate Sim ∧ St_load Sim ∧ St_errorCode Sim ∧ St_errorPosition Sim ∧ St_find Sim ∧ St_count Sim ∧ St_outlet Sim ∧ St_known Sim ∧ St_needs Sim ∧ St_outletsWith Sim ∧ St_rights Sim ∧ St_load_ Sim ∧ St_strain Sim ∧ St_message Sim ∧ St_traffic Sim ∧ St_learned Sim ∧ St_grants Sim ∧ St_why Sim ∧ St_runsIn Sim ∧ St_allIn Sim ∧ St_peakIn Sim ∧ St_sentIn Sim ∧ St_run Sim ∧ St_blackout Sim ∧ St_want Sim ∧ St_setFuse Sim ∧ St_setPriority Sim ∧ St_forget Sim ∧ St_undo Sim ∧ St_save Sim ∧ St_restore Sim
theorem lw_end {p : Program} {l : Launch} {e : Env} {s : State} {m : MethodId} {below : List Frame} {meth : Method} {c : Code} {b : Nat} {H : Heap} {locs : List Loc} {cells slots : Nat} {ls : Array Slot} (hx : p.tables.exec = Jvm.exec) (hb : c.code = code) (hr : meth.sig.returnType = ret) (hlk : meth.locks = false) (hf : ∀ q ∈ locs, s.heap.size ≤ q.base) (hc : cells ≤ 601024) (hs : slots ≤ 7293034) :
    W p l e room_1 s m #[.ref b] below meth c H locs cells slots (lw_Z below #[.ref b] s) (F0 m 1915 ls []) := by
  refine lv_iconst (v := 1) hx hb dL_law_1915 (by decide) ?_
  refine va_forget hf ?_
  refine W.widen (k := 601024) (n := 7293034) hc hs ?_
  have h := lw_ret (l := l) (e := e) (p := p) (m := m) (below := below) (c := c) (H := H) (ls := ls) (b := b) (s := s) (Drawn.sameBut.refl s.drawn lw_cs) hx hb hr hlk (meth := meth) dL_law_1916
  rw [st_self] at h
  exact h
theorem nI_addL (n j : Nat) : nI n + Int32.ofNat j = nI (n + j) := nI_add n j
theorem loop_in {L k : Nat} (hL : L ≤ 3072) (c : ¬ (Int32.ofNat L - 6 < nI (6 * k))) (hk : 6 * k ≤ 6144) : 6 * k + 6 ≤ L := by
  rcases Nat.lt_or_ge L (6 * k + 6) with h | h
  · exfalso
    apply c
    rw [Int32.lt_iff_toInt_lt, nI_toInt (by omega)]
    have h6 : (6 : Int32).toInt = 6 := by decide
    have hLt : (Int32.ofNat L).toInt = L := nI_toInt (by omega)
    rw [Int32.toInt_sub, hLt, h6]
    rw [Int.bmod_eq_of_le (by omega) (by omega)]
    omega
  · exact h
section LL
variable {p : Program} {l : Launch} {e : Env} {s : State} {m : MethodId} {below : List Frame} {meth : Method} {c : Code}
variable {D : va_G} {T : Nat → ClassId} {A : Nat → Prop} {aF aR aD aP aH : Nat → Nat} {aW : Nat → Nat → Nat} {aO : Nat} {aM : Nat → Nat} {b L : Nat} {xs : Nat → Int32}
set_option maxHeartbeats 8000000 in
set_option maxRecDepth 100000 in
theorem law_turn {Sim : (Nat → Nat → Int32) → (Nat → Nat → Int32) → (Nat → Int64) → (Nat → Nat → Int32) → (Nat → Int64) → (Nat → Nat → Int32) → (Nat → Nat → Nat → Int32) → (Nat → Nat → Int32) → Prop} (HS : StAll Sim) (hst : l.stackTraces = false) (F : CallFix p m c code 9 s #[.ref b] kAll RL) (hAL : ∀ w ∈ kAL, w.before #[.ref b] s = true) (hr : meth.sig.returnType = ret) (hlk : meth.locks = false) (hX : va_X b L xs s s.heap) (hbl : b < s.heap.size) (hbA : ¬ A b) {cells slots : Nat} {Q : State → Prop} {x4 : Int32} (hi0 : vp_in x4 L) (hi1 : vp_in (x4 + 1) L) (hi2 : vp_in (x4 + 2) L) (hi3 : vp_in (x4 + 3) L) (hi4 : vp_in (x4 + 4) L) (hi5 : vp_in (x4 + 5) L) (hcs : cells + 2 ≤ 601024 ∧ slots + 12 ≤ 7293034)
    (kk : ∀ (tx : Nat → Nat → Int32) (ps : Nat → Nat → Int32) (nm : Nat → Int64) (v : Nat → Nat → Int32) (vn : Nat → Int64) (hs : Nat → Nat → Int32) (ww : Nat → Nat → Nat → Int32) (out : Nat → Int64) (z : Nat → Nat → Int32) (H : Heap) (locs : List Loc) (ls : Array Slot), Sim tx ps nm v vn hs ww z → Rg D T A s (gL T aF aR aD aP aH aW aO aM tx ps nm v vn hs ww out z) H locs → lv_has ls 9 [(4, .int x4), (3, .ref aO), (2, .ref (aM 0)), (1, .ref (aF 0)), (0, .ref b)] → W p l e room_1 s m #[.ref b] below meth c H locs (cells + 2) (slots + 12) Q (F0 m 1909 ls [])) (tx : Nat → Nat → Int32) (ps : Nat → Nat → Int32) (nm : Nat → Int64) (v : Nat → Nat → Int32) (vn : Nat → Int64) (hs : Nat → Nat → Int32) (ww : Nat → Nat → Nat → Int32) (out : Nat → Int64) (z : Nat → Nat → Int32) (H : Heap) (locs : List Loc) (ls : Array Slot) (hS : Sim tx ps nm v vn hs ww z) (G : Rg D T A s (gL T aF aR aD aP aH aW aO aM tx ps nm v vn hs ww out z) H locs) (hl : lv_has ls 9 [(4, .int x4), (3, .ref aO), (2, .ref (aM 0)), (1, .ref (aF 0)), (0, .ref b)]) : W p l e room_1 s m #[.ref b] below meth c H locs cells slots Q (F0 m 33 ls []) := by
  obtain ⟨H0, H1, H2, H3, H4, H5, H6, H7, H8, H9, H10, H11, H12, H13, H14, H15, H16, H17, H18, H19, H20, H21, H22, H23, H24, H25, H26, H27, H28, H29, H30, H31⟩ := HS
  refine lv_aload_n F.1 F.2.1 dL_law_33 rfl (lv_at hl 4 rfl) ?_
  refine lv_iload F.1 F.2.1 dL_law_34 (lv_at hl 0 rfl) ?_
  refine va_sld F.1 F.2.1 hX hbl hbA G.2.2.2.1 hi0 dL_law_36 ?_
  refine lv_bipush (v := 31) F.1 F.2.1 dL_law_37 (by decide) ?_
  refine lv_iand F.1 F.2.1 dL_law_39 ?_
  refine lv_topi (fun y hy => ?_)
  by_cases c0 : y = 0
  · refine k_tab F dL_law_40 (tgt := 184) 0 c0 (by decide) (by decide) rfl (by decide) ?_
    exact lc_append H0 hst F hAL hr hlk hX hbl hbA hi1 hi2 hi3 hi4 hi5 hcs hS (fun tx ps nm v vn hs ww out z H locs ls hS G hl => W.widen (k := cells + 2) (n := slots + 12) (by omega) (by omega) (kk tx ps nm v vn hs ww out z H locs ls hS G hl)) G hl
  by_cases c1 : y = 1
  · refine k_tab F dL_law_40 (tgt := 288) 1 c1 (by decide) (by decide) rfl (by decide) ?_
    exact lc_truncate H1 hst F hAL hr hlk hX hbl hbA hi1 hi2 hi3 hi4 hi5 hcs hS (fun tx ps nm v vn hs ww out z H locs ls hS G hl => W.widen (k := cells + 2) (n := slots + 12) (by omega) (by omega) (kk tx ps nm v vn hs ww out z H locs ls hS G hl)) G hl
  by_cases c2 : y = 2
  · refine k_tab F dL_law_40 (tgt := 344) 2 c2 (by decide) (by decide) rfl (by decide) ?_
    exact lc_load H2 hst F hAL hr hlk hX hbl hbA hi1 hi2 hi3 hi4 hi5 hcs hS (fun tx ps nm v vn hs ww out z H locs ls hS G hl => W.widen (k := cells + 2) (n := slots + 12) (by omega) (by omega) (kk tx ps nm v vn hs ww out z H locs ls hS G hl)) G hl
  by_cases c3 : y = 3
  · refine k_tab F dL_law_40 (tgt := 388) 3 c3 (by decide) (by decide) rfl (by decide) ?_
    exact lc_errorCode H3 hst F hAL hr hlk hX hbl hbA hi1 hi2 hi3 hi4 hi5 hcs hS (fun tx ps nm v vn hs ww out z H locs ls hS G hl => W.widen (k := cells + 2) (n := slots + 12) (by omega) (by omega) (kk tx ps nm v vn hs ww out z H locs ls hS G hl)) G hl
  by_cases c4 : y = 4
  · refine k_tab F dL_law_40 (tgt := 401) 4 c4 (by decide) (by decide) rfl (by decide) ?_
    exact lc_errorPosition H4 hst F hAL hr hlk hX hbl hbA hi1 hi2 hi3 hi4 hi5 hcs hS (fun tx ps nm v vn hs ww out z H locs ls hS G hl => W.widen (k := cells + 2) (n := slots + 12) (by omega) (by omega) (kk tx ps nm v vn hs ww out z H locs ls hS G hl)) G hl
  by_cases c5 : y = 5
  · refine k_tab F dL_law_40 (tgt := 414) 5 c5 (by decide) (by decide) rfl (by decide) ?_
    exact lc_find H5 hst F hAL hr hlk hX hbl hbA hi1 hi2 hi3 hi4 hi5 hcs hS (fun tx ps nm v vn hs ww out z H locs ls hS G hl => W.widen (k := cells + 2) (n := slots + 12) (by omega) (by omega) (kk tx ps nm v vn hs ww out z H locs ls hS G hl)) G hl
  by_cases c6 : y = 6
  · refine k_tab F dL_law_40 (tgt := 458) 6 c6 (by decide) (by decide) rfl (by decide) ?_
    exact lc_count H6 hst F hAL hr hlk hX hbl hbA hi1 hi2 hi3 hi4 hi5 hcs hS (fun tx ps nm v vn hs ww out z H locs ls hS G hl => W.widen (k := cells + 2) (n := slots + 12) (by omega) (by omega) (kk tx ps nm v vn hs ww out z H locs ls hS G hl)) G hl
  by_cases c7 : y = 7
  · refine k_tab F dL_law_40 (tgt := 514) 7 c7 (by decide) (by decide) rfl (by decide) ?_
    exact lc_outlet H7 hst F hAL hr hlk hX hbl hbA hi1 hi2 hi3 hi4 hi5 hcs hS (fun tx ps nm v vn hs ww out z H locs ls hS G hl => kk tx ps nm v vn hs ww out z H locs ls hS G hl) G hl
  by_cases c8 : y = 8
  · refine k_tab F dL_law_40 (tgt := 582) 8 c8 (by decide) (by decide) rfl (by decide) ?_
    exact lc_known H8 hst F hAL hr hlk hX hbl hbA hi1 hi2 hi3 hi4 hi5 hcs hS (fun tx ps nm v vn hs ww out z H locs ls hS G hl => kk tx ps nm v vn hs ww out z H locs ls hS G hl) G hl
  by_cases c9 : y = 9
  · refine k_tab F dL_law_40 (tgt := 650) 9 c9 (by decide) (by decide) rfl (by decide) ?_
    exact lc_needs H9 hst F hAL hr hlk hX hbl hbA hi1 hi2 hi3 hi4 hi5 hcs hS (fun tx ps nm v vn hs ww out z H locs ls hS G hl => W.widen (k := cells + 2) (n := slots + 12) (by omega) (by omega) (kk tx ps nm v vn hs ww out z H locs ls hS G hl)) G hl
  by_cases c10 : y = 10
  · refine k_tab F dL_law_40 (tgt := 734) 10 c10 (by decide) (by decide) rfl (by decide) ?_
    exact lc_outletsWith H10 hst F hAL hr hlk hX hbl hbA hi1 hi2 hi3 hi4 hi5 hcs hS (fun tx ps nm v vn hs ww out z H locs ls hS G hl => W.widen (k := cells + 2) (n := slots + 12) (by omega) (by omega) (kk tx ps nm v vn hs ww out z H locs ls hS G hl)) G hl
  by_cases c11 : y = 11
  · refine k_tab F dL_law_40 (tgt := 818) 11 c11 (by decide) (by decide) rfl (by decide) ?_
    exact lc_rights H11 hst F hAL hr hlk hX hbl hbA hi1 hi2 hi3 hi4 hi5 hcs hS (fun tx ps nm v vn hs ww out z H locs ls hS G hl => W.widen (k := cells + 2) (n := slots + 12) (by omega) (by omega) (kk tx ps nm v vn hs ww out z H locs ls hS G hl)) G hl
  by_cases c12 : y = 12
  · refine k_tab F dL_law_40 (tgt := 831) 12 c12 (by decide) (by decide) rfl (by decide) ?_
    exact lc_load_ H12 hst F hAL hr hlk hX hbl hbA hi1 hi2 hi3 hi4 hi5 hcs hS (fun tx ps nm v vn hs ww out z H locs ls hS G hl => W.widen (k := cells + 2) (n := slots + 12) (by omega) (by omega) (kk tx ps nm v vn hs ww out z H locs ls hS G hl)) G hl
  by_cases c13 : y = 13
  · refine k_tab F dL_law_40 (tgt := 887) 13 c13 (by decide) (by decide) rfl (by decide) ?_
    exact lc_strain H13 hst F hAL hr hlk hX hbl hbA hi1 hi2 hi3 hi4 hi5 hcs hS (fun tx ps nm v vn hs ww out z H locs ls hS G hl => W.widen (k := cells + 2) (n := slots + 12) (by omega) (by omega) (kk tx ps nm v vn hs ww out z H locs ls hS G hl)) G hl
  by_cases c14 : y = 14
  · refine k_tab F dL_law_40 (tgt := 928) 14 c14 (by decide) (by decide) rfl (by decide) ?_
    exact lc_message H14 hst F hAL hr hlk hX hbl hbA hi1 hi2 hi3 hi4 hi5 hcs hS (fun tx ps nm v vn hs ww out z H locs ls hS G hl => W.widen (k := cells + 2) (n := slots + 12) (by omega) (by omega) (kk tx ps nm v vn hs ww out z H locs ls hS G hl)) G hl
  by_cases c15 : y = 15
  · refine k_tab F dL_law_40 (tgt := 996) 15 c15 (by decide) (by decide) rfl (by decide) ?_
    exact lc_traffic H15 hst F hAL hr hlk hX hbl hbA hi1 hi2 hi3 hi4 hi5 hcs hS (fun tx ps nm v vn hs ww out z H locs ls hS G hl => W.widen (k := cells + 2) (n := slots + 12) (by omega) (by omega) (kk tx ps nm v vn hs ww out z H locs ls hS G hl)) G hl
  by_cases c16 : y = 16
  · refine k_tab F dL_law_40 (tgt := 1080) 16 c16 (by decide) (by decide) rfl (by decide) ?_
    exact lc_learned H16 hst F hAL hr hlk hX hbl hbA hi1 hi2 hi3 hi4 hi5 hcs hS (fun tx ps nm v vn hs ww out z H locs ls hS G hl => W.widen (k := cells + 2) (n := slots + 12) (by omega) (by omega) (kk tx ps nm v vn hs ww out z H locs ls hS G hl)) G hl
  by_cases c17 : y = 17
  · refine k_tab F dL_law_40 (tgt := 1136) 17 c17 (by decide) (by decide) rfl (by decide) ?_
    exact lc_grants H17 hst F hAL hr hlk hX hbl hbA hi1 hi2 hi3 hi4 hi5 hcs hS (fun tx ps nm v vn hs ww out z H locs ls hS G hl => W.widen (k := cells + 2) (n := slots + 12) (by omega) (by omega) (kk tx ps nm v vn hs ww out z H locs ls hS G hl)) G hl
  by_cases c18 : y = 18
  · refine k_tab F dL_law_40 (tgt := 1149) 18 c18 (by decide) (by decide) rfl (by decide) ?_
    exact lc_why H18 hst F hAL hr hlk hX hbl hbA hi1 hi2 hi3 hi4 hi5 hcs hS (fun tx ps nm v vn hs ww out z H locs ls hS G hl => W.widen (k := cells + 2) (n := slots + 12) (by omega) (by omega) (kk tx ps nm v vn hs ww out z H locs ls hS G hl)) G hl
  by_cases c19 : y = 19
  · refine k_tab F dL_law_40 (tgt := 1205) 19 c19 (by decide) (by decide) rfl (by decide) ?_
    exact lc_runsIn H19 hst F hAL hr hlk hX hbl hbA hi1 hi2 hi3 hi4 hi5 hcs hS (fun tx ps nm v vn hs ww out z H locs ls hS G hl => kk tx ps nm v vn hs ww out z H locs ls hS G hl) G hl
  by_cases c20 : y = 20
  · refine k_tab F dL_law_40 (tgt := 1261) 20 c20 (by decide) (by decide) rfl (by decide) ?_
    exact lc_allIn H20 hst F hAL hr hlk hX hbl hbA hi1 hi2 hi3 hi4 hi5 hcs hS (fun tx ps nm v vn hs ww out z H locs ls hS G hl => kk tx ps nm v vn hs ww out z H locs ls hS G hl) G hl
  by_cases c21 : y = 21
  · refine k_tab F dL_law_40 (tgt := 1317) 21 c21 (by decide) (by decide) rfl (by decide) ?_
    exact lc_peakIn H21 hst F hAL hr hlk hX hbl hbA hi1 hi2 hi3 hi4 hi5 hcs hS (fun tx ps nm v vn hs ww out z H locs ls hS G hl => kk tx ps nm v vn hs ww out z H locs ls hS G hl) G hl
  by_cases c22 : y = 22
  · refine k_tab F dL_law_40 (tgt := 1385) 22 c22 (by decide) (by decide) rfl (by decide) ?_
    exact lc_sentIn H22 hst F hAL hr hlk hX hbl hbA hi1 hi2 hi3 hi4 hi5 hcs hS (fun tx ps nm v vn hs ww out z H locs ls hS G hl => kk tx ps nm v vn hs ww out z H locs ls hS G hl) G hl
  by_cases c23 : y = 23
  · refine k_tab F dL_law_40 (tgt := 1453) 23 c23 (by decide) (by decide) rfl (by decide) ?_
    exact lc_run H23 hst F hAL hr hlk hX hbl hbA hi1 hi2 hi3 hi4 hi5 hcs hS (fun tx ps nm v vn hs ww out z H locs ls hS G hl => kk tx ps nm v vn hs ww out z H locs ls hS G hl) G hl
  by_cases c24 : y = 24
  · refine k_tab F dL_law_40 (tgt := 1509) 24 c24 (by decide) (by decide) rfl (by decide) ?_
    exact lc_blackout H24 hst F hAL hr hlk hX hbl hbA hi1 hi2 hi3 hi4 hi5 hcs hS (fun tx ps nm v vn hs ww out z H locs ls hS G hl => W.widen (k := cells + 2) (n := slots + 12) (by omega) (by omega) (kk tx ps nm v vn hs ww out z H locs ls hS G hl)) G hl
  by_cases c25 : y = 25
  · refine k_tab F dL_law_40 (tgt := 1565) 25 c25 (by decide) (by decide) rfl (by decide) ?_
    exact lc_want H25 hst F hAL hr hlk hX hbl hbA hi1 hi2 hi3 hi4 hi5 hcs hS (fun tx ps nm v vn hs ww out z H locs ls hS G hl => W.widen (k := cells + 2) (n := slots + 12) (by omega) (by omega) (kk tx ps nm v vn hs ww out z H locs ls hS G hl)) G hl
  by_cases c26 : y = 26
  · refine k_tab F dL_law_40 (tgt := 1656) 26 c26 (by decide) (by decide) rfl (by decide) ?_
    exact lc_setFuse H26 hst F hAL hr hlk hX hbl hbA hi1 hi2 hi3 hi4 hi5 hcs hS (fun tx ps nm v vn hs ww out z H locs ls hS G hl => W.widen (k := cells + 2) (n := slots + 12) (by omega) (by omega) (kk tx ps nm v vn hs ww out z H locs ls hS G hl)) G hl
  by_cases c27 : y = 27
  · refine k_tab F dL_law_40 (tgt := 1712) 27 c27 (by decide) (by decide) rfl (by decide) ?_
    exact lc_setPriority H27 hst F hAL hr hlk hX hbl hbA hi1 hi2 hi3 hi4 hi5 hcs hS (fun tx ps nm v vn hs ww out z H locs ls hS G hl => kk tx ps nm v vn hs ww out z H locs ls hS G hl) G hl
  by_cases c28 : y = 28
  · refine k_tab F dL_law_40 (tgt := 1780) 28 c28 (by decide) (by decide) rfl (by decide) ?_
    exact lc_forget H28 hst F hAL hr hlk hX hbl hbA hi1 hi2 hi3 hi4 hi5 hcs hS (fun tx ps nm v vn hs ww out z H locs ls hS G hl => W.widen (k := cells + 2) (n := slots + 12) (by omega) (by omega) (kk tx ps nm v vn hs ww out z H locs ls hS G hl)) G hl
  by_cases c29 : y = 29
  · refine k_tab F dL_law_40 (tgt := 1793) 29 c29 (by decide) (by decide) rfl (by decide) ?_
    exact lc_undo H29 hst F hAL hr hlk hX hbl hbA hi1 hi2 hi3 hi4 hi5 hcs hS (fun tx ps nm v vn hs ww out z H locs ls hS G hl => W.widen (k := cells + 2) (n := slots + 12) (by omega) (by omega) (kk tx ps nm v vn hs ww out z H locs ls hS G hl)) G hl
  by_cases c30 : y = 30
  · refine k_tab F dL_law_40 (tgt := 1837) 30 c30 (by decide) (by decide) rfl (by decide) ?_
    exact lc_save H30 hst F hAL hr hlk hX hbl hbA hi1 hi2 hi3 hi4 hi5 hcs hS (fun tx ps nm v vn hs ww out z H locs ls hS G hl => W.widen (k := cells + 2) (n := slots + 12) (by omega) (by omega) (kk tx ps nm v vn hs ww out z H locs ls hS G hl)) G hl
  by_cases c31 : y = 31
  · refine k_tab F dL_law_40 (tgt := 1873) 31 c31 (by decide) (by decide) rfl (by decide) ?_
    exact lc_restore H31 hst F hAL hr hlk hX hbl hbA hi1 hi2 hi3 hi4 hi5 hcs hS (fun tx ps nm v vn hs ww out z H locs ls hS G hl => kk tx ps nm v vn hs ww out z H locs ls hS G hl) G hl
  refine lv_tableOut (tgt := 1909) F.1 F.2.1 dL_law_40 (tab_out 32 (by decide) (lt_s (lt_s (lt_s (lt_s (lt_s (lt_s (lt_s (lt_s (lt_s (lt_s (lt_s (lt_s (lt_s (lt_s (lt_s (lt_s (lt_s (lt_s (lt_s (lt_s (lt_s (lt_s (lt_s (lt_s (lt_s (lt_s (lt_s (lt_s (lt_s (lt_s (lt_s (lt_s lt_0 c0) c1) c2) c3) c4) c5) c6) c7) c8) c9) c10) c11) c12) c13) c14) c15) c16) c17) c18) c19) c20) c21) c22) c23) c24) c25) c26) c27) c28) c29) c30) c31)) (by decide) ?_
  exact W.widen (k := cells + 2) (n := slots + 12) (by omega) (by omega) (kk tx ps nm v vn hs ww out z H locs ls hS G hl)
set_option maxHeartbeats 8000000 in
theorem law_loop {Sim : (Nat → Nat → Int32) → (Nat → Nat → Int32) → (Nat → Int64) → (Nat → Nat → Int32) → (Nat → Int64) → (Nat → Nat → Int32) → (Nat → Nat → Nat → Int32) → (Nat → Nat → Int32) → Prop} (HS : StAll Sim) (hst : l.stackTraces = false) (F : CallFix p m c code 9 s #[.ref b] kAll RL) (hAL : ∀ w ∈ kAL, w.before #[.ref b] s = true) (hr : meth.sig.returnType = ret) (hlk : meth.locks = false) (hX : va_X b L xs s s.heap) (hbl : b < s.heap.size) (hAe : A = fun q => s.heap.size ≤ q) (hL : L ≤ 3072) : ∀ (n k : Nat) (hn : L < 6 * (k + n)) (hk : 6 * k ≤ L) (tx : Nat → Nat → Int32) (ps : Nat → Nat → Int32) (nm : Nat → Int64) (v : Nat → Nat → Int32) (vn : Nat → Int64) (hs : Nat → Nat → Int32) (ww : Nat → Nat → Nat → Int32) (out : Nat → Int64) (z : Nat → Nat → Int32) (H : Heap) (locs : List Loc) (ls : Array Slot), Sim tx ps nm v vn hs ww z → Rg D T A s (gL T aF aR aD aP aH aW aO aM tx ps nm v vn hs ww out z) H locs → lv_has ls 9 [(4, .int (nI (6 * k))), (3, .ref aO), (2, .ref (aM 0)), (1, .ref (aF 0)), (0, .ref b)] → W p l e room_1 s m #[.ref b] below meth c H locs (400 + 2 * k) (20000 + 12 * k) (lw_Z below #[.ref b] s) (F0 m 23 ls []) := by
  have hbA : ¬ A b := by rw [hAe]; exact Nat.not_le.mpr hbl
  intro n
  induction n with
  | zero => intro k hn hk; omega
  | succ n ih =>
    intro k hn hk tx ps nm v vn hs ww out z H locs ls hS G hl
    have hf : ∀ q ∈ locs, s.heap.size ≤ q.base := fun q hq => by have h := G.2.2.2.1.2.2 q hq; rw [hAe] at h; exact h
    refine lv_iload F.1 F.2.1 dL_law_23 (lv_at hl 0 rfl) ?_
    refine lv_aload_n F.1 F.2.1 dL_law_25 rfl (lv_at hl 4 rfl) ?_
    refine va_slen F.1 F.2.1 hX hbl hbA G.2.2.2.1 dL_law_26 ?_
    refine lv_bipush (v := 6) F.1 F.2.1 dL_law_27 (by decide) ?_
    refine lv_isub F.1 F.2.1 dL_law_29 ?_
    refine lv_icmp_gt (tgt := 1915) F.1 F.2.1 dL_law_30 (by decide) (fun c => ?_) (fun c => ?_)
    · exact lw_end F.1 F.2.1 hr hlk hf (by omega) (by omega)
    · have h6 := loop_in hL c (by omega)
      refine law_turn HS hst F hAL hr hlk hX hbl hbA (vp_in_nI (by omega) (by omega)) (by rw [show (1 : Int32) = Int32.ofNat 1 from rfl, nI_addL]; exact vp_in_nI (by omega) (by omega)) (by rw [show (2 : Int32) = Int32.ofNat 2 from rfl, nI_addL]; exact vp_in_nI (by omega) (by omega)) (by rw [show (3 : Int32) = Int32.ofNat 3 from rfl, nI_addL]; exact vp_in_nI (by omega) (by omega)) (by rw [show (4 : Int32) = Int32.ofNat 4 from rfl, nI_addL]; exact vp_in_nI (by omega) (by omega)) (by rw [show (5 : Int32) = Int32.ofNat 5 from rfl, nI_addL]; exact vp_in_nI (by omega) (by omega)) (by omega) (fun tx ps nm v vn hs ww out z H locs ls hS G hl => ?_) tx ps nm v vn hs ww out z H locs ls hS G hl
      refine lv_iinc (v := nI (6 * (k + 1))) (lv' := [(4, .int (nI (6 * (k + 1)))), (3, .ref aO), (2, .ref (aM 0)), (1, .ref (aF 0)), (0, .ref b)]) F.1 F.2.1 dL_law_1909 hl (k := 0) rfl (by rw [show (6 * (k + 1)) = 6 * k + 6 from by omega]; exact nI_addL (6 * k) 6) (by decide) rfl (fun ls hl => ?_)
      refine lv_goto (tgt := 23) F.1 F.2.1 dL_law_1912 (by decide) ?_
      have h := ih (k + 1) (by omega) (by omega) tx ps nm v vn hs ww out z H locs ls hS G hl
      rw [show 400 + 2 * (k + 1) = 400 + 2 * k + 2 from by omega, show 20000 + 12 * (k + 1) = 20000 + 12 * k + 12 from by omega] at h
      exact h
end LL
