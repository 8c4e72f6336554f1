-- the law's wrappers
abbrev rmL_append : Room := ({ frames := 7, cells := 1, slots := 6, locals := 115 } : Room)
set_option maxHeartbeats 8000000 in
set_option maxRecDepth 100000 in
theorem mL_append (l : Launch) (hst : l.stackTraces = false) (D : va_G) (T : Nat → ClassId) (aF : Nat → Nat) (aR : Nat → Nat) (aD : Nat → Nat) (aP : Nat → Nat) (aH : Nat → Nat) (aW : Nat → Nat → Nat) (aO : Nat) (tx : Nat → Nat → Int32) (ps : Nat → Nat → Int32) (nm : Nat → Int64) (v : Nat → Nat → Int32) (vn : Nat → Int64) (hs : Nat → Nat → Int32) (ww : Nat → Nat → Nat → Int32) (out : Nat → Int64) (x1 : Int32) (x2 : Int32) (x3 : Int32) (x4 : Int32) (x5 : Int32) {e : Nat} {r : Int32} {txR : Nat → Nat → Int32} {k : Int32} {outR : Nat → Int64} (hres : qX10_append tx ps nm v vn hs ww x1 x2 x3 x4 x5 = some (e, r, txR)) (hk : (e = 0 ∧ k = 0 ∧ outR = vp_updL out 0 r.toInt64) ∨ (e = 1 ∧ k = 1 ∧ outR = out)) : Ct l yL_append (Cond.codeWith yL_append cL_append 8 (some .int) [(0, 16, 19, 13)] :: kAL) rmL_append D T [.ref (aF 0), .int x1, .int x2, .int x3, .int x4, .int x5, .ref aO] (gO T aF aR aD aP aH aW aO tx ps nm v vn hs ww out) (some (.int k)) (gO T aF aR aD aP aH aW aO txR ps nm v vn hs ww outR) := by
  refine Ct.ofWH (cc := cL_append) (maxL := 8) (ret := (some .int)) (hh := [(0, 16, 19, 13)]) (by decide +kernel) rfl (Nat.le_of_ble_eq_true rfl) ?_
  intro pr en st mi ag bl me co A ls F hAL hr hlk htab G hl
  have hl : lv_has ls 8 [(0, .ref (aF 0)), (1, .int x1), (2, .int x2), (3, .int x3), (4, .int x4), (5, .int x5), (6, .ref aO)] := hl
  refine lv_aload F.1 F.2.1 dL_append_0 (lv_at hl 6 rfl) ?_
  refine lv_iconst (v := 0) F.1 F.2.1 dL_append_2 (by decide) ?_
  refine lv_aload_n F.1 F.2.1 dL_append_3 rfl (lv_at hl 0 rfl) ?_
  refine lv_iload_n F.1 F.2.1 dL_append_4 rfl (lv_at hl 1 rfl) ?_
  refine lv_iload_n F.1 F.2.1 dL_append_5 rfl (lv_at hl 2 rfl) ?_
  refine lv_iload_n F.1 F.2.1 dL_append_6 rfl (lv_at hl 3 rfl) ?_
  refine lv_iload F.1 F.2.1 dL_append_7 (lv_at hl 4 rfl) ?_
  refine lv_iload F.1 F.2.1 dL_append_9 (lv_at hl 5 rfl) ?_
  refine kx_callV (rv := (some (.int r))) (Wc := (gU T aF aR aD aP aH aW tx ps nm v vn hs ww)) (W2 := (gU T aF aR aD aP aH aW txR ps nm v vn hs ww)) (Wn := (gO T aF aR aD aP aH aW aO txR ps nm v vn hs ww out)) (As := [.int x1, .int x2, .int x3, .int x4, .int x5]) (rest := [.int 0, .ref aO]) F G (mX10_append l hst D T aF aR aD aP aH aW tx ps nm v vn hs ww x1 x2 x3 x4 x5 hres) (cwV 5 hAL (kgL_c kLl0 (kgL_c kLl1 (kgL_c kLl2 (kgL_c (kA kl80) (kgL_c (kA kl607) kgL_k))))) rfl rfl rfl (by decide +kernel) ⟨Nat.le_of_ble_eq_true rfl, Nat.le_of_ble_eq_true rfl⟩) (kg_recv G 1 0 (by decide) rfl (q := (RX10, TX10, 6)) rfl) (kCut_O G) rfl hl.1 rfl (Nat.le_of_ble_eq_true rfl) dL_append_11 ⟨Nat.le_of_ble_eq_true rfl, Nat.le_of_ble_eq_true rfl⟩ (cN := 1) (sN := 6) ⟨rfl, rfl⟩ (fun c ce q9 H locs G hce hcv hcl => ?_) (fun c H locs G => ?_)
  · rcases hk with ⟨h0, -, -⟩ | ⟨rfl, rfl, rfl⟩
    · exact absurd h0 c
    · refine vx_catch (own := RL) (name := "java/lang/IllegalStateException") (E := "java/lang/IllegalStateException") F.2.2.2.1 [] ⟨0, 16, 19, 13⟩ [] htab (fun z hz => absurd hz List.not_mem_nil) (by decide) (by decide) (hAL _ kLl3) (va_Nw.use rfl (G.2.2.2.2.1.2.2.2.2.2.2.2.2.2.1 _ (List.mem_of_getElem? (i := 0) rfl))) hce hcv hcl ?_
      refine lv_astore (lv' := [(7, .ref q9), (0, .ref (aF 0)), (1, .int x1), (2, .int x2), (3, .int x3), (4, .int x4), (5, .int x5), (6, .ref aO)]) F.1 F.2.1 dL_append_19 hl (by decide) rfl (fun ls hl => ?_)
      refine lv_iconst (v := 1) F.1 F.2.1 dL_append_21 (by decide) ?_
      exact k_iret F hr hlk G dL_append_22
  · rcases hk with ⟨-, rfl, ho⟩ | ⟨h0, -, -⟩
    rotate_left
    · exact absurd (c.symm.trans h0) (by decide)
    refine lv_i2l (v := r.toInt64) F.1 F.2.1 dL_append_14 rfl ?_
    refine kg_last (g' := gOc T aF aR aD aP aH aW aO txR ps nm v vn hs ww outR) F G 0 0 (by decide) rfl (i := 0) (kin (by decide +kernel)) dL_append_15 (by subst ho; rfl) (fun k hk h9 => by cases k with | zero => exact absurd rfl h9 | succ k => rfl) (fun H locs G => ?_)
    refine lv_goto (tgt := 23) F.1 F.2.1 dL_append_16 (by decide) ?_
    refine lv_iconst (v := 0) F.1 F.2.1 dL_append_23 (by decide) ?_
    exact k_iret F hr hlk G dL_append_24
abbrev rmL_truncate : Room := ({ frames := 7, cells := 1, slots := 6, locals := 111 } : Room)
set_option maxHeartbeats 8000000 in
set_option maxRecDepth 100000 in
theorem mL_truncate (l : Launch) (hst : l.stackTraces = false) (D : va_G) (T : Nat → ClassId) (aF : Nat → Nat) (aR : Nat → Nat) (aD : Nat → Nat) (aP : Nat → Nat) (aH : Nat → Nat) (aW : Nat → Nat → Nat) (aO : Nat) (tx : Nat → Nat → Int32) (ps : Nat → Nat → Int32) (nm : Nat → Int64) (v : Nat → Nat → Int32) (vn : Nat → Int64) (hs : Nat → Nat → Int32) (ww : Nat → Nat → Nat → Int32) (out : Nat → Int64) (x1 : Int32) {e : Nat} {r : Int32} {txR : Nat → Nat → Int32} {k : Int32} {outR : Nat → Int64} (hres : qX10_truncate tx ps nm v vn hs ww x1 = some (e, r, txR)) (hk : (e = 0 ∧ k = 0 ∧ outR = vp_updL out 0 r.toInt64) ∨ (e = 2 ∧ k = 1 ∧ outR = out)) : Ct l yL_truncate (Cond.codeWith yL_truncate cL_truncate 4 (some .int) [(0, 9, 12, 19)] :: kAL) rmL_truncate D T [.ref (aF 0), .int x1, .ref aO] (gO T aF aR aD aP aH aW aO tx ps nm v vn hs ww out) (some (.int k)) (gO T aF aR aD aP aH aW aO txR ps nm v vn hs ww outR) := by
  refine Ct.ofWH (cc := cL_truncate) (maxL := 4) (ret := (some .int)) (hh := [(0, 9, 12, 19)]) (by decide +kernel) rfl (Nat.le_of_ble_eq_true rfl) ?_
  intro pr en st mi ag bl me co A ls F hAL hr hlk htab G hl
  have hl : lv_has ls 4 [(0, .ref (aF 0)), (1, .int x1), (2, .ref aO)] := hl
  refine lv_aload_n F.1 F.2.1 dL_truncate_0 rfl (lv_at hl 2 rfl) ?_
  refine lv_iconst (v := 0) F.1 F.2.1 dL_truncate_1 (by decide) ?_
  refine lv_aload_n F.1 F.2.1 dL_truncate_2 rfl (lv_at hl 0 rfl) ?_
  refine lv_iload_n F.1 F.2.1 dL_truncate_3 rfl (lv_at hl 1 rfl) ?_
  refine kx_callV (rv := (some (.int r))) (Wc := (gU T aF aR aD aP aH aW tx ps nm v vn hs ww)) (W2 := (gU T aF aR aD aP aH aW txR ps nm v vn hs ww)) (Wn := (gO T aF aR aD aP aH aW aO txR ps nm v vn hs ww out)) (As := [.int x1]) (rest := [.int 0, .ref aO]) F G (mX10_truncate l hst D T aF aR aD aP aH aW tx ps nm v vn hs ww x1 hres) (cwV 1 hAL (kgL_c kLl4 (kgL_c kLl5 (kgL_c kLl6 (kgL_c (kA kl80) (kgL_c (kA kl614) kgL_k))))) rfl rfl rfl (by decide +kernel) ⟨Nat.le_of_ble_eq_true rfl, Nat.le_of_ble_eq_true rfl⟩) (kg_recv G 1 0 (by decide) rfl (q := (RX10, TX10, 6)) rfl) (kCut_O G) rfl hl.1 rfl (Nat.le_of_ble_eq_true rfl) dL_truncate_4 ⟨Nat.le_of_ble_eq_true rfl, Nat.le_of_ble_eq_true rfl⟩ (cN := 1) (sN := 6) ⟨rfl, rfl⟩ (fun c ce q9 H locs G hce hcv hcl => ?_) (fun c H locs G => ?_)
  · rcases hk with ⟨h0, -, -⟩ | ⟨rfl, rfl, rfl⟩
    · exact absurd h0 c
    · refine vx_catch (own := RL) (name := "java/lang/IndexOutOfBoundsException") (E := "java/lang/IndexOutOfBoundsException") F.2.2.2.1 [] ⟨0, 9, 12, 19⟩ [] htab (fun z hz => absurd hz List.not_mem_nil) (by decide) (by decide) (hAL _ kLl7) (va_Nw.use rfl (G.2.2.2.2.1.2.2.2.2.2.2.2.2.2.1 _ (List.mem_of_getElem? (i := 1) rfl))) hce hcv hcl ?_
      refine lv_astore_n (lv' := [(3, .ref q9), (0, .ref (aF 0)), (1, .int x1), (2, .ref aO)]) F.1 F.2.1 dL_truncate_12 rfl hl (by decide) rfl (fun ls hl => ?_)
      refine lv_iconst (v := 1) F.1 F.2.1 dL_truncate_13 (by decide) ?_
      exact k_iret F hr hlk G dL_truncate_14
  · rcases hk with ⟨-, rfl, ho⟩ | ⟨h0, -, -⟩
    rotate_left
    · exact absurd (c.symm.trans h0) (by decide)
    refine lv_i2l (v := r.toInt64) F.1 F.2.1 dL_truncate_7 rfl ?_
    refine kg_last (g' := gOc T aF aR aD aP aH aW aO txR ps nm v vn hs ww outR) F G 0 0 (by decide) rfl (i := 0) (kin (by decide +kernel)) dL_truncate_8 (by subst ho; rfl) (fun k hk h9 => by cases k with | zero => exact absurd rfl h9 | succ k => rfl) (fun H locs G => ?_)
    refine lv_goto (tgt := 15) F.1 F.2.1 dL_truncate_9 (by decide) ?_
    refine lv_iconst (v := 0) F.1 F.2.1 dL_truncate_15 (by decide) ?_
    exact k_iret F hr hlk G dL_truncate_16
abbrev rmL_load : Room := ({ frames := 9, cells := 1, slots := 6, locals := 197 } : Room)
set_option maxHeartbeats 8000000 in
set_option maxRecDepth 100000 in
theorem mL_load (l : Launch) (hst : l.stackTraces = false) (D : va_G) (T : Nat → ClassId) (aF : Nat → Nat) (aR : Nat → Nat) (aD : Nat → Nat) (aP : Nat → Nat) (aH : Nat → Nat) (aW : Nat → Nat → Nat) (aO : Nat) (tx : Nat → Nat → Int32) (ps : Nat → Nat → Int32) (nm : Nat → Int64) (v : Nat → Nat → Int32) (vn : Nat → Int64) (hs : Nat → Nat → Int32) (ww : Nat → Nat → Nat → Int32) (out : Nat → Int64) {e : Nat} {r : Int32} {txR : Nat → Nat → Int32} {psR : Nat → Nat → Int32} {nmR : Nat → Int64} {vR : Nat → Nat → Int32} {vnR : Nat → Int64} {hsR : Nat → Nat → Int32} {wwR : Nat → Nat → Nat → Int32} {k : Int32} {outR : Nat → Int64} (hres : qX10_load tx ps nm v vn hs ww = some (e, r, txR, psR, nmR, vR, vnR, hsR, wwR)) (hk : (e = 0 ∧ k = 0 ∧ outR = vp_updL out 0 r.toInt64) ∨ (e = 3 ∧ k = 1 ∧ outR = out)) : Ct l yL_load (Cond.codeWith yL_load cL_load 3 (some .int) [(0, 8, 11, 25)] :: kAL) rmL_load D T [.ref (aF 0), .ref aO] (gO T aF aR aD aP aH aW aO tx ps nm v vn hs ww out) (some (.int k)) (gO T aF aR aD aP aH aW aO txR psR nmR vR vnR hsR wwR outR) := by
  refine Ct.ofWH (cc := cL_load) (maxL := 3) (ret := (some .int)) (hh := [(0, 8, 11, 25)]) (by decide +kernel) rfl (Nat.le_of_ble_eq_true rfl) ?_
  intro pr en st mi ag bl me co A ls F hAL hr hlk htab G hl
  have hl : lv_has ls 3 [(0, .ref (aF 0)), (1, .ref aO)] := hl
  refine lv_aload_n F.1 F.2.1 dL_load_0 rfl (lv_at hl 1 rfl) ?_
  refine lv_iconst (v := 0) F.1 F.2.1 dL_load_1 (by decide) ?_
  refine lv_aload_n F.1 F.2.1 dL_load_2 rfl (lv_at hl 0 rfl) ?_
  refine kx_callV (rv := (some (.int r))) (Wc := (gU T aF aR aD aP aH aW tx ps nm v vn hs ww)) (W2 := (gU T aF aR aD aP aH aW txR psR nmR vR vnR hsR wwR)) (Wn := (gO T aF aR aD aP aH aW aO txR psR nmR vR vnR hsR wwR out)) (As := []) (rest := [.int 0, .ref aO]) F G (mX10_load l hst D T aF aR aD aP aH aW tx ps nm v vn hs ww hres) (cwV 0 hAL (kgL_c kLl8 (kgL_c kLl9 (kgL_c kLl10 (kgL_c (kA kl80) (kgL_c (kA kl617) kgL_k))))) rfl rfl rfl (by decide +kernel) ⟨Nat.le_of_ble_eq_true rfl, Nat.le_of_ble_eq_true rfl⟩) (kg_recv G 1 0 (by decide) rfl (q := (RX10, TX10, 6)) rfl) (kCut_O G) rfl hl.1 rfl (Nat.le_of_ble_eq_true rfl) dL_load_3 ⟨Nat.le_of_ble_eq_true rfl, Nat.le_of_ble_eq_true rfl⟩ (cN := 1) (sN := 6) ⟨rfl, rfl⟩ (fun c ce q9 H locs G hce hcv hcl => ?_) (fun c H locs G => ?_)
  · rcases hk with ⟨h0, -, -⟩ | ⟨rfl, rfl, rfl⟩
    · exact absurd h0 c
    · refine vx_catch (own := RL) (name := "java/lang/IllegalArgumentException") (E := "java/lang/IllegalArgumentException") F.2.2.2.1 [] ⟨0, 8, 11, 25⟩ [] htab (fun z hz => absurd hz List.not_mem_nil) (by decide) (by decide) (hAL _ kLl11) (va_Nw.use rfl (G.2.2.2.2.1.2.2.2.2.2.2.2.2.2.1 _ (List.mem_of_getElem? (i := 2) rfl))) hce hcv hcl ?_
      refine lv_astore_n (lv' := [(2, .ref q9), (0, .ref (aF 0)), (1, .ref aO)]) F.1 F.2.1 dL_load_11 rfl hl (by decide) rfl (fun ls hl => ?_)
      refine lv_iconst (v := 1) F.1 F.2.1 dL_load_12 (by decide) ?_
      exact k_iret F hr hlk G dL_load_13
  · rcases hk with ⟨-, rfl, ho⟩ | ⟨h0, -, -⟩
    rotate_left
    · exact absurd (c.symm.trans h0) (by decide)
    refine lv_i2l (v := r.toInt64) F.1 F.2.1 dL_load_6 rfl ?_
    refine kg_last (g' := gOc T aF aR aD aP aH aW aO txR psR nmR vR vnR hsR wwR outR) F G 0 0 (by decide) rfl (i := 0) (kin (by decide +kernel)) dL_load_7 (by subst ho; rfl) (fun k hk h9 => by cases k with | zero => exact absurd rfl h9 | succ k => rfl) (fun H locs G => ?_)
    refine lv_goto (tgt := 14) F.1 F.2.1 dL_load_8 (by decide) ?_
    refine lv_iconst (v := 0) F.1 F.2.1 dL_load_14 (by decide) ?_
    exact k_iret F hr hlk G dL_load_15
abbrev rmL_find : Room := ({ frames := 7, cells := 1, slots := 6, locals := 111 } : Room)
set_option maxHeartbeats 8000000 in
set_option maxRecDepth 100000 in
theorem mL_find (l : Launch) (hst : l.stackTraces = false) (D : va_G) (T : Nat → ClassId) (aF : Nat → Nat) (aR : Nat → Nat) (aD : Nat → Nat) (aP : Nat → Nat) (aH : Nat → Nat) (aW : Nat → Nat → Nat) (aO : Nat) (tx : Nat → Nat → Int32) (ps : Nat → Nat → Int32) (nm : Nat → Int64) (v : Nat → Nat → Int32) (vn : Nat → Int64) (hs : Nat → Nat → Int32) (ww : Nat → Nat → Nat → Int32) (out : Nat → Int64) {e : Nat} {r : Int32} {txR : Nat → Nat → Int32} {k : Int32} {outR : Nat → Int64} (hres : qX10_find tx ps nm v vn hs ww = some (e, r, txR)) (hk : (e = 0 ∧ k = 0 ∧ outR = vp_updL out 0 r.toInt64) ∨ (e = 4 ∧ k = 1 ∧ outR = out)) : Ct l yL_find (Cond.codeWith yL_find cL_find 3 (some .int) [(0, 8, 11, 30)] :: kAL) rmL_find D T [.ref (aF 0), .ref aO] (gO T aF aR aD aP aH aW aO tx ps nm v vn hs ww out) (some (.int k)) (gO T aF aR aD aP aH aW aO txR ps nm v vn hs ww outR) := by
  refine Ct.ofWH (cc := cL_find) (maxL := 3) (ret := (some .int)) (hh := [(0, 8, 11, 30)]) (by decide +kernel) rfl (Nat.le_of_ble_eq_true rfl) ?_
  intro pr en st mi ag bl me co A ls F hAL hr hlk htab G hl
  have hl : lv_has ls 3 [(0, .ref (aF 0)), (1, .ref aO)] := hl
  refine lv_aload_n F.1 F.2.1 dL_find_0 rfl (lv_at hl 1 rfl) ?_
  refine lv_iconst (v := 0) F.1 F.2.1 dL_find_1 (by decide) ?_
  refine lv_aload_n F.1 F.2.1 dL_find_2 rfl (lv_at hl 0 rfl) ?_
  refine kx_callV (rv := (some (.int r))) (Wc := (gU T aF aR aD aP aH aW tx ps nm v vn hs ww)) (W2 := (gU T aF aR aD aP aH aW txR ps nm v vn hs ww)) (Wn := (gO T aF aR aD aP aH aW aO txR ps nm v vn hs ww out)) (As := []) (rest := [.int 0, .ref aO]) F G (mX10_find l hst D T aF aR aD aP aH aW tx ps nm v vn hs ww hres) (cwV 0 hAL (kgL_c kLl12 (kgL_c kLl13 (kgL_c kLl14 (kgL_c (kA kl80) (kgL_c (kA kl638) kgL_k))))) rfl rfl rfl (by decide +kernel) ⟨Nat.le_of_ble_eq_true rfl, Nat.le_of_ble_eq_true rfl⟩) (kg_recv G 1 0 (by decide) rfl (q := (RX10, TX10, 6)) rfl) (kCut_O G) rfl hl.1 rfl (Nat.le_of_ble_eq_true rfl) dL_find_3 ⟨Nat.le_of_ble_eq_true rfl, Nat.le_of_ble_eq_true rfl⟩ (cN := 1) (sN := 6) ⟨rfl, rfl⟩ (fun c ce q9 H locs G hce hcv hcl => ?_) (fun c H locs G => ?_)
  · rcases hk with ⟨h0, -, -⟩ | ⟨rfl, rfl, rfl⟩
    · exact absurd h0 c
    · refine vx_catch (own := RL) (name := "java/util/NoSuchElementException") (E := "java/util/NoSuchElementException") F.2.2.2.1 [] ⟨0, 8, 11, 30⟩ [] htab (fun z hz => absurd hz List.not_mem_nil) (by decide) (by decide) (hAL _ kLl15) (va_Nw.use rfl (G.2.2.2.2.1.2.2.2.2.2.2.2.2.2.1 _ (List.mem_of_getElem? (i := 3) rfl))) hce hcv hcl ?_
      refine lv_astore_n (lv' := [(2, .ref q9), (0, .ref (aF 0)), (1, .ref aO)]) F.1 F.2.1 dL_find_11 rfl hl (by decide) rfl (fun ls hl => ?_)
      refine lv_iconst (v := 1) F.1 F.2.1 dL_find_12 (by decide) ?_
      exact k_iret F hr hlk G dL_find_13
  · rcases hk with ⟨-, rfl, ho⟩ | ⟨h0, -, -⟩
    rotate_left
    · exact absurd (c.symm.trans h0) (by decide)
    refine lv_i2l (v := r.toInt64) F.1 F.2.1 dL_find_6 rfl ?_
    refine kg_last (g' := gOc T aF aR aD aP aH aW aO txR ps nm v vn hs ww outR) F G 0 0 (by decide) rfl (i := 0) (kin (by decide +kernel)) dL_find_7 (by subst ho; rfl) (fun k hk h9 => by cases k with | zero => exact absurd rfl h9 | succ k => rfl) (fun H locs G => ?_)
    refine lv_goto (tgt := 14) F.1 F.2.1 dL_find_8 (by decide) ?_
    refine lv_iconst (v := 0) F.1 F.2.1 dL_find_14 (by decide) ?_
    exact k_iret F hr hlk G dL_find_15
abbrev rmL_count : Room := ({ frames := 7, cells := 1, slots := 6, locals := 111 } : Room)
set_option maxHeartbeats 8000000 in
set_option maxRecDepth 100000 in
theorem mL_count (l : Launch) (hst : l.stackTraces = false) (D : va_G) (T : Nat → ClassId) (aF : Nat → Nat) (aR : Nat → Nat) (aD : Nat → Nat) (aP : Nat → Nat) (aH : Nat → Nat) (aW : Nat → Nat → Nat) (aO : Nat) (tx : Nat → Nat → Int32) (ps : Nat → Nat → Int32) (nm : Nat → Int64) (v : Nat → Nat → Int32) (vn : Nat → Int64) (hs : Nat → Nat → Int32) (ww : Nat → Nat → Nat → Int32) (out : Nat → Int64) (x1 : Int32) {e : Nat} {r : Int32} {k : Int32} {outR : Nat → Int64} (hres : qX10_count tx ps nm v vn hs ww x1 = some (e, r)) (hk : (e = 0 ∧ k = 0 ∧ outR = vp_updL out 0 r.toInt64) ∨ (e = 3 ∧ k = 1 ∧ outR = out)) : Ct l yL_count (Cond.codeWith yL_count cL_count 4 (some .int) [(0, 9, 12, 25)] :: kAL) rmL_count D T [.ref (aF 0), .int x1, .ref aO] (gO T aF aR aD aP aH aW aO tx ps nm v vn hs ww out) (some (.int k)) (gO T aF aR aD aP aH aW aO tx ps nm v vn hs ww outR) := by
  refine Ct.ofWH (cc := cL_count) (maxL := 4) (ret := (some .int)) (hh := [(0, 9, 12, 25)]) (by decide +kernel) rfl (Nat.le_of_ble_eq_true rfl) ?_
  intro pr en st mi ag bl me co A ls F hAL hr hlk htab G hl
  have hl : lv_has ls 4 [(0, .ref (aF 0)), (1, .int x1), (2, .ref aO)] := hl
  refine lv_aload_n F.1 F.2.1 dL_count_0 rfl (lv_at hl 2 rfl) ?_
  refine lv_iconst (v := 0) F.1 F.2.1 dL_count_1 (by decide) ?_
  refine lv_aload_n F.1 F.2.1 dL_count_2 rfl (lv_at hl 0 rfl) ?_
  refine lv_iload_n F.1 F.2.1 dL_count_3 rfl (lv_at hl 1 rfl) ?_
  refine kx_callV (rv := (some (.int r))) (Wc := (gU T aF aR aD aP aH aW tx ps nm v vn hs ww)) (W2 := (gU T aF aR aD aP aH aW tx ps nm v vn hs ww)) (Wn := (gO T aF aR aD aP aH aW aO tx ps nm v vn hs ww out)) (As := [.int x1]) (rest := [.int 0, .ref aO]) F G (mX10_count l hst D T aF aR aD aP aH aW tx ps nm v vn hs ww x1 hres) (cwV 1 hAL (kgL_c kLl16 (kgL_c kLl17 (kgL_c kLl18 (kgL_c (kA kl80) (kgL_c (kA kl643) kgL_k))))) rfl rfl rfl (by decide +kernel) ⟨Nat.le_of_ble_eq_true rfl, Nat.le_of_ble_eq_true rfl⟩) (kg_recv G 1 0 (by decide) rfl (q := (RX10, TX10, 6)) rfl) (kCut_O G) rfl hl.1 rfl (Nat.le_of_ble_eq_true rfl) dL_count_4 ⟨Nat.le_of_ble_eq_true rfl, Nat.le_of_ble_eq_true rfl⟩ (cN := 1) (sN := 6) ⟨rfl, rfl⟩ (fun c ce q9 H locs G hce hcv hcl => ?_) (fun c H locs G => ?_)
  · rcases hk with ⟨h0, -, -⟩ | ⟨rfl, rfl, rfl⟩
    · exact absurd h0 c
    · refine vx_catch (own := RL) (name := "java/lang/IllegalArgumentException") (E := "java/lang/IllegalArgumentException") F.2.2.2.1 [] ⟨0, 9, 12, 25⟩ [] htab (fun z hz => absurd hz List.not_mem_nil) (by decide) (by decide) (hAL _ kLl11) (va_Nw.use rfl (G.2.2.2.2.1.2.2.2.2.2.2.2.2.2.1 _ (List.mem_of_getElem? (i := 2) rfl))) hce hcv hcl ?_
      refine lv_astore_n (lv' := [(3, .ref q9), (0, .ref (aF 0)), (1, .int x1), (2, .ref aO)]) F.1 F.2.1 dL_count_12 rfl hl (by decide) rfl (fun ls hl => ?_)
      refine lv_iconst (v := 1) F.1 F.2.1 dL_count_13 (by decide) ?_
      exact k_iret F hr hlk G dL_count_14
  · rcases hk with ⟨-, rfl, ho⟩ | ⟨h0, -, -⟩
    rotate_left
    · exact absurd (c.symm.trans h0) (by decide)
    refine lv_i2l (v := r.toInt64) F.1 F.2.1 dL_count_7 rfl ?_
    refine kg_last (g' := gOc T aF aR aD aP aH aW aO tx ps nm v vn hs ww outR) F G 0 0 (by decide) rfl (i := 0) (kin (by decide +kernel)) dL_count_8 (by subst ho; rfl) (fun k hk h9 => by cases k with | zero => exact absurd rfl h9 | succ k => rfl) (fun H locs G => ?_)
    refine lv_goto (tgt := 15) F.1 F.2.1 dL_count_9 (by decide) ?_
    refine lv_iconst (v := 0) F.1 F.2.1 dL_count_15 (by decide) ?_
    exact k_iret F hr hlk G dL_count_16
abbrev rmL_outlet : Room := ({ frames := 8, cells := 2, slots := 12, locals := 134 } : Room)
set_option maxHeartbeats 8000000 in
set_option maxRecDepth 100000 in
theorem mL_outlet (l : Launch) (hst : l.stackTraces = false) (D : va_G) (T : Nat → ClassId) (aF : Nat → Nat) (aR : Nat → Nat) (aD : Nat → Nat) (aP : Nat → Nat) (aH : Nat → Nat) (aW : Nat → Nat → Nat) (aO : Nat) (tx : Nat → Nat → Int32) (ps : Nat → Nat → Int32) (nm : Nat → Int64) (v : Nat → Nat → Int32) (vn : Nat → Int64) (hs : Nat → Nat → Int32) (ww : Nat → Nat → Nat → Int32) (out : Nat → Int64) (x1 : Int32) (x2 : Int32) {e : Nat} {r : Int32} {k : Int32} {outR : Nat → Int64} (hres : qX10_outlet tx ps nm v vn hs ww x1 x2 = some (e, r)) (hk : (e = 0 ∧ k = 0 ∧ outR = vp_updL out 0 r.toInt64) ∨ (e = 2 ∧ k = 1 ∧ outR = out) ∨ (e = 3 ∧ k = 2 ∧ outR = out)) : Ct l yL_outlet (Cond.codeWith yL_outlet cL_outlet 5 (some .int) [(0, 10, 13, 19), (0, 10, 17, 25)] :: kAL) rmL_outlet D T [.ref (aF 0), .int x1, .int x2, .ref aO] (gO T aF aR aD aP aH aW aO tx ps nm v vn hs ww out) (some (.int k)) (gO T aF aR aD aP aH aW aO tx ps nm v vn hs ww outR) := by
  refine Ct.ofWH (cc := cL_outlet) (maxL := 5) (ret := (some .int)) (hh := [(0, 10, 13, 19), (0, 10, 17, 25)]) (by decide +kernel) rfl (Nat.le_of_ble_eq_true rfl) ?_
  intro pr en st mi ag bl me co A ls F hAL hr hlk htab G hl
  have hl : lv_has ls 5 [(0, .ref (aF 0)), (1, .int x1), (2, .int x2), (3, .ref aO)] := hl
  refine lv_aload_n F.1 F.2.1 dL_outlet_0 rfl (lv_at hl 3 rfl) ?_
  refine lv_iconst (v := 0) F.1 F.2.1 dL_outlet_1 (by decide) ?_
  refine lv_aload_n F.1 F.2.1 dL_outlet_2 rfl (lv_at hl 0 rfl) ?_
  refine lv_iload_n F.1 F.2.1 dL_outlet_3 rfl (lv_at hl 1 rfl) ?_
  refine lv_iload_n F.1 F.2.1 dL_outlet_4 rfl (lv_at hl 2 rfl) ?_
  refine kx_callV (rv := (some (.int r))) (Wc := (gU T aF aR aD aP aH aW tx ps nm v vn hs ww)) (W2 := (gU T aF aR aD aP aH aW tx ps nm v vn hs ww)) (Wn := (gO T aF aR aD aP aH aW aO tx ps nm v vn hs ww out)) (As := [.int x1, .int x2]) (rest := [.int 0, .ref aO]) F G (mX10_outlet l hst D T aF aR aD aP aH aW tx ps nm v vn hs ww x1 x2 hres) (cwV 2 hAL (kgL_c kLl19 (kgL_c kLl20 (kgL_c kLl21 (kgL_c (kA kl80) (kgL_c (kA kl654) kgL_k))))) rfl rfl rfl (by decide +kernel) ⟨Nat.le_of_ble_eq_true rfl, Nat.le_of_ble_eq_true rfl⟩) (kg_recv G 1 0 (by decide) rfl (q := (RX10, TX10, 6)) rfl) (kCut_O G) rfl hl.1 rfl (Nat.le_of_ble_eq_true rfl) dL_outlet_5 ⟨Nat.le_of_ble_eq_true rfl, Nat.le_of_ble_eq_true rfl⟩ (cN := 2) (sN := 12) ⟨rfl, rfl⟩ (fun c ce q9 H locs G hce hcv hcl => ?_) (fun c H locs G => ?_)
  · rcases hk with ⟨h0, -, -⟩ | ⟨rfl, rfl, rfl⟩ | ⟨rfl, rfl, rfl⟩
    · exact absurd h0 c
    · refine vx_catch (own := RL) (name := "java/lang/IndexOutOfBoundsException") (E := "java/lang/IndexOutOfBoundsException") F.2.2.2.1 [] ⟨0, 10, 13, 19⟩ [⟨0, 10, 17, 25⟩] htab (fun z hz => absurd hz List.not_mem_nil) (by decide) (by decide) (hAL _ kLl7) (va_Nw.use rfl (G.2.2.2.2.1.2.2.2.2.2.2.2.2.2.1 _ (List.mem_of_getElem? (i := 1) rfl))) hce hcv hcl ?_
      refine lv_astore (lv' := [(4, .ref q9), (0, .ref (aF 0)), (1, .int x1), (2, .int x2), (3, .ref aO)]) F.1 F.2.1 dL_outlet_13 hl (by decide) rfl (fun ls hl => ?_)
      refine lv_iconst (v := 1) F.1 F.2.1 dL_outlet_15 (by decide) ?_
      exact k_iret F hr hlk G dL_outlet_16
    · refine vx_catch (own := RL) (name := "java/lang/IllegalArgumentException") (E := "java/lang/IllegalArgumentException") F.2.2.2.1 [⟨0, 10, 13, 19⟩] ⟨0, 10, 17, 25⟩ [] htab (fun z hz => by rw [List.mem_singleton.mp hz]; exact Or.inr ⟨by decide, "java/lang/IndexOutOfBoundsException", hAL _ kLl7, G.2.2.2.2.1.2.2.2.2.2.2.1 _ (List.mem_of_getElem? (i := 0) rfl)⟩) (by decide) (by decide) (hAL _ kLl11) (va_Nw.use rfl (G.2.2.2.2.1.2.2.2.2.2.2.2.2.2.1 _ (List.mem_of_getElem? (i := 2) rfl))) hce hcv hcl ?_
      refine lv_astore (lv' := [(4, .ref q9), (0, .ref (aF 0)), (1, .int x1), (2, .int x2), (3, .ref aO)]) F.1 F.2.1 dL_outlet_17 hl (by decide) rfl (fun ls hl => ?_)
      refine lv_iconst (v := 2) F.1 F.2.1 dL_outlet_19 (by decide) ?_
      exact k_iret F hr hlk G dL_outlet_20
  · rcases hk with ⟨-, rfl, ho⟩ | ⟨h0, -, -⟩ | ⟨h0, -, -⟩
    rotate_left
    · exact absurd (c.symm.trans h0) (by decide)
    · exact absurd (c.symm.trans h0) (by decide)
    refine lv_i2l (v := r.toInt64) F.1 F.2.1 dL_outlet_8 rfl ?_
    refine kg_last (g' := gOc T aF aR aD aP aH aW aO tx ps nm v vn hs ww outR) F G 0 0 (by decide) rfl (i := 0) (kin (by decide +kernel)) dL_outlet_9 (by subst ho; rfl) (fun k hk h9 => by cases k with | zero => exact absurd rfl h9 | succ k => rfl) (fun H locs G => ?_)
    refine lv_goto (tgt := 21) F.1 F.2.1 dL_outlet_10 (by decide) ?_
    refine lv_iconst (v := 0) F.1 F.2.1 dL_outlet_21 (by decide) ?_
    exact k_iret F hr hlk G dL_outlet_22
abbrev rmL_known : Room := ({ frames := 8, cells := 2, slots := 12, locals := 134 } : Room)
set_option maxHeartbeats 8000000 in
set_option maxRecDepth 100000 in
theorem mL_known (l : Launch) (hst : l.stackTraces = false) (D : va_G) (T : Nat → ClassId) (aF : Nat → Nat) (aR : Nat → Nat) (aD : Nat → Nat) (aP : Nat → Nat) (aH : Nat → Nat) (aW : Nat → Nat → Nat) (aO : Nat) (tx : Nat → Nat → Int32) (ps : Nat → Nat → Int32) (nm : Nat → Int64) (v : Nat → Nat → Int32) (vn : Nat → Int64) (hs : Nat → Nat → Int32) (ww : Nat → Nat → Nat → Int32) (out : Nat → Int64) (x1 : Int32) (x2 : Int32) {e : Nat} {r : Int32} {k : Int32} {outR : Nat → Int64} (hres : qX10_known tx ps nm v vn hs ww x1 x2 = some (e, r)) (hk : (e = 0 ∧ k = 0 ∧ outR = vp_updL out 0 r.toInt64) ∨ (e = 2 ∧ k = 1 ∧ outR = out) ∨ (e = 3 ∧ k = 2 ∧ outR = out)) : Ct l yL_known (Cond.codeWith yL_known cL_known 5 (some .int) [(0, 10, 13, 19), (0, 10, 17, 25)] :: kAL) rmL_known D T [.ref (aF 0), .int x1, .int x2, .ref aO] (gO T aF aR aD aP aH aW aO tx ps nm v vn hs ww out) (some (.int k)) (gO T aF aR aD aP aH aW aO tx ps nm v vn hs ww outR) := by
  refine Ct.ofWH (cc := cL_known) (maxL := 5) (ret := (some .int)) (hh := [(0, 10, 13, 19), (0, 10, 17, 25)]) (by decide +kernel) rfl (Nat.le_of_ble_eq_true rfl) ?_
  intro pr en st mi ag bl me co A ls F hAL hr hlk htab G hl
  have hl : lv_has ls 5 [(0, .ref (aF 0)), (1, .int x1), (2, .int x2), (3, .ref aO)] := hl
  refine lv_aload_n F.1 F.2.1 dL_known_0 rfl (lv_at hl 3 rfl) ?_
  refine lv_iconst (v := 0) F.1 F.2.1 dL_known_1 (by decide) ?_
  refine lv_aload_n F.1 F.2.1 dL_known_2 rfl (lv_at hl 0 rfl) ?_
  refine lv_iload_n F.1 F.2.1 dL_known_3 rfl (lv_at hl 1 rfl) ?_
  refine lv_iload_n F.1 F.2.1 dL_known_4 rfl (lv_at hl 2 rfl) ?_
  refine kx_callV (rv := (some (.int r))) (Wc := (gU T aF aR aD aP aH aW tx ps nm v vn hs ww)) (W2 := (gU T aF aR aD aP aH aW tx ps nm v vn hs ww)) (Wn := (gO T aF aR aD aP aH aW aO tx ps nm v vn hs ww out)) (As := [.int x1, .int x2]) (rest := [.int 0, .ref aO]) F G (mX10_known l hst D T aF aR aD aP aH aW tx ps nm v vn hs ww x1 x2 hres) (cwV 2 hAL (kgL_c kLl22 (kgL_c kLl23 (kgL_c kLl24 (kgL_c (kA kl80) (kgL_c (kA kl668) kgL_k))))) rfl rfl rfl (by decide +kernel) ⟨Nat.le_of_ble_eq_true rfl, Nat.le_of_ble_eq_true rfl⟩) (kg_recv G 1 0 (by decide) rfl (q := (RX10, TX10, 6)) rfl) (kCut_O G) rfl hl.1 rfl (Nat.le_of_ble_eq_true rfl) dL_known_5 ⟨Nat.le_of_ble_eq_true rfl, Nat.le_of_ble_eq_true rfl⟩ (cN := 2) (sN := 12) ⟨rfl, rfl⟩ (fun c ce q9 H locs G hce hcv hcl => ?_) (fun c H locs G => ?_)
  · rcases hk with ⟨h0, -, -⟩ | ⟨rfl, rfl, rfl⟩ | ⟨rfl, rfl, rfl⟩
    · exact absurd h0 c
    · refine vx_catch (own := RL) (name := "java/lang/IndexOutOfBoundsException") (E := "java/lang/IndexOutOfBoundsException") F.2.2.2.1 [] ⟨0, 10, 13, 19⟩ [⟨0, 10, 17, 25⟩] htab (fun z hz => absurd hz List.not_mem_nil) (by decide) (by decide) (hAL _ kLl7) (va_Nw.use rfl (G.2.2.2.2.1.2.2.2.2.2.2.2.2.2.1 _ (List.mem_of_getElem? (i := 1) rfl))) hce hcv hcl ?_
      refine lv_astore (lv' := [(4, .ref q9), (0, .ref (aF 0)), (1, .int x1), (2, .int x2), (3, .ref aO)]) F.1 F.2.1 dL_known_13 hl (by decide) rfl (fun ls hl => ?_)
      refine lv_iconst (v := 1) F.1 F.2.1 dL_known_15 (by decide) ?_
      exact k_iret F hr hlk G dL_known_16
    · refine vx_catch (own := RL) (name := "java/lang/IllegalArgumentException") (E := "java/lang/IllegalArgumentException") F.2.2.2.1 [⟨0, 10, 13, 19⟩] ⟨0, 10, 17, 25⟩ [] htab (fun z hz => by rw [List.mem_singleton.mp hz]; exact Or.inr ⟨by decide, "java/lang/IndexOutOfBoundsException", hAL _ kLl7, G.2.2.2.2.1.2.2.2.2.2.2.1 _ (List.mem_of_getElem? (i := 0) rfl)⟩) (by decide) (by decide) (hAL _ kLl11) (va_Nw.use rfl (G.2.2.2.2.1.2.2.2.2.2.2.2.2.2.1 _ (List.mem_of_getElem? (i := 2) rfl))) hce hcv hcl ?_
      refine lv_astore (lv' := [(4, .ref q9), (0, .ref (aF 0)), (1, .int x1), (2, .int x2), (3, .ref aO)]) F.1 F.2.1 dL_known_17 hl (by decide) rfl (fun ls hl => ?_)
      refine lv_iconst (v := 2) F.1 F.2.1 dL_known_19 (by decide) ?_
      exact k_iret F hr hlk G dL_known_20
  · rcases hk with ⟨-, rfl, ho⟩ | ⟨h0, -, -⟩ | ⟨h0, -, -⟩
    rotate_left
    · exact absurd (c.symm.trans h0) (by decide)
    · exact absurd (c.symm.trans h0) (by decide)
    refine lv_i2l (v := r.toInt64) F.1 F.2.1 dL_known_8 rfl ?_
    refine kg_last (g' := gOc T aF aR aD aP aH aW aO tx ps nm v vn hs ww outR) F G 0 0 (by decide) rfl (i := 0) (kin (by decide +kernel)) dL_known_9 (by subst ho; rfl) (fun k hk h9 => by cases k with | zero => exact absurd rfl h9 | succ k => rfl) (fun H locs G => ?_)
    refine lv_goto (tgt := 21) F.1 F.2.1 dL_known_10 (by decide) ?_
    refine lv_iconst (v := 0) F.1 F.2.1 dL_known_21 (by decide) ?_
    exact k_iret F hr hlk G dL_known_22
abbrev rmL_needs : Room := ({ frames := 8, cells := 1, slots := 6, locals := 133 } : Room)
set_option maxHeartbeats 8000000 in
set_option maxRecDepth 100000 in
theorem mL_needs (l : Launch) (hst : l.stackTraces = false) (D : va_G) (T : Nat → ClassId) (aF : Nat → Nat) (aR : Nat → Nat) (aD : Nat → Nat) (aP : Nat → Nat) (aH : Nat → Nat) (aW : Nat → Nat → Nat) (aO : Nat) (tx : Nat → Nat → Int32) (ps : Nat → Nat → Int32) (nm : Nat → Int64) (v : Nat → Nat → Int32) (vn : Nat → Int64) (hs : Nat → Nat → Int32) (ww : Nat → Nat → Nat → Int32) (out : Nat → Int64) (x1 : Int32) (x2 : Int32) {e : Nat} {r : Int32} {k : Int32} {outR : Nat → Int64} (hres : qX10_needs tx ps nm v vn hs ww x1 x2 = some (e, r)) (hk : (e = 0 ∧ k = 0 ∧ outR = vp_updL out 0 r.toInt64) ∨ (e = 2 ∧ k = 1 ∧ outR = out)) : Ct l yL_needs (Cond.codeWith yL_needs cL_needs 5 (some .int) [(0, 10, 13, 19)] :: kAL) rmL_needs D T [.ref (aF 0), .int x1, .int x2, .ref aO] (gO T aF aR aD aP aH aW aO tx ps nm v vn hs ww out) (some (.int k)) (gO T aF aR aD aP aH aW aO tx ps nm v vn hs ww outR) := by
  refine Ct.ofWH (cc := cL_needs) (maxL := 5) (ret := (some .int)) (hh := [(0, 10, 13, 19)]) (by decide +kernel) rfl (Nat.le_of_ble_eq_true rfl) ?_
  intro pr en st mi ag bl me co A ls F hAL hr hlk htab G hl
  have hl : lv_has ls 5 [(0, .ref (aF 0)), (1, .int x1), (2, .int x2), (3, .ref aO)] := hl
  refine lv_aload_n F.1 F.2.1 dL_needs_0 rfl (lv_at hl 3 rfl) ?_
  refine lv_iconst (v := 0) F.1 F.2.1 dL_needs_1 (by decide) ?_
  refine lv_aload_n F.1 F.2.1 dL_needs_2 rfl (lv_at hl 0 rfl) ?_
  refine lv_iload_n F.1 F.2.1 dL_needs_3 rfl (lv_at hl 1 rfl) ?_
  refine lv_iload_n F.1 F.2.1 dL_needs_4 rfl (lv_at hl 2 rfl) ?_
  refine kx_callV (rv := (some (.int r))) (Wc := (gU T aF aR aD aP aH aW tx ps nm v vn hs ww)) (W2 := (gU T aF aR aD aP aH aW tx ps nm v vn hs ww)) (Wn := (gO T aF aR aD aP aH aW aO tx ps nm v vn hs ww out)) (As := [.int x1, .int x2]) (rest := [.int 0, .ref aO]) F G (mX10_needs l hst D T aF aR aD aP aH aW tx ps nm v vn hs ww x1 x2 hres) (cwV 2 hAL (kgL_c kLl25 (kgL_c kLl26 (kgL_c kLl27 (kgL_c (kA kl80) (kgL_c (kA kl677) kgL_k))))) rfl rfl rfl (by decide +kernel) ⟨Nat.le_of_ble_eq_true rfl, Nat.le_of_ble_eq_true rfl⟩) (kg_recv G 1 0 (by decide) rfl (q := (RX10, TX10, 6)) rfl) (kCut_O G) rfl hl.1 rfl (Nat.le_of_ble_eq_true rfl) dL_needs_5 ⟨Nat.le_of_ble_eq_true rfl, Nat.le_of_ble_eq_true rfl⟩ (cN := 1) (sN := 6) ⟨rfl, rfl⟩ (fun c ce q9 H locs G hce hcv hcl => ?_) (fun c H locs G => ?_)
  · rcases hk with ⟨h0, -, -⟩ | ⟨rfl, rfl, rfl⟩
    · exact absurd h0 c
    · refine vx_catch (own := RL) (name := "java/lang/IndexOutOfBoundsException") (E := "java/lang/IndexOutOfBoundsException") F.2.2.2.1 [] ⟨0, 10, 13, 19⟩ [] htab (fun z hz => absurd hz List.not_mem_nil) (by decide) (by decide) (hAL _ kLl7) (va_Nw.use rfl (G.2.2.2.2.1.2.2.2.2.2.2.2.2.2.1 _ (List.mem_of_getElem? (i := 1) rfl))) hce hcv hcl ?_
      refine lv_astore (lv' := [(4, .ref q9), (0, .ref (aF 0)), (1, .int x1), (2, .int x2), (3, .ref aO)]) F.1 F.2.1 dL_needs_13 hl (by decide) rfl (fun ls hl => ?_)
      refine lv_iconst (v := 1) F.1 F.2.1 dL_needs_15 (by decide) ?_
      exact k_iret F hr hlk G dL_needs_16
  · rcases hk with ⟨-, rfl, ho⟩ | ⟨h0, -, -⟩
    rotate_left
    · exact absurd (c.symm.trans h0) (by decide)
    refine lv_i2l (v := r.toInt64) F.1 F.2.1 dL_needs_8 rfl ?_
    refine kg_last (g' := gOc T aF aR aD aP aH aW aO tx ps nm v vn hs ww outR) F G 0 0 (by decide) rfl (i := 0) (kin (by decide +kernel)) dL_needs_9 (by subst ho; rfl) (fun k hk h9 => by cases k with | zero => exact absurd rfl h9 | succ k => rfl) (fun H locs G => ?_)
    refine lv_goto (tgt := 17) F.1 F.2.1 dL_needs_10 (by decide) ?_
    refine lv_iconst (v := 0) F.1 F.2.1 dL_needs_17 (by decide) ?_
    exact k_iret F hr hlk G dL_needs_18
abbrev rmL_outletsWith : Room := ({ frames := 8, cells := 1, slots := 6, locals := 134 } : Room)
set_option maxHeartbeats 8000000 in
set_option maxRecDepth 100000 in
theorem mL_outletsWith (l : Launch) (hst : l.stackTraces = false) (D : va_G) (T : Nat → ClassId) (aF : Nat → Nat) (aR : Nat → Nat) (aD : Nat → Nat) (aP : Nat → Nat) (aH : Nat → Nat) (aW : Nat → Nat → Nat) (aO : Nat) (tx : Nat → Nat → Int32) (ps : Nat → Nat → Int32) (nm : Nat → Int64) (v : Nat → Nat → Int32) (vn : Nat → Int64) (hs : Nat → Nat → Int32) (ww : Nat → Nat → Nat → Int32) (out : Nat → Int64) (x1 : Int32) (x2 : Int32) {e : Nat} {r : Int32} {k : Int32} {outR : Nat → Int64} (hres : qX10_outletsWith tx ps nm v vn hs ww x1 x2 = some (e, r)) (hk : (e = 0 ∧ k = 0 ∧ outR = vp_updL out 0 r.toInt64) ∨ (e = 3 ∧ k = 1 ∧ outR = out)) : Ct l yL_outletsWith (Cond.codeWith yL_outletsWith cL_outletsWith 5 (some .int) [(0, 10, 13, 25)] :: kAL) rmL_outletsWith D T [.ref (aF 0), .int x1, .int x2, .ref aO] (gO T aF aR aD aP aH aW aO tx ps nm v vn hs ww out) (some (.int k)) (gO T aF aR aD aP aH aW aO tx ps nm v vn hs ww outR) := by
  refine Ct.ofWH (cc := cL_outletsWith) (maxL := 5) (ret := (some .int)) (hh := [(0, 10, 13, 25)]) (by decide +kernel) rfl (Nat.le_of_ble_eq_true rfl) ?_
  intro pr en st mi ag bl me co A ls F hAL hr hlk htab G hl
  have hl : lv_has ls 5 [(0, .ref (aF 0)), (1, .int x1), (2, .int x2), (3, .ref aO)] := hl
  refine lv_aload_n F.1 F.2.1 dL_outletsWith_0 rfl (lv_at hl 3 rfl) ?_
  refine lv_iconst (v := 0) F.1 F.2.1 dL_outletsWith_1 (by decide) ?_
  refine lv_aload_n F.1 F.2.1 dL_outletsWith_2 rfl (lv_at hl 0 rfl) ?_
  refine lv_iload_n F.1 F.2.1 dL_outletsWith_3 rfl (lv_at hl 1 rfl) ?_
  refine lv_iload_n F.1 F.2.1 dL_outletsWith_4 rfl (lv_at hl 2 rfl) ?_
  refine kx_callV (rv := (some (.int r))) (Wc := (gU T aF aR aD aP aH aW tx ps nm v vn hs ww)) (W2 := (gU T aF aR aD aP aH aW tx ps nm v vn hs ww)) (Wn := (gO T aF aR aD aP aH aW aO tx ps nm v vn hs ww out)) (As := [.int x1, .int x2]) (rest := [.int 0, .ref aO]) F G (mX10_outletsWith l hst D T aF aR aD aP aH aW tx ps nm v vn hs ww x1 x2 hres) (cwV 2 hAL (kgL_c kLl28 (kgL_c kLl29 (kgL_c kLl30 (kgL_c (kA kl80) (kgL_c (kA kl683) kgL_k))))) rfl rfl rfl (by decide +kernel) ⟨Nat.le_of_ble_eq_true rfl, Nat.le_of_ble_eq_true rfl⟩) (kg_recv G 1 0 (by decide) rfl (q := (RX10, TX10, 6)) rfl) (kCut_O G) rfl hl.1 rfl (Nat.le_of_ble_eq_true rfl) dL_outletsWith_5 ⟨Nat.le_of_ble_eq_true rfl, Nat.le_of_ble_eq_true rfl⟩ (cN := 1) (sN := 6) ⟨rfl, rfl⟩ (fun c ce q9 H locs G hce hcv hcl => ?_) (fun c H locs G => ?_)
  · rcases hk with ⟨h0, -, -⟩ | ⟨rfl, rfl, rfl⟩
    · exact absurd h0 c
    · refine vx_catch (own := RL) (name := "java/lang/IllegalArgumentException") (E := "java/lang/IllegalArgumentException") F.2.2.2.1 [] ⟨0, 10, 13, 25⟩ [] htab (fun z hz => absurd hz List.not_mem_nil) (by decide) (by decide) (hAL _ kLl11) (va_Nw.use rfl (G.2.2.2.2.1.2.2.2.2.2.2.2.2.2.1 _ (List.mem_of_getElem? (i := 2) rfl))) hce hcv hcl ?_
      refine lv_astore (lv' := [(4, .ref q9), (0, .ref (aF 0)), (1, .int x1), (2, .int x2), (3, .ref aO)]) F.1 F.2.1 dL_outletsWith_13 hl (by decide) rfl (fun ls hl => ?_)
      refine lv_iconst (v := 1) F.1 F.2.1 dL_outletsWith_15 (by decide) ?_
      exact k_iret F hr hlk G dL_outletsWith_16
  · rcases hk with ⟨-, rfl, ho⟩ | ⟨h0, -, -⟩
    rotate_left
    · exact absurd (c.symm.trans h0) (by decide)
    refine lv_i2l (v := r.toInt64) F.1 F.2.1 dL_outletsWith_8 rfl ?_
    refine kg_last (g' := gOc T aF aR aD aP aH aW aO tx ps nm v vn hs ww outR) F G 0 0 (by decide) rfl (i := 0) (kin (by decide +kernel)) dL_outletsWith_9 (by subst ho; rfl) (fun k hk h9 => by cases k with | zero => exact absurd rfl h9 | succ k => rfl) (fun H locs G => ?_)
    refine lv_goto (tgt := 17) F.1 F.2.1 dL_outletsWith_10 (by decide) ?_
    refine lv_iconst (v := 0) F.1 F.2.1 dL_outletsWith_17 (by decide) ?_
    exact k_iret F hr hlk G dL_outletsWith_18
abbrev rmL_load_ : Room := ({ frames := 7, cells := 1, slots := 6, locals := 111 } : Room)
set_option maxHeartbeats 8000000 in
set_option maxRecDepth 100000 in
theorem mL_load_ (l : Launch) (hst : l.stackTraces = false) (D : va_G) (T : Nat → ClassId) (aF : Nat → Nat) (aR : Nat → Nat) (aD : Nat → Nat) (aP : Nat → Nat) (aH : Nat → Nat) (aW : Nat → Nat → Nat) (aO : Nat) (tx : Nat → Nat → Int32) (ps : Nat → Nat → Int32) (nm : Nat → Int64) (v : Nat → Nat → Int32) (vn : Nat → Int64) (hs : Nat → Nat → Int32) (ww : Nat → Nat → Nat → Int32) (out : Nat → Int64) (x1 : Int32) {e : Nat} {r : Int32} {k : Int32} {outR : Nat → Int64} (hres : qX10_load_ tx ps nm v vn hs ww x1 = some (e, r)) (hk : (e = 0 ∧ k = 0 ∧ outR = vp_updL out 0 r.toInt64) ∨ (e = 3 ∧ k = 1 ∧ outR = out)) : Ct l yL_load_ (Cond.codeWith yL_load_ cL_load_ 4 (some .int) [(0, 9, 12, 25)] :: kAL) rmL_load_ D T [.ref (aF 0), .int x1, .ref aO] (gO T aF aR aD aP aH aW aO tx ps nm v vn hs ww out) (some (.int k)) (gO T aF aR aD aP aH aW aO tx ps nm v vn hs ww outR) := by
  refine Ct.ofWH (cc := cL_load_) (maxL := 4) (ret := (some .int)) (hh := [(0, 9, 12, 25)]) (by decide +kernel) rfl (Nat.le_of_ble_eq_true rfl) ?_
  intro pr en st mi ag bl me co A ls F hAL hr hlk htab G hl
  have hl : lv_has ls 4 [(0, .ref (aF 0)), (1, .int x1), (2, .ref aO)] := hl
  refine lv_aload_n F.1 F.2.1 dL_load__0 rfl (lv_at hl 2 rfl) ?_
  refine lv_iconst (v := 0) F.1 F.2.1 dL_load__1 (by decide) ?_
  refine lv_aload_n F.1 F.2.1 dL_load__2 rfl (lv_at hl 0 rfl) ?_
  refine lv_iload_n F.1 F.2.1 dL_load__3 rfl (lv_at hl 1 rfl) ?_
  refine kx_callV (rv := (some (.int r))) (Wc := (gU T aF aR aD aP aH aW tx ps nm v vn hs ww)) (W2 := (gU T aF aR aD aP aH aW tx ps nm v vn hs ww)) (Wn := (gO T aF aR aD aP aH aW aO tx ps nm v vn hs ww out)) (As := [.int x1]) (rest := [.int 0, .ref aO]) F G (mX10_load_ l hst D T aF aR aD aP aH aW tx ps nm v vn hs ww x1 hres) (cwV 1 hAL (kgL_c kLl31 (kgL_c kLl32 (kgL_c kLl33 (kgL_c (kA kl80) (kgL_c (kA kl692) kgL_k))))) rfl rfl rfl (by decide +kernel) ⟨Nat.le_of_ble_eq_true rfl, Nat.le_of_ble_eq_true rfl⟩) (kg_recv G 1 0 (by decide) rfl (q := (RX10, TX10, 6)) rfl) (kCut_O G) rfl hl.1 rfl (Nat.le_of_ble_eq_true rfl) dL_load__4 ⟨Nat.le_of_ble_eq_true rfl, Nat.le_of_ble_eq_true rfl⟩ (cN := 1) (sN := 6) ⟨rfl, rfl⟩ (fun c ce q9 H locs G hce hcv hcl => ?_) (fun c H locs G => ?_)
  · rcases hk with ⟨h0, -, -⟩ | ⟨rfl, rfl, rfl⟩
    · exact absurd h0 c
    · refine vx_catch (own := RL) (name := "java/lang/IllegalArgumentException") (E := "java/lang/IllegalArgumentException") F.2.2.2.1 [] ⟨0, 9, 12, 25⟩ [] htab (fun z hz => absurd hz List.not_mem_nil) (by decide) (by decide) (hAL _ kLl11) (va_Nw.use rfl (G.2.2.2.2.1.2.2.2.2.2.2.2.2.2.1 _ (List.mem_of_getElem? (i := 2) rfl))) hce hcv hcl ?_
      refine lv_astore_n (lv' := [(3, .ref q9), (0, .ref (aF 0)), (1, .int x1), (2, .ref aO)]) F.1 F.2.1 dL_load__12 rfl hl (by decide) rfl (fun ls hl => ?_)
      refine lv_iconst (v := 1) F.1 F.2.1 dL_load__13 (by decide) ?_
      exact k_iret F hr hlk G dL_load__14
  · rcases hk with ⟨-, rfl, ho⟩ | ⟨h0, -, -⟩
    rotate_left
    · exact absurd (c.symm.trans h0) (by decide)
    refine lv_i2l (v := r.toInt64) F.1 F.2.1 dL_load__7 rfl ?_
    refine kg_last (g' := gOc T aF aR aD aP aH aW aO tx ps nm v vn hs ww outR) F G 0 0 (by decide) rfl (i := 0) (kin (by decide +kernel)) dL_load__8 (by subst ho; rfl) (fun k hk h9 => by cases k with | zero => exact absurd rfl h9 | succ k => rfl) (fun H locs G => ?_)
    refine lv_goto (tgt := 15) F.1 F.2.1 dL_load__9 (by decide) ?_
    refine lv_iconst (v := 0) F.1 F.2.1 dL_load__15 (by decide) ?_
    exact k_iret F hr hlk G dL_load__16
abbrev rmL_message : Room := ({ frames := 7, cells := 1, slots := 6, locals := 113 } : Room)
set_option maxHeartbeats 8000000 in
set_option maxRecDepth 100000 in
theorem mL_message (l : Launch) (hst : l.stackTraces = false) (D : va_G) (T : Nat → ClassId) (aF : Nat → Nat) (aR : Nat → Nat) (aD : Nat → Nat) (aP : Nat → Nat) (aH : Nat → Nat) (aW : Nat → Nat → Nat) (aO : Nat) (tx : Nat → Nat → Int32) (ps : Nat → Nat → Int32) (nm : Nat → Int64) (v : Nat → Nat → Int32) (vn : Nat → Int64) (hs : Nat → Nat → Int32) (ww : Nat → Nat → Nat → Int32) (out : Nat → Int64) (x1 : Int32) (x2 : Int32) {e : Nat} {r : Int32} {k : Int32} {outR : Nat → Int64} (hres : qX10_message tx ps nm v vn hs ww x1 x2 = some (e, r)) (hk : (e = 0 ∧ k = 0 ∧ outR = vp_updL out 0 r.toInt64) ∨ (e = 2 ∧ k = 1 ∧ outR = out) ∨ (e = 3 ∧ k = 2 ∧ outR = out)) : Ct l yL_message (Cond.codeWith yL_message cL_message 5 (some .int) [(0, 10, 13, 19), (0, 10, 17, 25)] :: kAL) rmL_message D T [.ref (aF 0), .int x1, .int x2, .ref aO] (gO T aF aR aD aP aH aW aO tx ps nm v vn hs ww out) (some (.int k)) (gO T aF aR aD aP aH aW aO tx ps nm v vn hs ww outR) := by
  refine Ct.ofWH (cc := cL_message) (maxL := 5) (ret := (some .int)) (hh := [(0, 10, 13, 19), (0, 10, 17, 25)]) (by decide +kernel) rfl (Nat.le_of_ble_eq_true rfl) ?_
  intro pr en st mi ag bl me co A ls F hAL hr hlk htab G hl
  have hl : lv_has ls 5 [(0, .ref (aF 0)), (1, .int x1), (2, .int x2), (3, .ref aO)] := hl
  refine lv_aload_n F.1 F.2.1 dL_message_0 rfl (lv_at hl 3 rfl) ?_
  refine lv_iconst (v := 0) F.1 F.2.1 dL_message_1 (by decide) ?_
  refine lv_aload_n F.1 F.2.1 dL_message_2 rfl (lv_at hl 0 rfl) ?_
  refine lv_iload_n F.1 F.2.1 dL_message_3 rfl (lv_at hl 1 rfl) ?_
  refine lv_iload_n F.1 F.2.1 dL_message_4 rfl (lv_at hl 2 rfl) ?_
  refine kx_callV (rv := (some (.int r))) (Wc := (gU T aF aR aD aP aH aW tx ps nm v vn hs ww)) (W2 := (gU T aF aR aD aP aH aW tx ps nm v vn hs ww)) (Wn := (gO T aF aR aD aP aH aW aO tx ps nm v vn hs ww out)) (As := [.int x1, .int x2]) (rest := [.int 0, .ref aO]) F G (mX10_message l hst D T aF aR aD aP aH aW tx ps nm v vn hs ww x1 x2 hres) (cwV 2 hAL (kgL_c kLl34 (kgL_c kLl35 (kgL_c kLl36 (kgL_c (kA kl80) (kgL_c (kA kl696) kgL_k))))) rfl rfl rfl (by decide +kernel) ⟨Nat.le_of_ble_eq_true rfl, Nat.le_of_ble_eq_true rfl⟩) (kg_recv G 1 0 (by decide) rfl (q := (RX10, TX10, 6)) rfl) (kCut_O G) rfl hl.1 rfl (Nat.le_of_ble_eq_true rfl) dL_message_5 ⟨Nat.le_of_ble_eq_true rfl, Nat.le_of_ble_eq_true rfl⟩ (cN := 1) (sN := 6) ⟨rfl, rfl⟩ (fun c ce q9 H locs G hce hcv hcl => ?_) (fun c H locs G => ?_)
  · rcases hk with ⟨h0, -, -⟩ | ⟨rfl, rfl, rfl⟩ | ⟨rfl, rfl, rfl⟩
    · exact absurd h0 c
    · refine vx_catch (own := RL) (name := "java/lang/IndexOutOfBoundsException") (E := "java/lang/IndexOutOfBoundsException") F.2.2.2.1 [] ⟨0, 10, 13, 19⟩ [⟨0, 10, 17, 25⟩] htab (fun z hz => absurd hz List.not_mem_nil) (by decide) (by decide) (hAL _ kLl7) (va_Nw.use rfl (G.2.2.2.2.1.2.2.2.2.2.2.2.2.2.1 _ (List.mem_of_getElem? (i := 1) rfl))) hce hcv hcl ?_
      refine lv_astore (lv' := [(4, .ref q9), (0, .ref (aF 0)), (1, .int x1), (2, .int x2), (3, .ref aO)]) F.1 F.2.1 dL_message_13 hl (by decide) rfl (fun ls hl => ?_)
      refine lv_iconst (v := 1) F.1 F.2.1 dL_message_15 (by decide) ?_
      exact k_iret F hr hlk G dL_message_16
    · refine vx_catch (own := RL) (name := "java/lang/IllegalArgumentException") (E := "java/lang/IllegalArgumentException") F.2.2.2.1 [⟨0, 10, 13, 19⟩] ⟨0, 10, 17, 25⟩ [] htab (fun z hz => by rw [List.mem_singleton.mp hz]; exact Or.inr ⟨by decide, "java/lang/IndexOutOfBoundsException", hAL _ kLl7, G.2.2.2.2.1.2.2.2.2.2.2.1 _ (List.mem_of_getElem? (i := 0) rfl)⟩) (by decide) (by decide) (hAL _ kLl11) (va_Nw.use rfl (G.2.2.2.2.1.2.2.2.2.2.2.2.2.2.1 _ (List.mem_of_getElem? (i := 2) rfl))) hce hcv hcl ?_
      refine lv_astore (lv' := [(4, .ref q9), (0, .ref (aF 0)), (1, .int x1), (2, .int x2), (3, .ref aO)]) F.1 F.2.1 dL_message_17 hl (by decide) rfl (fun ls hl => ?_)
      refine lv_iconst (v := 2) F.1 F.2.1 dL_message_19 (by decide) ?_
      exact k_iret F hr hlk G dL_message_20
  · rcases hk with ⟨-, rfl, ho⟩ | ⟨h0, -, -⟩ | ⟨h0, -, -⟩
    rotate_left
    · exact absurd (c.symm.trans h0) (by decide)
    · exact absurd (c.symm.trans h0) (by decide)
    refine lv_i2l (v := r.toInt64) F.1 F.2.1 dL_message_8 rfl ?_
    refine kg_last (g' := gOc T aF aR aD aP aH aW aO tx ps nm v vn hs ww outR) F G 0 0 (by decide) rfl (i := 0) (kin (by decide +kernel)) dL_message_9 (by subst ho; rfl) (fun k hk h9 => by cases k with | zero => exact absurd rfl h9 | succ k => rfl) (fun H locs G => ?_)
    refine lv_goto (tgt := 21) F.1 F.2.1 dL_message_10 (by decide) ?_
    refine lv_iconst (v := 0) F.1 F.2.1 dL_message_21 (by decide) ?_
    exact k_iret F hr hlk G dL_message_22
abbrev rmL_traffic : Room := ({ frames := 8, cells := 1, slots := 6, locals := 134 } : Room)
set_option maxHeartbeats 8000000 in
set_option maxRecDepth 100000 in
theorem mL_traffic (l : Launch) (hst : l.stackTraces = false) (D : va_G) (T : Nat → ClassId) (aF : Nat → Nat) (aR : Nat → Nat) (aD : Nat → Nat) (aP : Nat → Nat) (aH : Nat → Nat) (aW : Nat → Nat → Nat) (aO : Nat) (tx : Nat → Nat → Int32) (ps : Nat → Nat → Int32) (nm : Nat → Int64) (v : Nat → Nat → Int32) (vn : Nat → Int64) (hs : Nat → Nat → Int32) (ww : Nat → Nat → Nat → Int32) (out : Nat → Int64) (x1 : Int32) (x2 : Int32) {e : Nat} {r : Int32} {k : Int32} {outR : Nat → Int64} (hres : qX10_traffic tx ps nm v vn hs ww x1 x2 = some (e, r)) (hk : (e = 0 ∧ k = 0 ∧ outR = vp_updL out 0 r.toInt64) ∨ (e = 3 ∧ k = 1 ∧ outR = out)) : Ct l yL_traffic (Cond.codeWith yL_traffic cL_traffic 5 (some .int) [(0, 10, 13, 25)] :: kAL) rmL_traffic D T [.ref (aF 0), .int x1, .int x2, .ref aO] (gO T aF aR aD aP aH aW aO tx ps nm v vn hs ww out) (some (.int k)) (gO T aF aR aD aP aH aW aO tx ps nm v vn hs ww outR) := by
  refine Ct.ofWH (cc := cL_traffic) (maxL := 5) (ret := (some .int)) (hh := [(0, 10, 13, 25)]) (by decide +kernel) rfl (Nat.le_of_ble_eq_true rfl) ?_
  intro pr en st mi ag bl me co A ls F hAL hr hlk htab G hl
  have hl : lv_has ls 5 [(0, .ref (aF 0)), (1, .int x1), (2, .int x2), (3, .ref aO)] := hl
  refine lv_aload_n F.1 F.2.1 dL_traffic_0 rfl (lv_at hl 3 rfl) ?_
  refine lv_iconst (v := 0) F.1 F.2.1 dL_traffic_1 (by decide) ?_
  refine lv_aload_n F.1 F.2.1 dL_traffic_2 rfl (lv_at hl 0 rfl) ?_
  refine lv_iload_n F.1 F.2.1 dL_traffic_3 rfl (lv_at hl 1 rfl) ?_
  refine lv_iload_n F.1 F.2.1 dL_traffic_4 rfl (lv_at hl 2 rfl) ?_
  refine kx_callV (rv := (some (.int r))) (Wc := (gU T aF aR aD aP aH aW tx ps nm v vn hs ww)) (W2 := (gU T aF aR aD aP aH aW tx ps nm v vn hs ww)) (Wn := (gO T aF aR aD aP aH aW aO tx ps nm v vn hs ww out)) (As := [.int x1, .int x2]) (rest := [.int 0, .ref aO]) F G (mX10_traffic l hst D T aF aR aD aP aH aW tx ps nm v vn hs ww x1 x2 hres) (cwV 2 hAL (kgL_c kLl37 (kgL_c kLl38 (kgL_c kLl39 (kgL_c (kA kl80) (kgL_c (kA kl700) kgL_k))))) rfl rfl rfl (by decide +kernel) ⟨Nat.le_of_ble_eq_true rfl, Nat.le_of_ble_eq_true rfl⟩) (kg_recv G 1 0 (by decide) rfl (q := (RX10, TX10, 6)) rfl) (kCut_O G) rfl hl.1 rfl (Nat.le_of_ble_eq_true rfl) dL_traffic_5 ⟨Nat.le_of_ble_eq_true rfl, Nat.le_of_ble_eq_true rfl⟩ (cN := 1) (sN := 6) ⟨rfl, rfl⟩ (fun c ce q9 H locs G hce hcv hcl => ?_) (fun c H locs G => ?_)
  · rcases hk with ⟨h0, -, -⟩ | ⟨rfl, rfl, rfl⟩
    · exact absurd h0 c
    · refine vx_catch (own := RL) (name := "java/lang/IllegalArgumentException") (E := "java/lang/IllegalArgumentException") F.2.2.2.1 [] ⟨0, 10, 13, 25⟩ [] htab (fun z hz => absurd hz List.not_mem_nil) (by decide) (by decide) (hAL _ kLl11) (va_Nw.use rfl (G.2.2.2.2.1.2.2.2.2.2.2.2.2.2.1 _ (List.mem_of_getElem? (i := 2) rfl))) hce hcv hcl ?_
      refine lv_astore (lv' := [(4, .ref q9), (0, .ref (aF 0)), (1, .int x1), (2, .int x2), (3, .ref aO)]) F.1 F.2.1 dL_traffic_13 hl (by decide) rfl (fun ls hl => ?_)
      refine lv_iconst (v := 1) F.1 F.2.1 dL_traffic_15 (by decide) ?_
      exact k_iret F hr hlk G dL_traffic_16
  · rcases hk with ⟨-, rfl, ho⟩ | ⟨h0, -, -⟩
    rotate_left
    · exact absurd (c.symm.trans h0) (by decide)
    refine lv_i2l (v := r.toInt64) F.1 F.2.1 dL_traffic_8 rfl ?_
    refine kg_last (g' := gOc T aF aR aD aP aH aW aO tx ps nm v vn hs ww outR) F G 0 0 (by decide) rfl (i := 0) (kin (by decide +kernel)) dL_traffic_9 (by subst ho; rfl) (fun k hk h9 => by cases k with | zero => exact absurd rfl h9 | succ k => rfl) (fun H locs G => ?_)
    refine lv_goto (tgt := 17) F.1 F.2.1 dL_traffic_10 (by decide) ?_
    refine lv_iconst (v := 0) F.1 F.2.1 dL_traffic_17 (by decide) ?_
    exact k_iret F hr hlk G dL_traffic_18
abbrev rmL_learned : Room := ({ frames := 7, cells := 1, slots := 6, locals := 112 } : Room)
set_option maxHeartbeats 8000000 in
set_option maxRecDepth 100000 in
theorem mL_learned (l : Launch) (hst : l.stackTraces = false) (D : va_G) (T : Nat → ClassId) (aF : Nat → Nat) (aR : Nat → Nat) (aD : Nat → Nat) (aP : Nat → Nat) (aH : Nat → Nat) (aW : Nat → Nat → Nat) (aO : Nat) (tx : Nat → Nat → Int32) (ps : Nat → Nat → Int32) (nm : Nat → Int64) (v : Nat → Nat → Int32) (vn : Nat → Int64) (hs : Nat → Nat → Int32) (ww : Nat → Nat → Nat → Int32) (out : Nat → Int64) (x1 : Int32) {e : Nat} {r : Int32} {k : Int32} {outR : Nat → Int64} (hres : qX10_learned tx ps nm v vn hs ww x1 = some (e, r)) (hk : (e = 0 ∧ k = 0 ∧ outR = vp_updL out 0 r.toInt64) ∨ (e = 2 ∧ k = 1 ∧ outR = out)) : Ct l yL_learned (Cond.codeWith yL_learned cL_learned 4 (some .int) [(0, 9, 12, 19)] :: kAL) rmL_learned D T [.ref (aF 0), .int x1, .ref aO] (gO T aF aR aD aP aH aW aO tx ps nm v vn hs ww out) (some (.int k)) (gO T aF aR aD aP aH aW aO tx ps nm v vn hs ww outR) := by
  refine Ct.ofWH (cc := cL_learned) (maxL := 4) (ret := (some .int)) (hh := [(0, 9, 12, 19)]) (by decide +kernel) rfl (Nat.le_of_ble_eq_true rfl) ?_
  intro pr en st mi ag bl me co A ls F hAL hr hlk htab G hl
  have hl : lv_has ls 4 [(0, .ref (aF 0)), (1, .int x1), (2, .ref aO)] := hl
  refine lv_aload_n F.1 F.2.1 dL_learned_0 rfl (lv_at hl 2 rfl) ?_
  refine lv_iconst (v := 0) F.1 F.2.1 dL_learned_1 (by decide) ?_
  refine lv_aload_n F.1 F.2.1 dL_learned_2 rfl (lv_at hl 0 rfl) ?_
  refine lv_iload_n F.1 F.2.1 dL_learned_3 rfl (lv_at hl 1 rfl) ?_
  refine kx_callV (rv := (some (.int r))) (Wc := (gU T aF aR aD aP aH aW tx ps nm v vn hs ww)) (W2 := (gU T aF aR aD aP aH aW tx ps nm v vn hs ww)) (Wn := (gO T aF aR aD aP aH aW aO tx ps nm v vn hs ww out)) (As := [.int x1]) (rest := [.int 0, .ref aO]) F G (mX10_learned l hst D T aF aR aD aP aH aW tx ps nm v vn hs ww x1 hres) (cwV 1 hAL (kgL_c kLl40 (kgL_c kLl41 (kgL_c kLl42 (kgL_c (kA kl80) (kgL_c (kA kl703) kgL_k))))) rfl rfl rfl (by decide +kernel) ⟨Nat.le_of_ble_eq_true rfl, Nat.le_of_ble_eq_true rfl⟩) (kg_recv G 1 0 (by decide) rfl (q := (RX10, TX10, 6)) rfl) (kCut_O G) rfl hl.1 rfl (Nat.le_of_ble_eq_true rfl) dL_learned_4 ⟨Nat.le_of_ble_eq_true rfl, Nat.le_of_ble_eq_true rfl⟩ (cN := 1) (sN := 6) ⟨rfl, rfl⟩ (fun c ce q9 H locs G hce hcv hcl => ?_) (fun c H locs G => ?_)
  · rcases hk with ⟨h0, -, -⟩ | ⟨rfl, rfl, rfl⟩
    · exact absurd h0 c
    · refine vx_catch (own := RL) (name := "java/lang/IndexOutOfBoundsException") (E := "java/lang/IndexOutOfBoundsException") F.2.2.2.1 [] ⟨0, 9, 12, 19⟩ [] htab (fun z hz => absurd hz List.not_mem_nil) (by decide) (by decide) (hAL _ kLl7) (va_Nw.use rfl (G.2.2.2.2.1.2.2.2.2.2.2.2.2.2.1 _ (List.mem_of_getElem? (i := 1) rfl))) hce hcv hcl ?_
      refine lv_astore_n (lv' := [(3, .ref q9), (0, .ref (aF 0)), (1, .int x1), (2, .ref aO)]) F.1 F.2.1 dL_learned_12 rfl hl (by decide) rfl (fun ls hl => ?_)
      refine lv_iconst (v := 1) F.1 F.2.1 dL_learned_13 (by decide) ?_
      exact k_iret F hr hlk G dL_learned_14
  · rcases hk with ⟨-, rfl, ho⟩ | ⟨h0, -, -⟩
    rotate_left
    · exact absurd (c.symm.trans h0) (by decide)
    refine lv_i2l (v := r.toInt64) F.1 F.2.1 dL_learned_7 rfl ?_
    refine kg_last (g' := gOc T aF aR aD aP aH aW aO tx ps nm v vn hs ww outR) F G 0 0 (by decide) rfl (i := 0) (kin (by decide +kernel)) dL_learned_8 (by subst ho; rfl) (fun k hk h9 => by cases k with | zero => exact absurd rfl h9 | succ k => rfl) (fun H locs G => ?_)
    refine lv_goto (tgt := 15) F.1 F.2.1 dL_learned_9 (by decide) ?_
    refine lv_iconst (v := 0) F.1 F.2.1 dL_learned_15 (by decide) ?_
    exact k_iret F hr hlk G dL_learned_16
abbrev rmL_why : Room := ({ frames := 8, cells := 1, slots := 6, locals := 132 } : Room)
set_option maxHeartbeats 8000000 in
set_option maxRecDepth 100000 in
theorem mL_why (l : Launch) (hst : l.stackTraces = false) (D : va_G) (T : Nat → ClassId) (aF : Nat → Nat) (aR : Nat → Nat) (aD : Nat → Nat) (aP : Nat → Nat) (aH : Nat → Nat) (aW : Nat → Nat → Nat) (aO : Nat) (tx : Nat → Nat → Int32) (ps : Nat → Nat → Int32) (nm : Nat → Int64) (v : Nat → Nat → Int32) (vn : Nat → Int64) (hs : Nat → Nat → Int32) (ww : Nat → Nat → Nat → Int32) (out : Nat → Int64) (x1 : Int32) {e : Nat} {r : Int32} {wwR : Nat → Nat → Nat → Int32} {k : Int32} {outR : Nat → Int64} (hres : qX10_why tx ps nm v vn hs ww x1 = some (e, r, wwR)) (hk : (e = 0 ∧ k = 0 ∧ outR = vp_updL out 0 r.toInt64) ∨ (e = 2 ∧ k = 1 ∧ outR = out)) : Ct l yL_why (Cond.codeWith yL_why cL_why 4 (some .int) [(0, 9, 12, 19)] :: kAL) rmL_why D T [.ref (aF 0), .int x1, .ref aO] (gO T aF aR aD aP aH aW aO tx ps nm v vn hs ww out) (some (.int k)) (gO T aF aR aD aP aH aW aO tx ps nm v vn hs wwR outR) := by
  refine Ct.ofWH (cc := cL_why) (maxL := 4) (ret := (some .int)) (hh := [(0, 9, 12, 19)]) (by decide +kernel) rfl (Nat.le_of_ble_eq_true rfl) ?_
  intro pr en st mi ag bl me co A ls F hAL hr hlk htab G hl
  have hl : lv_has ls 4 [(0, .ref (aF 0)), (1, .int x1), (2, .ref aO)] := hl
  refine lv_aload_n F.1 F.2.1 dL_why_0 rfl (lv_at hl 2 rfl) ?_
  refine lv_iconst (v := 0) F.1 F.2.1 dL_why_1 (by decide) ?_
  refine lv_aload_n F.1 F.2.1 dL_why_2 rfl (lv_at hl 0 rfl) ?_
  refine lv_iload_n F.1 F.2.1 dL_why_3 rfl (lv_at hl 1 rfl) ?_
  refine kx_callV (rv := (some (.int r))) (Wc := (gU T aF aR aD aP aH aW tx ps nm v vn hs ww)) (W2 := (gU T aF aR aD aP aH aW tx ps nm v vn hs wwR)) (Wn := (gO T aF aR aD aP aH aW aO tx ps nm v vn hs wwR out)) (As := [.int x1]) (rest := [.int 0, .ref aO]) F G (mX10_why l hst D T aF aR aD aP aH aW tx ps nm v vn hs ww x1 hres) (cwV 1 hAL (kgL_c kLl43 (kgL_c kLl44 (kgL_c kLl45 (kgL_c (kA kl80) (kgL_c (kA kl708) kgL_k))))) rfl rfl rfl (by decide +kernel) ⟨Nat.le_of_ble_eq_true rfl, Nat.le_of_ble_eq_true rfl⟩) (kg_recv G 1 0 (by decide) rfl (q := (RX10, TX10, 6)) rfl) (kCut_O G) rfl hl.1 rfl (Nat.le_of_ble_eq_true rfl) dL_why_4 ⟨Nat.le_of_ble_eq_true rfl, Nat.le_of_ble_eq_true rfl⟩ (cN := 1) (sN := 6) ⟨rfl, rfl⟩ (fun c ce q9 H locs G hce hcv hcl => ?_) (fun c H locs G => ?_)
  · rcases hk with ⟨h0, -, -⟩ | ⟨rfl, rfl, rfl⟩
    · exact absurd h0 c
    · refine vx_catch (own := RL) (name := "java/lang/IndexOutOfBoundsException") (E := "java/lang/IndexOutOfBoundsException") F.2.2.2.1 [] ⟨0, 9, 12, 19⟩ [] htab (fun z hz => absurd hz List.not_mem_nil) (by decide) (by decide) (hAL _ kLl7) (va_Nw.use rfl (G.2.2.2.2.1.2.2.2.2.2.2.2.2.2.1 _ (List.mem_of_getElem? (i := 1) rfl))) hce hcv hcl ?_
      refine lv_astore_n (lv' := [(3, .ref q9), (0, .ref (aF 0)), (1, .int x1), (2, .ref aO)]) F.1 F.2.1 dL_why_12 rfl hl (by decide) rfl (fun ls hl => ?_)
      refine lv_iconst (v := 1) F.1 F.2.1 dL_why_13 (by decide) ?_
      exact k_iret F hr hlk G dL_why_14
  · rcases hk with ⟨-, rfl, ho⟩ | ⟨h0, -, -⟩
    rotate_left
    · exact absurd (c.symm.trans h0) (by decide)
    refine lv_i2l (v := r.toInt64) F.1 F.2.1 dL_why_7 rfl ?_
    refine kg_last (g' := gOc T aF aR aD aP aH aW aO tx ps nm v vn hs wwR outR) F G 0 0 (by decide) rfl (i := 0) (kin (by decide +kernel)) dL_why_8 (by subst ho; rfl) (fun k hk h9 => by cases k with | zero => exact absurd rfl h9 | succ k => rfl) (fun H locs G => ?_)
    refine lv_goto (tgt := 15) F.1 F.2.1 dL_why_9 (by decide) ?_
    refine lv_iconst (v := 0) F.1 F.2.1 dL_why_15 (by decide) ?_
    exact k_iret F hr hlk G dL_why_16
abbrev rmL_runsIn : Room := ({ frames := 8, cells := 2, slots := 12, locals := 170 } : Room)
set_option maxHeartbeats 8000000 in
set_option maxRecDepth 100000 in
theorem mL_runsIn (l : Launch) (hst : l.stackTraces = false) (D : va_G) (T : Nat → ClassId) (aF : Nat → Nat) (aR : Nat → Nat) (aD : Nat → Nat) (aP : Nat → Nat) (aH : Nat → Nat) (aW : Nat → Nat → Nat) (aO : Nat) (tx : Nat → Nat → Int32) (ps : Nat → Nat → Int32) (nm : Nat → Int64) (v : Nat → Nat → Int32) (vn : Nat → Int64) (hs : Nat → Nat → Int32) (ww : Nat → Nat → Nat → Int32) (out : Nat → Int64) (x1 : Int32) {e : Nat} {r : Int32} {wwR : Nat → Nat → Nat → Int32} {k : Int32} {outR : Nat → Int64} (hres : qX10_runsIn tx ps nm v vn hs ww x1 = some (e, r, wwR)) (hk : (e = 0 ∧ k = 0 ∧ outR = vp_updL out 0 r.toInt64) ∨ (e = 2 ∧ k = 1 ∧ outR = out) ∨ (e = 4 ∧ k = 2 ∧ outR = out)) : Ct l yL_runsIn (Cond.codeWith yL_runsIn cL_runsIn 4 (some .int) [(0, 9, 12, 19), (0, 9, 15, 30)] :: kAL) rmL_runsIn D T [.ref (aF 0), .int x1, .ref aO] (gO T aF aR aD aP aH aW aO tx ps nm v vn hs ww out) (some (.int k)) (gO T aF aR aD aP aH aW aO tx ps nm v vn hs wwR outR) := by
  refine Ct.ofWH (cc := cL_runsIn) (maxL := 4) (ret := (some .int)) (hh := [(0, 9, 12, 19), (0, 9, 15, 30)]) (by decide +kernel) rfl (Nat.le_of_ble_eq_true rfl) ?_
  intro pr en st mi ag bl me co A ls F hAL hr hlk htab G hl
  have hl : lv_has ls 4 [(0, .ref (aF 0)), (1, .int x1), (2, .ref aO)] := hl
  refine lv_aload_n F.1 F.2.1 dL_runsIn_0 rfl (lv_at hl 2 rfl) ?_
  refine lv_iconst (v := 0) F.1 F.2.1 dL_runsIn_1 (by decide) ?_
  refine lv_aload_n F.1 F.2.1 dL_runsIn_2 rfl (lv_at hl 0 rfl) ?_
  refine lv_iload_n F.1 F.2.1 dL_runsIn_3 rfl (lv_at hl 1 rfl) ?_
  refine kx_callV (rv := (some (.int r))) (Wc := (gU T aF aR aD aP aH aW tx ps nm v vn hs ww)) (W2 := (gU T aF aR aD aP aH aW tx ps nm v vn hs wwR)) (Wn := (gO T aF aR aD aP aH aW aO tx ps nm v vn hs wwR out)) (As := [.int x1]) (rest := [.int 0, .ref aO]) F G (mX10_runsIn l hst D T aF aR aD aP aH aW tx ps nm v vn hs ww x1 hres) (cwV 1 hAL (kgL_c kLl46 (kgL_c kLl47 (kgL_c kLl48 (kgL_c (kA kl80) (kgL_c (kA kl714) kgL_k))))) rfl rfl rfl (by decide +kernel) ⟨Nat.le_of_ble_eq_true rfl, Nat.le_of_ble_eq_true rfl⟩) (kg_recv G 1 0 (by decide) rfl (q := (RX10, TX10, 6)) rfl) (kCut_O G) rfl hl.1 rfl (Nat.le_of_ble_eq_true rfl) dL_runsIn_4 ⟨Nat.le_of_ble_eq_true rfl, Nat.le_of_ble_eq_true rfl⟩ (cN := 2) (sN := 12) ⟨rfl, rfl⟩ (fun c ce q9 H locs G hce hcv hcl => ?_) (fun c H locs G => ?_)
  · rcases hk with ⟨h0, -, -⟩ | ⟨rfl, rfl, rfl⟩ | ⟨rfl, rfl, rfl⟩
    · exact absurd h0 c
    · refine vx_catch (own := RL) (name := "java/lang/IndexOutOfBoundsException") (E := "java/lang/IndexOutOfBoundsException") F.2.2.2.1 [] ⟨0, 9, 12, 19⟩ [⟨0, 9, 15, 30⟩] htab (fun z hz => absurd hz List.not_mem_nil) (by decide) (by decide) (hAL _ kLl7) (va_Nw.use rfl (G.2.2.2.2.1.2.2.2.2.2.2.2.2.2.1 _ (List.mem_of_getElem? (i := 1) rfl))) hce hcv hcl ?_
      refine lv_astore_n (lv' := [(3, .ref q9), (0, .ref (aF 0)), (1, .int x1), (2, .ref aO)]) F.1 F.2.1 dL_runsIn_12 rfl hl (by decide) rfl (fun ls hl => ?_)
      refine lv_iconst (v := 1) F.1 F.2.1 dL_runsIn_13 (by decide) ?_
      exact k_iret F hr hlk G dL_runsIn_14
    · refine vx_catch (own := RL) (name := "java/util/NoSuchElementException") (E := "java/util/NoSuchElementException") F.2.2.2.1 [⟨0, 9, 12, 19⟩] ⟨0, 9, 15, 30⟩ [] htab (fun z hz => by rw [List.mem_singleton.mp hz]; exact Or.inr ⟨by decide, "java/lang/IndexOutOfBoundsException", hAL _ kLl7, G.2.2.2.2.1.2.2.2.2.2.2.1 _ (List.mem_of_getElem? (i := 1) rfl)⟩) (by decide) (by decide) (hAL _ kLl15) (va_Nw.use rfl (G.2.2.2.2.1.2.2.2.2.2.2.2.2.2.1 _ (List.mem_of_getElem? (i := 3) rfl))) hce hcv hcl ?_
      refine lv_astore_n (lv' := [(3, .ref q9), (0, .ref (aF 0)), (1, .int x1), (2, .ref aO)]) F.1 F.2.1 dL_runsIn_15 rfl hl (by decide) rfl (fun ls hl => ?_)
      refine lv_iconst (v := 2) F.1 F.2.1 dL_runsIn_16 (by decide) ?_
      exact k_iret F hr hlk G dL_runsIn_17
  · rcases hk with ⟨-, rfl, ho⟩ | ⟨h0, -, -⟩ | ⟨h0, -, -⟩
    rotate_left
    · exact absurd (c.symm.trans h0) (by decide)
    · exact absurd (c.symm.trans h0) (by decide)
    refine lv_i2l (v := r.toInt64) F.1 F.2.1 dL_runsIn_7 rfl ?_
    refine kg_last (g' := gOc T aF aR aD aP aH aW aO tx ps nm v vn hs wwR outR) F G 0 0 (by decide) rfl (i := 0) (kin (by decide +kernel)) dL_runsIn_8 (by subst ho; rfl) (fun k hk h9 => by cases k with | zero => exact absurd rfl h9 | succ k => rfl) (fun H locs G => ?_)
    refine lv_goto (tgt := 18) F.1 F.2.1 dL_runsIn_9 (by decide) ?_
    refine lv_iconst (v := 0) F.1 F.2.1 dL_runsIn_18 (by decide) ?_
    exact k_iret F hr hlk G dL_runsIn_19
abbrev rmL_allIn : Room := ({ frames := 8, cells := 2, slots := 12, locals := 170 } : Room)
set_option maxHeartbeats 8000000 in
set_option maxRecDepth 100000 in
theorem mL_allIn (l : Launch) (hst : l.stackTraces = false) (D : va_G) (T : Nat → ClassId) (aF : Nat → Nat) (aR : Nat → Nat) (aD : Nat → Nat) (aP : Nat → Nat) (aH : Nat → Nat) (aW : Nat → Nat → Nat) (aO : Nat) (tx : Nat → Nat → Int32) (ps : Nat → Nat → Int32) (nm : Nat → Int64) (v : Nat → Nat → Int32) (vn : Nat → Int64) (hs : Nat → Nat → Int32) (ww : Nat → Nat → Nat → Int32) (out : Nat → Int64) (x1 : Int32) {e : Nat} {r : Int32} {wwR : Nat → Nat → Nat → Int32} {k : Int32} {outR : Nat → Int64} (hres : qX10_allIn tx ps nm v vn hs ww x1 = some (e, r, wwR)) (hk : (e = 0 ∧ k = 0 ∧ outR = vp_updL out 0 r.toInt64) ∨ (e = 3 ∧ k = 1 ∧ outR = out) ∨ (e = 4 ∧ k = 2 ∧ outR = out)) : Ct l yL_allIn (Cond.codeWith yL_allIn cL_allIn 4 (some .int) [(0, 9, 12, 25), (0, 9, 15, 30)] :: kAL) rmL_allIn D T [.ref (aF 0), .int x1, .ref aO] (gO T aF aR aD aP aH aW aO tx ps nm v vn hs ww out) (some (.int k)) (gO T aF aR aD aP aH aW aO tx ps nm v vn hs wwR outR) := by
  refine Ct.ofWH (cc := cL_allIn) (maxL := 4) (ret := (some .int)) (hh := [(0, 9, 12, 25), (0, 9, 15, 30)]) (by decide +kernel) rfl (Nat.le_of_ble_eq_true rfl) ?_
  intro pr en st mi ag bl me co A ls F hAL hr hlk htab G hl
  have hl : lv_has ls 4 [(0, .ref (aF 0)), (1, .int x1), (2, .ref aO)] := hl
  refine lv_aload_n F.1 F.2.1 dL_allIn_0 rfl (lv_at hl 2 rfl) ?_
  refine lv_iconst (v := 0) F.1 F.2.1 dL_allIn_1 (by decide) ?_
  refine lv_aload_n F.1 F.2.1 dL_allIn_2 rfl (lv_at hl 0 rfl) ?_
  refine lv_iload_n F.1 F.2.1 dL_allIn_3 rfl (lv_at hl 1 rfl) ?_
  refine kx_callV (rv := (some (.int r))) (Wc := (gU T aF aR aD aP aH aW tx ps nm v vn hs ww)) (W2 := (gU T aF aR aD aP aH aW tx ps nm v vn hs wwR)) (Wn := (gO T aF aR aD aP aH aW aO tx ps nm v vn hs wwR out)) (As := [.int x1]) (rest := [.int 0, .ref aO]) F G (mX10_allIn l hst D T aF aR aD aP aH aW tx ps nm v vn hs ww x1 hres) (cwV 1 hAL (kgL_c kLl49 (kgL_c kLl50 (kgL_c kLl51 (kgL_c (kA kl80) (kgL_c (kA kl719) kgL_k))))) rfl rfl rfl (by decide +kernel) ⟨Nat.le_of_ble_eq_true rfl, Nat.le_of_ble_eq_true rfl⟩) (kg_recv G 1 0 (by decide) rfl (q := (RX10, TX10, 6)) rfl) (kCut_O G) rfl hl.1 rfl (Nat.le_of_ble_eq_true rfl) dL_allIn_4 ⟨Nat.le_of_ble_eq_true rfl, Nat.le_of_ble_eq_true rfl⟩ (cN := 2) (sN := 12) ⟨rfl, rfl⟩ (fun c ce q9 H locs G hce hcv hcl => ?_) (fun c H locs G => ?_)
  · rcases hk with ⟨h0, -, -⟩ | ⟨rfl, rfl, rfl⟩ | ⟨rfl, rfl, rfl⟩
    · exact absurd h0 c
    · refine vx_catch (own := RL) (name := "java/lang/IllegalArgumentException") (E := "java/lang/IllegalArgumentException") F.2.2.2.1 [] ⟨0, 9, 12, 25⟩ [⟨0, 9, 15, 30⟩] htab (fun z hz => absurd hz List.not_mem_nil) (by decide) (by decide) (hAL _ kLl11) (va_Nw.use rfl (G.2.2.2.2.1.2.2.2.2.2.2.2.2.2.1 _ (List.mem_of_getElem? (i := 2) rfl))) hce hcv hcl ?_
      refine lv_astore_n (lv' := [(3, .ref q9), (0, .ref (aF 0)), (1, .int x1), (2, .ref aO)]) F.1 F.2.1 dL_allIn_12 rfl hl (by decide) rfl (fun ls hl => ?_)
      refine lv_iconst (v := 1) F.1 F.2.1 dL_allIn_13 (by decide) ?_
      exact k_iret F hr hlk G dL_allIn_14
    · refine vx_catch (own := RL) (name := "java/util/NoSuchElementException") (E := "java/util/NoSuchElementException") F.2.2.2.1 [⟨0, 9, 12, 25⟩] ⟨0, 9, 15, 30⟩ [] htab (fun z hz => by rw [List.mem_singleton.mp hz]; exact Or.inr ⟨by decide, "java/lang/IllegalArgumentException", hAL _ kLl11, G.2.2.2.2.1.2.2.2.2.2.2.1 _ (List.mem_of_getElem? (i := 2) rfl)⟩) (by decide) (by decide) (hAL _ kLl15) (va_Nw.use rfl (G.2.2.2.2.1.2.2.2.2.2.2.2.2.2.1 _ (List.mem_of_getElem? (i := 3) rfl))) hce hcv hcl ?_
      refine lv_astore_n (lv' := [(3, .ref q9), (0, .ref (aF 0)), (1, .int x1), (2, .ref aO)]) F.1 F.2.1 dL_allIn_15 rfl hl (by decide) rfl (fun ls hl => ?_)
      refine lv_iconst (v := 2) F.1 F.2.1 dL_allIn_16 (by decide) ?_
      exact k_iret F hr hlk G dL_allIn_17
  · rcases hk with ⟨-, rfl, ho⟩ | ⟨h0, -, -⟩ | ⟨h0, -, -⟩
    rotate_left
    · exact absurd (c.symm.trans h0) (by decide)
    · exact absurd (c.symm.trans h0) (by decide)
    refine lv_i2l (v := r.toInt64) F.1 F.2.1 dL_allIn_7 rfl ?_
    refine kg_last (g' := gOc T aF aR aD aP aH aW aO tx ps nm v vn hs wwR outR) F G 0 0 (by decide) rfl (i := 0) (kin (by decide +kernel)) dL_allIn_8 (by subst ho; rfl) (fun k hk h9 => by cases k with | zero => exact absurd rfl h9 | succ k => rfl) (fun H locs G => ?_)
    refine lv_goto (tgt := 18) F.1 F.2.1 dL_allIn_9 (by decide) ?_
    refine lv_iconst (v := 0) F.1 F.2.1 dL_allIn_18 (by decide) ?_
    exact k_iret F hr hlk G dL_allIn_19
abbrev rmL_peakIn : Room := ({ frames := 8, cells := 2, slots := 12, locals := 171 } : Room)
set_option maxHeartbeats 8000000 in
set_option maxRecDepth 100000 in
theorem mL_peakIn (l : Launch) (hst : l.stackTraces = false) (D : va_G) (T : Nat → ClassId) (aF : Nat → Nat) (aR : Nat → Nat) (aD : Nat → Nat) (aP : Nat → Nat) (aH : Nat → Nat) (aW : Nat → Nat → Nat) (aO : Nat) (tx : Nat → Nat → Int32) (ps : Nat → Nat → Int32) (nm : Nat → Int64) (v : Nat → Nat → Int32) (vn : Nat → Int64) (hs : Nat → Nat → Int32) (ww : Nat → Nat → Nat → Int32) (out : Nat → Int64) (x1 : Int32) (x2 : Int32) {e : Nat} {r : Int32} {wwR : Nat → Nat → Nat → Int32} {k : Int32} {outR : Nat → Int64} (hres : qX10_peakIn tx ps nm v vn hs ww x1 x2 = some (e, r, wwR)) (hk : (e = 0 ∧ k = 0 ∧ outR = vp_updL out 0 r.toInt64) ∨ (e = 3 ∧ k = 1 ∧ outR = out)) : Ct l yL_peakIn (Cond.codeWith yL_peakIn cL_peakIn 5 (some .int) [(0, 10, 13, 25)] :: kAL) rmL_peakIn D T [.ref (aF 0), .int x1, .int x2, .ref aO] (gO T aF aR aD aP aH aW aO tx ps nm v vn hs ww out) (some (.int k)) (gO T aF aR aD aP aH aW aO tx ps nm v vn hs wwR outR) := by
  refine Ct.ofWH (cc := cL_peakIn) (maxL := 5) (ret := (some .int)) (hh := [(0, 10, 13, 25)]) (by decide +kernel) rfl (Nat.le_of_ble_eq_true rfl) ?_
  intro pr en st mi ag bl me co A ls F hAL hr hlk htab G hl
  have hl : lv_has ls 5 [(0, .ref (aF 0)), (1, .int x1), (2, .int x2), (3, .ref aO)] := hl
  refine lv_aload_n F.1 F.2.1 dL_peakIn_0 rfl (lv_at hl 3 rfl) ?_
  refine lv_iconst (v := 0) F.1 F.2.1 dL_peakIn_1 (by decide) ?_
  refine lv_aload_n F.1 F.2.1 dL_peakIn_2 rfl (lv_at hl 0 rfl) ?_
  refine lv_iload_n F.1 F.2.1 dL_peakIn_3 rfl (lv_at hl 1 rfl) ?_
  refine lv_iload_n F.1 F.2.1 dL_peakIn_4 rfl (lv_at hl 2 rfl) ?_
  refine kx_callV (rv := (some (.int r))) (Wc := (gU T aF aR aD aP aH aW tx ps nm v vn hs ww)) (W2 := (gU T aF aR aD aP aH aW tx ps nm v vn hs wwR)) (Wn := (gO T aF aR aD aP aH aW aO tx ps nm v vn hs wwR out)) (As := [.int x1, .int x2]) (rest := [.int 0, .ref aO]) F G (mX10_peakIn l hst D T aF aR aD aP aH aW tx ps nm v vn hs ww x1 x2 hres) (cwV 2 hAL (kgL_c kLl52 (kgL_c kLl53 (kgL_c kLl54 (kgL_c (kA kl80) (kgL_c (kA kl722) kgL_k))))) rfl rfl rfl (by decide +kernel) ⟨Nat.le_of_ble_eq_true rfl, Nat.le_of_ble_eq_true rfl⟩) (kg_recv G 1 0 (by decide) rfl (q := (RX10, TX10, 6)) rfl) (kCut_O G) rfl hl.1 rfl (Nat.le_of_ble_eq_true rfl) dL_peakIn_5 ⟨Nat.le_of_ble_eq_true rfl, Nat.le_of_ble_eq_true rfl⟩ (cN := 2) (sN := 12) ⟨rfl, rfl⟩ (fun c ce q9 H locs G hce hcv hcl => ?_) (fun c H locs G => ?_)
  · rcases hk with ⟨h0, -, -⟩ | ⟨rfl, rfl, rfl⟩
    · exact absurd h0 c
    · refine vx_catch (own := RL) (name := "java/lang/IllegalArgumentException") (E := "java/lang/IllegalArgumentException") F.2.2.2.1 [] ⟨0, 10, 13, 25⟩ [] htab (fun z hz => absurd hz List.not_mem_nil) (by decide) (by decide) (hAL _ kLl11) (va_Nw.use rfl (G.2.2.2.2.1.2.2.2.2.2.2.2.2.2.1 _ (List.mem_of_getElem? (i := 2) rfl))) hce hcv hcl ?_
      refine lv_astore (lv' := [(4, .ref q9), (0, .ref (aF 0)), (1, .int x1), (2, .int x2), (3, .ref aO)]) F.1 F.2.1 dL_peakIn_13 hl (by decide) rfl (fun ls hl => ?_)
      refine lv_iconst (v := 1) F.1 F.2.1 dL_peakIn_15 (by decide) ?_
      exact k_iret F hr hlk G dL_peakIn_16
  · rcases hk with ⟨-, rfl, ho⟩ | ⟨h0, -, -⟩
    rotate_left
    · exact absurd (c.symm.trans h0) (by decide)
    refine lv_i2l (v := r.toInt64) F.1 F.2.1 dL_peakIn_8 rfl ?_
    refine kg_last (g' := gOc T aF aR aD aP aH aW aO tx ps nm v vn hs wwR outR) F G 0 0 (by decide) rfl (i := 0) (kin (by decide +kernel)) dL_peakIn_9 (by subst ho; rfl) (fun k hk h9 => by cases k with | zero => exact absurd rfl h9 | succ k => rfl) (fun H locs G => ?_)
    refine lv_goto (tgt := 17) F.1 F.2.1 dL_peakIn_10 (by decide) ?_
    refine lv_iconst (v := 0) F.1 F.2.1 dL_peakIn_17 (by decide) ?_
    exact k_iret F hr hlk G dL_peakIn_18
abbrev rmL_sentIn : Room := ({ frames := 8, cells := 2, slots := 12, locals := 171 } : Room)
set_option maxHeartbeats 8000000 in
set_option maxRecDepth 100000 in
theorem mL_sentIn (l : Launch) (hst : l.stackTraces = false) (D : va_G) (T : Nat → ClassId) (aF : Nat → Nat) (aR : Nat → Nat) (aD : Nat → Nat) (aP : Nat → Nat) (aH : Nat → Nat) (aW : Nat → Nat → Nat) (aO : Nat) (tx : Nat → Nat → Int32) (ps : Nat → Nat → Int32) (nm : Nat → Int64) (v : Nat → Nat → Int32) (vn : Nat → Int64) (hs : Nat → Nat → Int32) (ww : Nat → Nat → Nat → Int32) (out : Nat → Int64) (x1 : Int32) (x2 : Int32) {e : Nat} {r : Int32} {wwR : Nat → Nat → Nat → Int32} {k : Int32} {outR : Nat → Int64} (hres : qX10_sentIn tx ps nm v vn hs ww x1 x2 = some (e, r, wwR)) (hk : (e = 0 ∧ k = 0 ∧ outR = vp_updL out 0 r.toInt64) ∨ (e = 3 ∧ k = 1 ∧ outR = out)) : Ct l yL_sentIn (Cond.codeWith yL_sentIn cL_sentIn 5 (some .int) [(0, 10, 13, 25)] :: kAL) rmL_sentIn D T [.ref (aF 0), .int x1, .int x2, .ref aO] (gO T aF aR aD aP aH aW aO tx ps nm v vn hs ww out) (some (.int k)) (gO T aF aR aD aP aH aW aO tx ps nm v vn hs wwR outR) := by
  refine Ct.ofWH (cc := cL_sentIn) (maxL := 5) (ret := (some .int)) (hh := [(0, 10, 13, 25)]) (by decide +kernel) rfl (Nat.le_of_ble_eq_true rfl) ?_
  intro pr en st mi ag bl me co A ls F hAL hr hlk htab G hl
  have hl : lv_has ls 5 [(0, .ref (aF 0)), (1, .int x1), (2, .int x2), (3, .ref aO)] := hl
  refine lv_aload_n F.1 F.2.1 dL_sentIn_0 rfl (lv_at hl 3 rfl) ?_
  refine lv_iconst (v := 0) F.1 F.2.1 dL_sentIn_1 (by decide) ?_
  refine lv_aload_n F.1 F.2.1 dL_sentIn_2 rfl (lv_at hl 0 rfl) ?_
  refine lv_iload_n F.1 F.2.1 dL_sentIn_3 rfl (lv_at hl 1 rfl) ?_
  refine lv_iload_n F.1 F.2.1 dL_sentIn_4 rfl (lv_at hl 2 rfl) ?_
  refine kx_callV (rv := (some (.int r))) (Wc := (gU T aF aR aD aP aH aW tx ps nm v vn hs ww)) (W2 := (gU T aF aR aD aP aH aW tx ps nm v vn hs wwR)) (Wn := (gO T aF aR aD aP aH aW aO tx ps nm v vn hs wwR out)) (As := [.int x1, .int x2]) (rest := [.int 0, .ref aO]) F G (mX10_sentIn l hst D T aF aR aD aP aH aW tx ps nm v vn hs ww x1 x2 hres) (cwV 2 hAL (kgL_c kLl55 (kgL_c kLl56 (kgL_c kLl57 (kgL_c (kA kl80) (kgL_c (kA kl726) kgL_k))))) rfl rfl rfl (by decide +kernel) ⟨Nat.le_of_ble_eq_true rfl, Nat.le_of_ble_eq_true rfl⟩) (kg_recv G 1 0 (by decide) rfl (q := (RX10, TX10, 6)) rfl) (kCut_O G) rfl hl.1 rfl (Nat.le_of_ble_eq_true rfl) dL_sentIn_5 ⟨Nat.le_of_ble_eq_true rfl, Nat.le_of_ble_eq_true rfl⟩ (cN := 2) (sN := 12) ⟨rfl, rfl⟩ (fun c ce q9 H locs G hce hcv hcl => ?_) (fun c H locs G => ?_)
  · rcases hk with ⟨h0, -, -⟩ | ⟨rfl, rfl, rfl⟩
    · exact absurd h0 c
    · refine vx_catch (own := RL) (name := "java/lang/IllegalArgumentException") (E := "java/lang/IllegalArgumentException") F.2.2.2.1 [] ⟨0, 10, 13, 25⟩ [] htab (fun z hz => absurd hz List.not_mem_nil) (by decide) (by decide) (hAL _ kLl11) (va_Nw.use rfl (G.2.2.2.2.1.2.2.2.2.2.2.2.2.2.1 _ (List.mem_of_getElem? (i := 2) rfl))) hce hcv hcl ?_
      refine lv_astore (lv' := [(4, .ref q9), (0, .ref (aF 0)), (1, .int x1), (2, .int x2), (3, .ref aO)]) F.1 F.2.1 dL_sentIn_13 hl (by decide) rfl (fun ls hl => ?_)
      refine lv_iconst (v := 1) F.1 F.2.1 dL_sentIn_15 (by decide) ?_
      exact k_iret F hr hlk G dL_sentIn_16
  · rcases hk with ⟨-, rfl, ho⟩ | ⟨h0, -, -⟩
    rotate_left
    · exact absurd (c.symm.trans h0) (by decide)
    refine lv_i2l (v := r.toInt64) F.1 F.2.1 dL_sentIn_8 rfl ?_
    refine kg_last (g' := gOc T aF aR aD aP aH aW aO tx ps nm v vn hs wwR outR) F G 0 0 (by decide) rfl (i := 0) (kin (by decide +kernel)) dL_sentIn_9 (by subst ho; rfl) (fun k hk h9 => by cases k with | zero => exact absurd rfl h9 | succ k => rfl) (fun H locs G => ?_)
    refine lv_goto (tgt := 17) F.1 F.2.1 dL_sentIn_10 (by decide) ?_
    refine lv_iconst (v := 0) F.1 F.2.1 dL_sentIn_17 (by decide) ?_
    exact k_iret F hr hlk G dL_sentIn_18
abbrev rmL_run : Room := ({ frames := 8, cells := 2, slots := 12, locals := 170 } : Room)
set_option maxHeartbeats 8000000 in
set_option maxRecDepth 100000 in
theorem mL_run (l : Launch) (hst : l.stackTraces = false) (D : va_G) (T : Nat → ClassId) (aF : Nat → Nat) (aR : Nat → Nat) (aD : Nat → Nat) (aP : Nat → Nat) (aH : Nat → Nat) (aW : Nat → Nat → Nat) (aO : Nat) (tx : Nat → Nat → Int32) (ps : Nat → Nat → Int32) (nm : Nat → Int64) (v : Nat → Nat → Int32) (vn : Nat → Int64) (hs : Nat → Nat → Int32) (ww : Nat → Nat → Nat → Int32) (out : Nat → Int64) (x1 : Int32) {e : Nat} {r : Int32} {hsR : Nat → Nat → Int32} {wwR : Nat → Nat → Nat → Int32} {k : Int32} {outR : Nat → Int64} (hres : qX10_run tx ps nm v vn hs ww x1 = some (e, r, hsR, wwR)) (hk : (e = 0 ∧ k = 0 ∧ outR = vp_updL out 0 r.toInt64) ∨ (e = 3 ∧ k = 1 ∧ outR = out) ∨ (e = 1 ∧ k = 2 ∧ outR = out)) : Ct l yL_run (Cond.codeWith yL_run cL_run 4 (some .int) [(0, 9, 12, 25), (0, 9, 15, 13)] :: kAL) rmL_run D T [.ref (aF 0), .int x1, .ref aO] (gO T aF aR aD aP aH aW aO tx ps nm v vn hs ww out) (some (.int k)) (gO T aF aR aD aP aH aW aO tx ps nm v vn hsR wwR outR) := by
  refine Ct.ofWH (cc := cL_run) (maxL := 4) (ret := (some .int)) (hh := [(0, 9, 12, 25), (0, 9, 15, 13)]) (by decide +kernel) rfl (Nat.le_of_ble_eq_true rfl) ?_
  intro pr en st mi ag bl me co A ls F hAL hr hlk htab G hl
  have hl : lv_has ls 4 [(0, .ref (aF 0)), (1, .int x1), (2, .ref aO)] := hl
  refine lv_aload_n F.1 F.2.1 dL_run_0 rfl (lv_at hl 2 rfl) ?_
  refine lv_iconst (v := 0) F.1 F.2.1 dL_run_1 (by decide) ?_
  refine lv_aload_n F.1 F.2.1 dL_run_2 rfl (lv_at hl 0 rfl) ?_
  refine lv_iload_n F.1 F.2.1 dL_run_3 rfl (lv_at hl 1 rfl) ?_
  refine kx_callV (rv := (some (.int r))) (Wc := (gU T aF aR aD aP aH aW tx ps nm v vn hs ww)) (W2 := (gU T aF aR aD aP aH aW tx ps nm v vn hsR wwR)) (Wn := (gO T aF aR aD aP aH aW aO tx ps nm v vn hsR wwR out)) (As := [.int x1]) (rest := [.int 0, .ref aO]) F G (mX10_run l hst D T aF aR aD aP aH aW tx ps nm v vn hs ww x1 hres) (cwV 1 hAL (kgL_c kLl58 (kgL_c kLl59 (kgL_c kLl60 (kgL_c (kA kl80) (kgL_c (kA kl727) kgL_k))))) rfl rfl rfl (by decide +kernel) ⟨Nat.le_of_ble_eq_true rfl, Nat.le_of_ble_eq_true rfl⟩) (kg_recv G 1 0 (by decide) rfl (q := (RX10, TX10, 6)) rfl) (kCut_O G) rfl hl.1 rfl (Nat.le_of_ble_eq_true rfl) dL_run_4 ⟨Nat.le_of_ble_eq_true rfl, Nat.le_of_ble_eq_true rfl⟩ (cN := 2) (sN := 12) ⟨rfl, rfl⟩ (fun c ce q9 H locs G hce hcv hcl => ?_) (fun c H locs G => ?_)
  · rcases hk with ⟨h0, -, -⟩ | ⟨rfl, rfl, rfl⟩ | ⟨rfl, rfl, rfl⟩
    · exact absurd h0 c
    · refine vx_catch (own := RL) (name := "java/lang/IllegalArgumentException") (E := "java/lang/IllegalArgumentException") F.2.2.2.1 [] ⟨0, 9, 12, 25⟩ [⟨0, 9, 15, 13⟩] htab (fun z hz => absurd hz List.not_mem_nil) (by decide) (by decide) (hAL _ kLl11) (va_Nw.use rfl (G.2.2.2.2.1.2.2.2.2.2.2.2.2.2.1 _ (List.mem_of_getElem? (i := 2) rfl))) hce hcv hcl ?_
      refine lv_astore_n (lv' := [(3, .ref q9), (0, .ref (aF 0)), (1, .int x1), (2, .ref aO)]) F.1 F.2.1 dL_run_12 rfl hl (by decide) rfl (fun ls hl => ?_)
      refine lv_iconst (v := 1) F.1 F.2.1 dL_run_13 (by decide) ?_
      exact k_iret F hr hlk G dL_run_14
    · refine vx_catch (own := RL) (name := "java/lang/IllegalStateException") (E := "java/lang/IllegalStateException") F.2.2.2.1 [⟨0, 9, 12, 25⟩] ⟨0, 9, 15, 13⟩ [] htab (fun z hz => by rw [List.mem_singleton.mp hz]; exact Or.inr ⟨by decide, "java/lang/IllegalArgumentException", hAL _ kLl11, G.2.2.2.2.1.2.2.2.2.2.2.1 _ (List.mem_of_getElem? (i := 3) rfl)⟩) (by decide) (by decide) (hAL _ kLl3) (va_Nw.use rfl (G.2.2.2.2.1.2.2.2.2.2.2.2.2.2.1 _ (List.mem_of_getElem? (i := 0) rfl))) hce hcv hcl ?_
      refine lv_astore_n (lv' := [(3, .ref q9), (0, .ref (aF 0)), (1, .int x1), (2, .ref aO)]) F.1 F.2.1 dL_run_15 rfl hl (by decide) rfl (fun ls hl => ?_)
      refine lv_iconst (v := 2) F.1 F.2.1 dL_run_16 (by decide) ?_
      exact k_iret F hr hlk G dL_run_17
  · rcases hk with ⟨-, rfl, ho⟩ | ⟨h0, -, -⟩ | ⟨h0, -, -⟩
    rotate_left
    · exact absurd (c.symm.trans h0) (by decide)
    · exact absurd (c.symm.trans h0) (by decide)
    refine lv_i2l (v := r.toInt64) F.1 F.2.1 dL_run_7 rfl ?_
    refine kg_last (g' := gOc T aF aR aD aP aH aW aO tx ps nm v vn hsR wwR outR) F G 0 0 (by decide) rfl (i := 0) (kin (by decide +kernel)) dL_run_8 (by subst ho; rfl) (fun k hk h9 => by cases k with | zero => exact absurd rfl h9 | succ k => rfl) (fun H locs G => ?_)
    refine lv_goto (tgt := 18) F.1 F.2.1 dL_run_9 (by decide) ?_
    refine lv_iconst (v := 0) F.1 F.2.1 dL_run_18 (by decide) ?_
    exact k_iret F hr hlk G dL_run_19
abbrev rmL_blackout : Room := ({ frames := 8, cells := 1, slots := 6, locals := 146 } : Room)
set_option maxHeartbeats 8000000 in
set_option maxRecDepth 100000 in
theorem mL_blackout (l : Launch) (hst : l.stackTraces = false) (D : va_G) (T : Nat → ClassId) (aF : Nat → Nat) (aR : Nat → Nat) (aD : Nat → Nat) (aP : Nat → Nat) (aH : Nat → Nat) (aW : Nat → Nat → Nat) (aO : Nat) (tx : Nat → Nat → Int32) (ps : Nat → Nat → Int32) (nm : Nat → Int64) (v : Nat → Nat → Int32) (vn : Nat → Int64) (hs : Nat → Nat → Int32) (ww : Nat → Nat → Nat → Int32) (out : Nat → Int64) (x1 : Int32) {e : Nat} {r : Int32} {hsR : Nat → Nat → Int32} {wwR : Nat → Nat → Nat → Int32} {k : Int32} {outR : Nat → Int64} (hres : qX10_blackout tx ps nm v vn hs ww x1 = some (e, r, hsR, wwR)) (hk : (e = 0 ∧ k = 0 ∧ outR = vp_updL out 0 r.toInt64) ∨ (e = 3 ∧ k = 1 ∧ outR = out)) : Ct l yL_blackout (Cond.codeWith yL_blackout cL_blackout 4 (some .int) [(0, 9, 12, 25)] :: kAL) rmL_blackout D T [.ref (aF 0), .int x1, .ref aO] (gO T aF aR aD aP aH aW aO tx ps nm v vn hs ww out) (some (.int k)) (gO T aF aR aD aP aH aW aO tx ps nm v vn hsR wwR outR) := by
  refine Ct.ofWH (cc := cL_blackout) (maxL := 4) (ret := (some .int)) (hh := [(0, 9, 12, 25)]) (by decide +kernel) rfl (Nat.le_of_ble_eq_true rfl) ?_
  intro pr en st mi ag bl me co A ls F hAL hr hlk htab G hl
  have hl : lv_has ls 4 [(0, .ref (aF 0)), (1, .int x1), (2, .ref aO)] := hl
  refine lv_aload_n F.1 F.2.1 dL_blackout_0 rfl (lv_at hl 2 rfl) ?_
  refine lv_iconst (v := 0) F.1 F.2.1 dL_blackout_1 (by decide) ?_
  refine lv_aload_n F.1 F.2.1 dL_blackout_2 rfl (lv_at hl 0 rfl) ?_
  refine lv_iload_n F.1 F.2.1 dL_blackout_3 rfl (lv_at hl 1 rfl) ?_
  refine kx_callV (rv := (some (.int r))) (Wc := (gU T aF aR aD aP aH aW tx ps nm v vn hs ww)) (W2 := (gU T aF aR aD aP aH aW tx ps nm v vn hsR wwR)) (Wn := (gO T aF aR aD aP aH aW aO tx ps nm v vn hsR wwR out)) (As := [.int x1]) (rest := [.int 0, .ref aO]) F G (mX10_blackout l hst D T aF aR aD aP aH aW tx ps nm v vn hs ww x1 hres) (cwV 1 hAL (kgL_c kLl61 (kgL_c kLl62 (kgL_c kLl63 (kgL_c (kA kl80) (kgL_c (kA kl732) kgL_k))))) rfl rfl rfl (by decide +kernel) ⟨Nat.le_of_ble_eq_true rfl, Nat.le_of_ble_eq_true rfl⟩) (kg_recv G 1 0 (by decide) rfl (q := (RX10, TX10, 6)) rfl) (kCut_O G) rfl hl.1 rfl (Nat.le_of_ble_eq_true rfl) dL_blackout_4 ⟨Nat.le_of_ble_eq_true rfl, Nat.le_of_ble_eq_true rfl⟩ (cN := 1) (sN := 6) ⟨rfl, rfl⟩ (fun c ce q9 H locs G hce hcv hcl => ?_) (fun c H locs G => ?_)
  · rcases hk with ⟨h0, -, -⟩ | ⟨rfl, rfl, rfl⟩
    · exact absurd h0 c
    · refine vx_catch (own := RL) (name := "java/lang/IllegalArgumentException") (E := "java/lang/IllegalArgumentException") F.2.2.2.1 [] ⟨0, 9, 12, 25⟩ [] htab (fun z hz => absurd hz List.not_mem_nil) (by decide) (by decide) (hAL _ kLl11) (va_Nw.use rfl (G.2.2.2.2.1.2.2.2.2.2.2.2.2.2.1 _ (List.mem_of_getElem? (i := 2) rfl))) hce hcv hcl ?_
      refine lv_astore_n (lv' := [(3, .ref q9), (0, .ref (aF 0)), (1, .int x1), (2, .ref aO)]) F.1 F.2.1 dL_blackout_12 rfl hl (by decide) rfl (fun ls hl => ?_)
      refine lv_iconst (v := 1) F.1 F.2.1 dL_blackout_13 (by decide) ?_
      exact k_iret F hr hlk G dL_blackout_14
  · rcases hk with ⟨-, rfl, ho⟩ | ⟨h0, -, -⟩
    rotate_left
    · exact absurd (c.symm.trans h0) (by decide)
    refine lv_i2l (v := r.toInt64) F.1 F.2.1 dL_blackout_7 rfl ?_
    refine kg_last (g' := gOc T aF aR aD aP aH aW aO tx ps nm v vn hsR wwR outR) F G 0 0 (by decide) rfl (i := 0) (kin (by decide +kernel)) dL_blackout_8 (by subst ho; rfl) (fun k hk h9 => by cases k with | zero => exact absurd rfl h9 | succ k => rfl) (fun H locs G => ?_)
    refine lv_goto (tgt := 15) F.1 F.2.1 dL_blackout_9 (by decide) ?_
    refine lv_iconst (v := 0) F.1 F.2.1 dL_blackout_15 (by decide) ?_
    exact k_iret F hr hlk G dL_blackout_16
abbrev rmL_want : Room := ({ frames := 8, cells := 1, slots := 6, locals := 148 } : Room)
set_option maxHeartbeats 8000000 in
set_option maxRecDepth 100000 in
theorem mL_want (l : Launch) (hst : l.stackTraces = false) (D : va_G) (T : Nat → ClassId) (aF : Nat → Nat) (aR : Nat → Nat) (aD : Nat → Nat) (aP : Nat → Nat) (aH : Nat → Nat) (aW : Nat → Nat → Nat) (aO : Nat) (tx : Nat → Nat → Int32) (ps : Nat → Nat → Int32) (nm : Nat → Int64) (v : Nat → Nat → Int32) (vn : Nat → Int64) (hs : Nat → Nat → Int32) (ww : Nat → Nat → Nat → Int32) (out : Nat → Int64) (x1 : Int32) (x2 : Int32) {e : Nat} {r : Int32} {hsR : Nat → Nat → Int32} {wwR : Nat → Nat → Nat → Int32} {k : Int32} {outR : Nat → Int64} (hres : qX10_want tx ps nm v vn hs ww x1 x2 = some (e, r, hsR, wwR)) (hk : (e = 0 ∧ k = 0 ∧ outR = vp_updL out 0 (if r = 0 then 0 else 1)) ∨ (e = 2 ∧ k = 1 ∧ outR = out)) : Ct l yL_want (Cond.codeWith yL_want cL_want 5 (some .int) [(0, 17, 20, 19)] :: kAL) rmL_want D T [.ref (aF 0), .int x1, .int x2, .ref aO] (gO T aF aR aD aP aH aW aO tx ps nm v vn hs ww out) (some (.int k)) (gO T aF aR aD aP aH aW aO tx ps nm v vn hsR wwR outR) := by
  refine Ct.ofWH (cc := cL_want) (maxL := 5) (ret := (some .int)) (hh := [(0, 17, 20, 19)]) (by decide +kernel) rfl (Nat.le_of_ble_eq_true rfl) ?_
  intro pr en st mi ag bl me co A ls F hAL hr hlk htab G hl
  have hl : lv_has ls 5 [(0, .ref (aF 0)), (1, .int x1), (2, .int x2), (3, .ref aO)] := hl
  refine lv_aload_n F.1 F.2.1 dL_want_0 rfl (lv_at hl 3 rfl) ?_
  refine lv_iconst (v := 0) F.1 F.2.1 dL_want_1 (by decide) ?_
  refine lv_aload_n F.1 F.2.1 dL_want_2 rfl (lv_at hl 0 rfl) ?_
  refine lv_iload_n F.1 F.2.1 dL_want_3 rfl (lv_at hl 1 rfl) ?_
  refine lv_iload_n F.1 F.2.1 dL_want_4 rfl (lv_at hl 2 rfl) ?_
  refine kx_callV (rv := (some (.int r))) (Wc := (gU T aF aR aD aP aH aW tx ps nm v vn hs ww)) (W2 := (gU T aF aR aD aP aH aW tx ps nm v vn hsR wwR)) (Wn := (gO T aF aR aD aP aH aW aO tx ps nm v vn hsR wwR out)) (As := [.int x1, .int x2]) (rest := [.int 0, .ref aO]) F G (mX10_want l hst D T aF aR aD aP aH aW tx ps nm v vn hs ww x1 x2 hres) (cwV 2 hAL (kgL_c kLl64 (kgL_c kLl65 (kgL_c kLl66 (kgL_c (kA kl80) (kgL_c (kA kl734) kgL_k))))) rfl rfl rfl (by decide +kernel) ⟨Nat.le_of_ble_eq_true rfl, Nat.le_of_ble_eq_true rfl⟩) (kg_recv G 1 0 (by decide) rfl (q := (RX10, TX10, 6)) rfl) (kCut_O G) rfl hl.1 rfl (Nat.le_of_ble_eq_true rfl) dL_want_5 ⟨Nat.le_of_ble_eq_true rfl, Nat.le_of_ble_eq_true rfl⟩ (cN := 1) (sN := 6) ⟨rfl, rfl⟩ (fun c ce q9 H locs G hce hcv hcl => ?_) (fun c H locs G => ?_)
  · rcases hk with ⟨h0, -, -⟩ | ⟨rfl, rfl, rfl⟩
    · exact absurd h0 c
    · refine vx_catch (own := RL) (name := "java/lang/IndexOutOfBoundsException") (E := "java/lang/IndexOutOfBoundsException") F.2.2.2.1 [] ⟨0, 17, 20, 19⟩ [] htab (fun z hz => absurd hz List.not_mem_nil) (by decide) (by decide) (hAL _ kLl7) (va_Nw.use rfl (G.2.2.2.2.1.2.2.2.2.2.2.2.2.2.1 _ (List.mem_of_getElem? (i := 1) rfl))) hce hcv hcl ?_
      refine lv_astore (lv' := [(4, .ref q9), (0, .ref (aF 0)), (1, .int x1), (2, .int x2), (3, .ref aO)]) F.1 F.2.1 dL_want_20 hl (by decide) rfl (fun ls hl => ?_)
      refine lv_iconst (v := 1) F.1 F.2.1 dL_want_22 (by decide) ?_
      exact k_iret F hr hlk G dL_want_23
  · rcases hk with ⟨-, rfl, ho⟩ | ⟨h0, -, -⟩
    rotate_left
    · exact absurd (c.symm.trans h0) (by decide)
    refine lv_if_eq (tgt := 15) F.1 F.2.1 dL_want_8 (by decide) (fun c => ?_) (fun c => ?_)
    · rw [if_pos c] at ho
      refine lv_lconst (v := 0) F.1 F.2.1 dL_want_15 (by decide) ?_
      refine kg_last (g' := gOc T aF aR aD aP aH aW aO tx ps nm v vn hsR wwR outR) F G 0 0 (by decide) rfl (i := 0) (kin (by decide +kernel)) dL_want_16 (by subst ho; rfl) (fun k hk h9 => by cases k with | zero => exact absurd rfl h9 | succ k => rfl) (fun H locs G => ?_)
      refine lv_goto (tgt := 24) F.1 F.2.1 dL_want_17 (by decide) ?_
      refine lv_iconst (v := 0) F.1 F.2.1 dL_want_24 (by decide) ?_
      exact k_iret F hr hlk G dL_want_25
    · rw [if_neg c] at ho
      refine lv_lconst (v := 1) F.1 F.2.1 dL_want_11 (by decide) ?_
      refine lv_goto (tgt := 16) F.1 F.2.1 dL_want_12 (by decide) ?_
      refine kg_last (g' := gOc T aF aR aD aP aH aW aO tx ps nm v vn hsR wwR outR) F G 0 0 (by decide) rfl (i := 0) (kin (by decide +kernel)) dL_want_16 (by subst ho; rfl) (fun k hk h9 => by cases k with | zero => exact absurd rfl h9 | succ k => rfl) (fun H locs G => ?_)
      refine lv_goto (tgt := 24) F.1 F.2.1 dL_want_17 (by decide) ?_
      refine lv_iconst (v := 0) F.1 F.2.1 dL_want_24 (by decide) ?_
      exact k_iret F hr hlk G dL_want_25
abbrev rmL_setFuse : Room := ({ frames := 8, cells := 1, slots := 6, locals := 147 } : Room)
set_option maxHeartbeats 8000000 in
set_option maxRecDepth 100000 in
theorem mL_setFuse (l : Launch) (hst : l.stackTraces = false) (D : va_G) (T : Nat → ClassId) (aF : Nat → Nat) (aR : Nat → Nat) (aD : Nat → Nat) (aP : Nat → Nat) (aH : Nat → Nat) (aW : Nat → Nat → Nat) (aO : Nat) (tx : Nat → Nat → Int32) (ps : Nat → Nat → Int32) (nm : Nat → Int64) (v : Nat → Nat → Int32) (vn : Nat → Int64) (hs : Nat → Nat → Int32) (ww : Nat → Nat → Nat → Int32) (out : Nat → Int64) (x1 : Int32) {e : Nat} {r : Int32} {hsR : Nat → Nat → Int32} {wwR : Nat → Nat → Nat → Int32} {k : Int32} {outR : Nat → Int64} (hres : qX10_setFuse tx ps nm v vn hs ww x1 = some (e, r, hsR, wwR)) (hk : (e = 0 ∧ k = 0 ∧ outR = vp_updL out 0 r.toInt64) ∨ (e = 3 ∧ k = 1 ∧ outR = out)) : Ct l yL_setFuse (Cond.codeWith yL_setFuse cL_setFuse 4 (some .int) [(0, 9, 12, 25)] :: kAL) rmL_setFuse D T [.ref (aF 0), .int x1, .ref aO] (gO T aF aR aD aP aH aW aO tx ps nm v vn hs ww out) (some (.int k)) (gO T aF aR aD aP aH aW aO tx ps nm v vn hsR wwR outR) := by
  refine Ct.ofWH (cc := cL_setFuse) (maxL := 4) (ret := (some .int)) (hh := [(0, 9, 12, 25)]) (by decide +kernel) rfl (Nat.le_of_ble_eq_true rfl) ?_
  intro pr en st mi ag bl me co A ls F hAL hr hlk htab G hl
  have hl : lv_has ls 4 [(0, .ref (aF 0)), (1, .int x1), (2, .ref aO)] := hl
  refine lv_aload_n F.1 F.2.1 dL_setFuse_0 rfl (lv_at hl 2 rfl) ?_
  refine lv_iconst (v := 0) F.1 F.2.1 dL_setFuse_1 (by decide) ?_
  refine lv_aload_n F.1 F.2.1 dL_setFuse_2 rfl (lv_at hl 0 rfl) ?_
  refine lv_iload_n F.1 F.2.1 dL_setFuse_3 rfl (lv_at hl 1 rfl) ?_
  refine kx_callV (rv := (some (.int r))) (Wc := (gU T aF aR aD aP aH aW tx ps nm v vn hs ww)) (W2 := (gU T aF aR aD aP aH aW tx ps nm v vn hsR wwR)) (Wn := (gO T aF aR aD aP aH aW aO tx ps nm v vn hsR wwR out)) (As := [.int x1]) (rest := [.int 0, .ref aO]) F G (mX10_setFuse l hst D T aF aR aD aP aH aW tx ps nm v vn hs ww x1 hres) (cwV 1 hAL (kgL_c kLl67 (kgL_c kLl68 (kgL_c kLl69 (kgL_c (kA kl80) (kgL_c (kA kl739) kgL_k))))) rfl rfl rfl (by decide +kernel) ⟨Nat.le_of_ble_eq_true rfl, Nat.le_of_ble_eq_true rfl⟩) (kg_recv G 1 0 (by decide) rfl (q := (RX10, TX10, 6)) rfl) (kCut_O G) rfl hl.1 rfl (Nat.le_of_ble_eq_true rfl) dL_setFuse_4 ⟨Nat.le_of_ble_eq_true rfl, Nat.le_of_ble_eq_true rfl⟩ (cN := 1) (sN := 6) ⟨rfl, rfl⟩ (fun c ce q9 H locs G hce hcv hcl => ?_) (fun c H locs G => ?_)
  · rcases hk with ⟨h0, -, -⟩ | ⟨rfl, rfl, rfl⟩
    · exact absurd h0 c
    · refine vx_catch (own := RL) (name := "java/lang/IllegalArgumentException") (E := "java/lang/IllegalArgumentException") F.2.2.2.1 [] ⟨0, 9, 12, 25⟩ [] htab (fun z hz => absurd hz List.not_mem_nil) (by decide) (by decide) (hAL _ kLl11) (va_Nw.use rfl (G.2.2.2.2.1.2.2.2.2.2.2.2.2.2.1 _ (List.mem_of_getElem? (i := 2) rfl))) hce hcv hcl ?_
      refine lv_astore_n (lv' := [(3, .ref q9), (0, .ref (aF 0)), (1, .int x1), (2, .ref aO)]) F.1 F.2.1 dL_setFuse_12 rfl hl (by decide) rfl (fun ls hl => ?_)
      refine lv_iconst (v := 1) F.1 F.2.1 dL_setFuse_13 (by decide) ?_
      exact k_iret F hr hlk G dL_setFuse_14
  · rcases hk with ⟨-, rfl, ho⟩ | ⟨h0, -, -⟩
    rotate_left
    · exact absurd (c.symm.trans h0) (by decide)
    refine lv_i2l (v := r.toInt64) F.1 F.2.1 dL_setFuse_7 rfl ?_
    refine kg_last (g' := gOc T aF aR aD aP aH aW aO tx ps nm v vn hsR wwR outR) F G 0 0 (by decide) rfl (i := 0) (kin (by decide +kernel)) dL_setFuse_8 (by subst ho; rfl) (fun k hk h9 => by cases k with | zero => exact absurd rfl h9 | succ k => rfl) (fun H locs G => ?_)
    refine lv_goto (tgt := 15) F.1 F.2.1 dL_setFuse_9 (by decide) ?_
    refine lv_iconst (v := 0) F.1 F.2.1 dL_setFuse_15 (by decide) ?_
    exact k_iret F hr hlk G dL_setFuse_16
abbrev rmL_setPriority : Room := ({ frames := 8, cells := 2, slots := 12, locals := 148 } : Room)
set_option maxHeartbeats 8000000 in
set_option maxRecDepth 100000 in
theorem mL_setPriority (l : Launch) (hst : l.stackTraces = false) (D : va_G) (T : Nat → ClassId) (aF : Nat → Nat) (aR : Nat → Nat) (aD : Nat → Nat) (aP : Nat → Nat) (aH : Nat → Nat) (aW : Nat → Nat → Nat) (aO : Nat) (tx : Nat → Nat → Int32) (ps : Nat → Nat → Int32) (nm : Nat → Int64) (v : Nat → Nat → Int32) (vn : Nat → Int64) (hs : Nat → Nat → Int32) (ww : Nat → Nat → Nat → Int32) (out : Nat → Int64) (x1 : Int32) (x2 : Int32) {e : Nat} {r : Int32} {hsR : Nat → Nat → Int32} {wwR : Nat → Nat → Nat → Int32} {k : Int32} {outR : Nat → Int64} (hres : qX10_setPriority tx ps nm v vn hs ww x1 x2 = some (e, r, hsR, wwR)) (hk : (e = 0 ∧ k = 0 ∧ outR = vp_updL out 0 r.toInt64) ∨ (e = 2 ∧ k = 1 ∧ outR = out) ∨ (e = 3 ∧ k = 2 ∧ outR = out)) : Ct l yL_setPriority (Cond.codeWith yL_setPriority cL_setPriority 5 (some .int) [(0, 10, 13, 19), (0, 10, 17, 25)] :: kAL) rmL_setPriority D T [.ref (aF 0), .int x1, .int x2, .ref aO] (gO T aF aR aD aP aH aW aO tx ps nm v vn hs ww out) (some (.int k)) (gO T aF aR aD aP aH aW aO tx ps nm v vn hsR wwR outR) := by
  refine Ct.ofWH (cc := cL_setPriority) (maxL := 5) (ret := (some .int)) (hh := [(0, 10, 13, 19), (0, 10, 17, 25)]) (by decide +kernel) rfl (Nat.le_of_ble_eq_true rfl) ?_
  intro pr en st mi ag bl me co A ls F hAL hr hlk htab G hl
  have hl : lv_has ls 5 [(0, .ref (aF 0)), (1, .int x1), (2, .int x2), (3, .ref aO)] := hl
  refine lv_aload_n F.1 F.2.1 dL_setPriority_0 rfl (lv_at hl 3 rfl) ?_
  refine lv_iconst (v := 0) F.1 F.2.1 dL_setPriority_1 (by decide) ?_
  refine lv_aload_n F.1 F.2.1 dL_setPriority_2 rfl (lv_at hl 0 rfl) ?_
  refine lv_iload_n F.1 F.2.1 dL_setPriority_3 rfl (lv_at hl 1 rfl) ?_
  refine lv_iload_n F.1 F.2.1 dL_setPriority_4 rfl (lv_at hl 2 rfl) ?_
  refine kx_callV (rv := (some (.int r))) (Wc := (gU T aF aR aD aP aH aW tx ps nm v vn hs ww)) (W2 := (gU T aF aR aD aP aH aW tx ps nm v vn hsR wwR)) (Wn := (gO T aF aR aD aP aH aW aO tx ps nm v vn hsR wwR out)) (As := [.int x1, .int x2]) (rest := [.int 0, .ref aO]) F G (mX10_setPriority l hst D T aF aR aD aP aH aW tx ps nm v vn hs ww x1 x2 hres) (cwV 2 hAL (kgL_c kLl70 (kgL_c kLl71 (kgL_c kLl72 (kgL_c (kA kl80) (kgL_c (kA kl740) kgL_k))))) rfl rfl rfl (by decide +kernel) ⟨Nat.le_of_ble_eq_true rfl, Nat.le_of_ble_eq_true rfl⟩) (kg_recv G 1 0 (by decide) rfl (q := (RX10, TX10, 6)) rfl) (kCut_O G) rfl hl.1 rfl (Nat.le_of_ble_eq_true rfl) dL_setPriority_5 ⟨Nat.le_of_ble_eq_true rfl, Nat.le_of_ble_eq_true rfl⟩ (cN := 2) (sN := 12) ⟨rfl, rfl⟩ (fun c ce q9 H locs G hce hcv hcl => ?_) (fun c H locs G => ?_)
  · rcases hk with ⟨h0, -, -⟩ | ⟨rfl, rfl, rfl⟩ | ⟨rfl, rfl, rfl⟩
    · exact absurd h0 c
    · refine vx_catch (own := RL) (name := "java/lang/IndexOutOfBoundsException") (E := "java/lang/IndexOutOfBoundsException") F.2.2.2.1 [] ⟨0, 10, 13, 19⟩ [⟨0, 10, 17, 25⟩] htab (fun z hz => absurd hz List.not_mem_nil) (by decide) (by decide) (hAL _ kLl7) (va_Nw.use rfl (G.2.2.2.2.1.2.2.2.2.2.2.2.2.2.1 _ (List.mem_of_getElem? (i := 1) rfl))) hce hcv hcl ?_
      refine lv_astore (lv' := [(4, .ref q9), (0, .ref (aF 0)), (1, .int x1), (2, .int x2), (3, .ref aO)]) F.1 F.2.1 dL_setPriority_13 hl (by decide) rfl (fun ls hl => ?_)
      refine lv_iconst (v := 1) F.1 F.2.1 dL_setPriority_15 (by decide) ?_
      exact k_iret F hr hlk G dL_setPriority_16
    · refine vx_catch (own := RL) (name := "java/lang/IllegalArgumentException") (E := "java/lang/IllegalArgumentException") F.2.2.2.1 [⟨0, 10, 13, 19⟩] ⟨0, 10, 17, 25⟩ [] htab (fun z hz => by rw [List.mem_singleton.mp hz]; exact Or.inr ⟨by decide, "java/lang/IndexOutOfBoundsException", hAL _ kLl7, G.2.2.2.2.1.2.2.2.2.2.2.1 _ (List.mem_of_getElem? (i := 0) rfl)⟩) (by decide) (by decide) (hAL _ kLl11) (va_Nw.use rfl (G.2.2.2.2.1.2.2.2.2.2.2.2.2.2.1 _ (List.mem_of_getElem? (i := 2) rfl))) hce hcv hcl ?_
      refine lv_astore (lv' := [(4, .ref q9), (0, .ref (aF 0)), (1, .int x1), (2, .int x2), (3, .ref aO)]) F.1 F.2.1 dL_setPriority_17 hl (by decide) rfl (fun ls hl => ?_)
      refine lv_iconst (v := 2) F.1 F.2.1 dL_setPriority_19 (by decide) ?_
      exact k_iret F hr hlk G dL_setPriority_20
  · rcases hk with ⟨-, rfl, ho⟩ | ⟨h0, -, -⟩ | ⟨h0, -, -⟩
    rotate_left
    · exact absurd (c.symm.trans h0) (by decide)
    · exact absurd (c.symm.trans h0) (by decide)
    refine lv_i2l (v := r.toInt64) F.1 F.2.1 dL_setPriority_8 rfl ?_
    refine kg_last (g' := gOc T aF aR aD aP aH aW aO tx ps nm v vn hsR wwR outR) F G 0 0 (by decide) rfl (i := 0) (kin (by decide +kernel)) dL_setPriority_9 (by subst ho; rfl) (fun k hk h9 => by cases k with | zero => exact absurd rfl h9 | succ k => rfl) (fun H locs G => ?_)
    refine lv_goto (tgt := 21) F.1 F.2.1 dL_setPriority_10 (by decide) ?_
    refine lv_iconst (v := 0) F.1 F.2.1 dL_setPriority_21 (by decide) ?_
    exact k_iret F hr hlk G dL_setPriority_22
abbrev rmL_undo : Room := ({ frames := 7, cells := 1, slots := 6, locals := 145 } : Room)
set_option maxHeartbeats 8000000 in
set_option maxRecDepth 100000 in
theorem mL_undo (l : Launch) (hst : l.stackTraces = false) (D : va_G) (T : Nat → ClassId) (aF : Nat → Nat) (aR : Nat → Nat) (aD : Nat → Nat) (aP : Nat → Nat) (aH : Nat → Nat) (aW : Nat → Nat → Nat) (aO : Nat) (tx : Nat → Nat → Int32) (ps : Nat → Nat → Int32) (nm : Nat → Int64) (v : Nat → Nat → Int32) (vn : Nat → Int64) (hs : Nat → Nat → Int32) (ww : Nat → Nat → Nat → Int32) (out : Nat → Int64) {e : Nat} {r : Int32} {hsR : Nat → Nat → Int32} {wwR : Nat → Nat → Nat → Int32} {k : Int32} {outR : Nat → Int64} (hres : qX10_undo tx ps nm v vn hs ww = some (e, r, hsR, wwR)) (hk : (e = 0 ∧ k = 0 ∧ outR = vp_updL out 0 r.toInt64) ∨ (e = 1 ∧ k = 1 ∧ outR = out)) : Ct l yL_undo (Cond.codeWith yL_undo cL_undo 3 (some .int) [(0, 8, 11, 13)] :: kAL) rmL_undo D T [.ref (aF 0), .ref aO] (gO T aF aR aD aP aH aW aO tx ps nm v vn hs ww out) (some (.int k)) (gO T aF aR aD aP aH aW aO tx ps nm v vn hsR wwR outR) := by
  refine Ct.ofWH (cc := cL_undo) (maxL := 3) (ret := (some .int)) (hh := [(0, 8, 11, 13)]) (by decide +kernel) rfl (Nat.le_of_ble_eq_true rfl) ?_
  intro pr en st mi ag bl me co A ls F hAL hr hlk htab G hl
  have hl : lv_has ls 3 [(0, .ref (aF 0)), (1, .ref aO)] := hl
  refine lv_aload_n F.1 F.2.1 dL_undo_0 rfl (lv_at hl 1 rfl) ?_
  refine lv_iconst (v := 0) F.1 F.2.1 dL_undo_1 (by decide) ?_
  refine lv_aload_n F.1 F.2.1 dL_undo_2 rfl (lv_at hl 0 rfl) ?_
  refine kx_callV (rv := (some (.int r))) (Wc := (gU T aF aR aD aP aH aW tx ps nm v vn hs ww)) (W2 := (gU T aF aR aD aP aH aW tx ps nm v vn hsR wwR)) (Wn := (gO T aF aR aD aP aH aW aO tx ps nm v vn hsR wwR out)) (As := []) (rest := [.int 0, .ref aO]) F G (mX10_undo l hst D T aF aR aD aP aH aW tx ps nm v vn hs ww hres) (cwV 0 hAL (kgL_c kLl73 (kgL_c kLl74 (kgL_c kLl75 (kgL_c (kA kl80) (kgL_c (kA kl742) kgL_k))))) rfl rfl rfl (by decide +kernel) ⟨Nat.le_of_ble_eq_true rfl, Nat.le_of_ble_eq_true rfl⟩) (kg_recv G 1 0 (by decide) rfl (q := (RX10, TX10, 6)) rfl) (kCut_O G) rfl hl.1 rfl (Nat.le_of_ble_eq_true rfl) dL_undo_3 ⟨Nat.le_of_ble_eq_true rfl, Nat.le_of_ble_eq_true rfl⟩ (cN := 1) (sN := 6) ⟨rfl, rfl⟩ (fun c ce q9 H locs G hce hcv hcl => ?_) (fun c H locs G => ?_)
  · rcases hk with ⟨h0, -, -⟩ | ⟨rfl, rfl, rfl⟩
    · exact absurd h0 c
    · refine vx_catch (own := RL) (name := "java/lang/IllegalStateException") (E := "java/lang/IllegalStateException") F.2.2.2.1 [] ⟨0, 8, 11, 13⟩ [] htab (fun z hz => absurd hz List.not_mem_nil) (by decide) (by decide) (hAL _ kLl3) (va_Nw.use rfl (G.2.2.2.2.1.2.2.2.2.2.2.2.2.2.1 _ (List.mem_of_getElem? (i := 0) rfl))) hce hcv hcl ?_
      refine lv_astore_n (lv' := [(2, .ref q9), (0, .ref (aF 0)), (1, .ref aO)]) F.1 F.2.1 dL_undo_11 rfl hl (by decide) rfl (fun ls hl => ?_)
      refine lv_iconst (v := 1) F.1 F.2.1 dL_undo_12 (by decide) ?_
      exact k_iret F hr hlk G dL_undo_13
  · rcases hk with ⟨-, rfl, ho⟩ | ⟨h0, -, -⟩
    rotate_left
    · exact absurd (c.symm.trans h0) (by decide)
    refine lv_i2l (v := r.toInt64) F.1 F.2.1 dL_undo_6 rfl ?_
    refine kg_last (g' := gOc T aF aR aD aP aH aW aO tx ps nm v vn hsR wwR outR) F G 0 0 (by decide) rfl (i := 0) (kin (by decide +kernel)) dL_undo_7 (by subst ho; rfl) (fun k hk h9 => by cases k with | zero => exact absurd rfl h9 | succ k => rfl) (fun H locs G => ?_)
    refine lv_goto (tgt := 14) F.1 F.2.1 dL_undo_8 (by decide) ?_
    refine lv_iconst (v := 0) F.1 F.2.1 dL_undo_14 (by decide) ?_
    exact k_iret F hr hlk G dL_undo_15
abbrev rmL_save : Room := ({ frames := 8, cells := 1, slots := 6, locals := 147 } : Room)
set_option maxHeartbeats 8000000 in
set_option maxRecDepth 100000 in
theorem mL_save (l : Launch) (hst : l.stackTraces = false) (D : va_G) (T : Nat → ClassId) (aF : Nat → Nat) (aR : Nat → Nat) (aD : Nat → Nat) (aP : Nat → Nat) (aH : Nat → Nat) (aW : Nat → Nat → Nat) (tx : Nat → Nat → Int32) (ps : Nat → Nat → Int32) (nm : Nat → Int64) (v : Nat → Nat → Int32) (vn : Nat → Int64) (hs : Nat → Nat → Int32) (ww : Nat → Nat → Nat → Int32) (x1 : Int32) {e : Nat} {hsR : Nat → Nat → Int32} {wwR : Nat → Nat → Nat → Int32} {k : Int32} (hres : qX10_save tx ps nm v vn hs ww x1 = some (e, hsR, wwR)) (hk : (e = 0 ∧ k = 0) ∨ (e = 2 ∧ k = 1)) : Ct l yL_save (Cond.codeWith yL_save cL_save 3 (some .int) [(0, 5, 8, 19)] :: kAL) rmL_save D T [.ref (aF 0), .int x1] (gU T aF aR aD aP aH aW tx ps nm v vn hs ww) (some (.int k)) (gU T aF aR aD aP aH aW tx ps nm v vn hsR wwR) := by
  refine Ct.ofWH (cc := cL_save) (maxL := 3) (ret := (some .int)) (hh := [(0, 5, 8, 19)]) (by decide +kernel) rfl (Nat.le_of_ble_eq_true rfl) ?_
  intro pr en st mi ag bl me co A ls F hAL hr hlk htab G hl
  have hl : lv_has ls 3 [(0, .ref (aF 0)), (1, .int x1)] := hl
  refine lv_aload_n F.1 F.2.1 dL_save_0 rfl (lv_at hl 0 rfl) ?_
  refine lv_iload_n F.1 F.2.1 dL_save_1 rfl (lv_at hl 1 rfl) ?_
  refine kx_callV (rv := none) (Wc := (gU T aF aR aD aP aH aW tx ps nm v vn hs ww)) (W2 := (gU T aF aR aD aP aH aW tx ps nm v vn hsR wwR)) (Wn := (gU T aF aR aD aP aH aW tx ps nm v vn hsR wwR)) (As := [.int x1]) (rest := []) F G (mX10_save l hst D T aF aR aD aP aH aW tx ps nm v vn hs ww x1 hres) (cwV 1 hAL (kgL_c kLl76 (kgL_c kLl77 (kgL_c kLl78 (kgL_c (kA kl80) (kgL_c (kA kl747) kgL_k))))) rfl rfl rfl (by decide +kernel) ⟨Nat.le_of_ble_eq_true rfl, Nat.le_of_ble_eq_true rfl⟩) (kg_recv G 0 0 (by decide) rfl (q := (RX10, TX10, 6)) rfl) (kCut_F G) rfl hl.1 rfl (Nat.le_of_ble_eq_true rfl) dL_save_2 ⟨Nat.le_of_ble_eq_true rfl, Nat.le_of_ble_eq_true rfl⟩ (cN := 1) (sN := 6) ⟨rfl, rfl⟩ (fun c ce q9 H locs G hce hcv hcl => ?_) (fun c H locs G => ?_)
  · rcases hk with ⟨h0, -⟩ | ⟨rfl, rfl⟩
    · exact absurd h0 c
    · refine vx_catch (own := RL) (name := "java/lang/IndexOutOfBoundsException") (E := "java/lang/IndexOutOfBoundsException") F.2.2.2.1 [] ⟨0, 5, 8, 19⟩ [] htab (fun z hz => absurd hz List.not_mem_nil) (by decide) (by decide) (hAL _ kLl7) (va_Nw.use rfl (G.2.2.2.2.1.2.2.2.2.2.2.2.2.2.1 _ (List.mem_of_getElem? (i := 1) rfl))) hce hcv hcl ?_
      refine lv_astore_n (lv' := [(2, .ref q9), (0, .ref (aF 0)), (1, .int x1)]) F.1 F.2.1 dL_save_8 rfl hl (by decide) rfl (fun ls hl => ?_)
      refine lv_iconst (v := 1) F.1 F.2.1 dL_save_9 (by decide) ?_
      exact k_iret F hr hlk G dL_save_10
  · rcases hk with ⟨-, rfl⟩ | ⟨h0, -⟩
    rotate_left
    · exact absurd (c.symm.trans h0) (by decide)
    refine lv_goto (tgt := 11) F.1 F.2.1 dL_save_5 (by decide) ?_
    refine lv_iconst (v := 0) F.1 F.2.1 dL_save_11 (by decide) ?_
    exact k_iret F hr hlk G dL_save_12
abbrev rmL_restore : Room := ({ frames := 8, cells := 2, slots := 12, locals := 147 } : Room)
set_option maxHeartbeats 8000000 in
set_option maxRecDepth 100000 in
theorem mL_restore (l : Launch) (hst : l.stackTraces = false) (D : va_G) (T : Nat → ClassId) (aF : Nat → Nat) (aR : Nat → Nat) (aD : Nat → Nat) (aP : Nat → Nat) (aH : Nat → Nat) (aW : Nat → Nat → Nat) (tx : Nat → Nat → Int32) (ps : Nat → Nat → Int32) (nm : Nat → Int64) (v : Nat → Nat → Int32) (vn : Nat → Int64) (hs : Nat → Nat → Int32) (ww : Nat → Nat → Nat → Int32) (x1 : Int32) {e : Nat} {hsR : Nat → Nat → Int32} {wwR : Nat → Nat → Nat → Int32} {k : Int32} (hres : qX10_restore tx ps nm v vn hs ww x1 = some (e, hsR, wwR)) (hk : (e = 0 ∧ k = 0) ∨ (e = 2 ∧ k = 1) ∨ (e = 4 ∧ k = 2)) : Ct l yL_restore (Cond.codeWith yL_restore cL_restore 3 (some .int) [(0, 5, 8, 19), (0, 5, 11, 30)] :: kAL) rmL_restore D T [.ref (aF 0), .int x1] (gU T aF aR aD aP aH aW tx ps nm v vn hs ww) (some (.int k)) (gU T aF aR aD aP aH aW tx ps nm v vn hsR wwR) := by
  refine Ct.ofWH (cc := cL_restore) (maxL := 3) (ret := (some .int)) (hh := [(0, 5, 8, 19), (0, 5, 11, 30)]) (by decide +kernel) rfl (Nat.le_of_ble_eq_true rfl) ?_
  intro pr en st mi ag bl me co A ls F hAL hr hlk htab G hl
  have hl : lv_has ls 3 [(0, .ref (aF 0)), (1, .int x1)] := hl
  refine lv_aload_n F.1 F.2.1 dL_restore_0 rfl (lv_at hl 0 rfl) ?_
  refine lv_iload_n F.1 F.2.1 dL_restore_1 rfl (lv_at hl 1 rfl) ?_
  refine kx_callV (rv := none) (Wc := (gU T aF aR aD aP aH aW tx ps nm v vn hs ww)) (W2 := (gU T aF aR aD aP aH aW tx ps nm v vn hsR wwR)) (Wn := (gU T aF aR aD aP aH aW tx ps nm v vn hsR wwR)) (As := [.int x1]) (rest := []) F G (mX10_restore l hst D T aF aR aD aP aH aW tx ps nm v vn hs ww x1 hres) (cwV 1 hAL (kgL_c kLl79 (kgL_c kLl80 (kgL_c kLl81 (kgL_c (kA kl80) (kgL_c (kA kl753) kgL_k))))) rfl rfl rfl (by decide +kernel) ⟨Nat.le_of_ble_eq_true rfl, Nat.le_of_ble_eq_true rfl⟩) (kg_recv G 0 0 (by decide) rfl (q := (RX10, TX10, 6)) rfl) (kCut_F G) rfl hl.1 rfl (Nat.le_of_ble_eq_true rfl) dL_restore_2 ⟨Nat.le_of_ble_eq_true rfl, Nat.le_of_ble_eq_true rfl⟩ (cN := 2) (sN := 12) ⟨rfl, rfl⟩ (fun c ce q9 H locs G hce hcv hcl => ?_) (fun c H locs G => ?_)
  · rcases hk with ⟨h0, -⟩ | ⟨rfl, rfl⟩ | ⟨rfl, rfl⟩
    · exact absurd h0 c
    · refine vx_catch (own := RL) (name := "java/lang/IndexOutOfBoundsException") (E := "java/lang/IndexOutOfBoundsException") F.2.2.2.1 [] ⟨0, 5, 8, 19⟩ [⟨0, 5, 11, 30⟩] htab (fun z hz => absurd hz List.not_mem_nil) (by decide) (by decide) (hAL _ kLl7) (va_Nw.use rfl (G.2.2.2.2.1.2.2.2.2.2.2.2.2.2.1 _ (List.mem_of_getElem? (i := 1) rfl))) hce hcv hcl ?_
      refine lv_astore_n (lv' := [(2, .ref q9), (0, .ref (aF 0)), (1, .int x1)]) F.1 F.2.1 dL_restore_8 rfl hl (by decide) rfl (fun ls hl => ?_)
      refine lv_iconst (v := 1) F.1 F.2.1 dL_restore_9 (by decide) ?_
      exact k_iret F hr hlk G dL_restore_10
    · refine vx_catch (own := RL) (name := "java/util/NoSuchElementException") (E := "java/util/NoSuchElementException") F.2.2.2.1 [⟨0, 5, 8, 19⟩] ⟨0, 5, 11, 30⟩ [] htab (fun z hz => by rw [List.mem_singleton.mp hz]; exact Or.inr ⟨by decide, "java/lang/IndexOutOfBoundsException", hAL _ kLl7, G.2.2.2.2.1.2.2.2.2.2.2.1 _ (List.mem_of_getElem? (i := 1) rfl)⟩) (by decide) (by decide) (hAL _ kLl15) (va_Nw.use rfl (G.2.2.2.2.1.2.2.2.2.2.2.2.2.2.1 _ (List.mem_of_getElem? (i := 3) rfl))) hce hcv hcl ?_
      refine lv_astore_n (lv' := [(2, .ref q9), (0, .ref (aF 0)), (1, .int x1)]) F.1 F.2.1 dL_restore_11 rfl hl (by decide) rfl (fun ls hl => ?_)
      refine lv_iconst (v := 2) F.1 F.2.1 dL_restore_12 (by decide) ?_
      exact k_iret F hr hlk G dL_restore_13
  · rcases hk with ⟨-, rfl⟩ | ⟨h0, -⟩ | ⟨h0, -⟩
    rotate_left
    · exact absurd (c.symm.trans h0) (by decide)
    · exact absurd (c.symm.trans h0) (by decide)
    refine lv_goto (tgt := 14) F.1 F.2.1 dL_restore_5 (by decide) ?_
    refine lv_iconst (v := 0) F.1 F.2.1 dL_restore_14 (by decide) ?_
    exact k_iret F hr hlk G dL_restore_15
