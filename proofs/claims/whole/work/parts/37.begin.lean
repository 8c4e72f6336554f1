-- the law's beginning, over what each pair of calls owes
theorem gL_eq {T : Nat → ClassId} {aF aR aD aP aH : Nat → Nat} {aW : Nat → Nat → Nat} {aO : Nat} {aM : Nat → Nat} {tx ps v hs : Nat → Nat → Int32} {nm vn : Nat → Int64} {ww : Nat → Nat → Nat → Int32} {out : Nat → Int64} {z : Nat → Nat → Int32} : gL T aF aR aD aP aH aW aO aM tx ps nm v vn hs ww out z = gM T aM z ++ ([(aO, .inl (T 1, 1, .inr (.inl out)))] ++ gU T aF aR aD aP aH aW tx ps nm v vn hs ww) := rfl
theorem perm_rot {α : Type} (X Y Z : List α) : (X ++ Y ++ Z).Perm (Y ++ (Z ++ X)) := by
  rw [List.append_assoc]
  exact List.perm_append_comm.trans (by rw [List.append_assoc])
set_option maxHeartbeats 8000000 in
set_option maxRecDepth 100000 in
theorem start_open {Sim : (Nat → Nat → Int32) → (Nat → Nat → Int32) → (Nat → Int64) → (Nat → Nat → Int32) → (Nat → Int64) → (Nat → Nat → Int32) → (Nat → Nat → Nat → Int32) → (Nat → Nat → Int32) → Prop} (HS : StAll Sim) {wR z1 zR : Nat → Nat → Int32} (hw : qX9_beginAnew vclr kzw = some wR) (h1 : qX11_clearsTold zM0 = some z1) (h2 : qX11_begins (va_up z1 17 (upd (z1 17) 6 100)) = some zR) (h0 : Sim kzw kps0 (fun _ => 0) vclr (fun _ => 0) kzw (va_up (fun _ => kzw) 0 wR) zR)
    {p : Program} {e : Env} {s : State} {m : MethodId} {below : List Frame} {meth : Method} {c : Code} (l : Launch) (hflags : l.flags = flags0) {b L : Nat} {xs : Nat → Int32} (hL : L ≤ 3072) (C0 : lw_At p s m meth c b L xs) : W p l e room_1 s m #[Value.ref b] below meth c s.heap [] 0 0 (lw_Z below #[Value.ref b] s) (entryFrame m ([Value.ref b] : List Value).toArray 9) := by
  obtain ⟨hx, hb, hr, hml, hown, hts, hX, hbl, hlk, hgv⟩ := id C0
  obtain ⟨D, T, hK, hN, hao⟩ := start_known hts hgv
  have hst : l.stackTraces = false := by
    unfold Launch.stackTraces
    rw [hflags]
    decide +kernel
  have hAL : ∀ w ∈ kAL, w.before #[Value.ref b] s = true := fun w hw => hts w (kAL_t w hw)
  have F : CallFix p m c code 9 s #[.ref b] kAll RL := ⟨hx, hb, hml, hown, fun w hw => hts w (kAll_t w hw)⟩
  have G : Rg D T (fun q => s.heap.size ≤ q) s [] s.heap [] := ⟨hK, fun k q h => by simp at h, ⟨fun i j p q h => by simp at h, fun k q h => by simp at h⟩, va_S.rf, hN, fun q h => h⟩
  have hl := lv_entry ([.ref b]) (n := 9) (Nat.le_of_ble_eq_true rfl)
  rw [lg_entry_eq]
  generalize (lg_sl ([.ref b]) ++ List.replicate (9 - (lg_sl ([.ref b])).length) Slot.unset).toArray = ls at hl ⊢
  have hl : lv_has ls 9 [(0, .ref b)] := hl
  refine va_new (fs := bl10) (ci := 10) F.1 F.2.1 F.2.2.2.2 kf10 tyX10 tyX10_ok F.2.2.2.1 (hAL _ kLl278) (hAL _ kLl279) (hAL _ (kA kl80)) G.1 G.2.1 G.2.2.1 G.2.2.2.1 G.2.2.2.2.2 rfl bl10_ok (Nat.le_of_ble_eq_true rfl) (Nat.le_of_ble_eq_true rfl) dL_law_0 (fun q1 H hP hD hS => ?_)
  have G : Rg D T (fun q => s.heap.size ≤ q) s ([] ++ [(q1, .inr (10, bl10))]) H [] := ⟨G.1, hP, hD, hS, G.2.2.2.2⟩
  refine lv_dup F.1 F.2.1 dL_law_3 rfl ?_
  refine kn_callI (W0 := []) (x := (q1, .inr (10, bl10))) (mk := fun nw => gU T (fun _ => q1) (nw 0) (nw 1) (nw 2) (nw 3) (fun j => nw (j + 4)) kzw kps0 (fun _ => 0) vclr (fun _ => 0) kzw (va_up (fun _ => kzw) 0 wR)) (As := []) (rest := [.ref q1]) F G hao (mX10_init l D T q1 hw) (cwI 0 hAL (kgL_c (kA kl580) kgL_k) rfl rfl rfl (hAL _ (kA kl80)) (hAL _ kLl280) (hAL _ kLl281) rfl (by decide +kernel) ⟨Nat.le_of_ble_eq_true rfl, Nat.le_of_ble_eq_true rfl⟩) rfl hl.1 rfl (Nat.le_of_ble_eq_true rfl) dL_law_4 ⟨Nat.le_of_ble_eq_true rfl, Nat.le_of_ble_eq_true rfl⟩ (cN := 328) (sN := 6445) ⟨rfl, rfl⟩ (fun nw H locs G => ?_)
  refine lv_astore_n (lv' := [(1, .ref q1), (0, .ref b)]) F.1 F.2.1 dL_law_7 rfl hl (by decide) rfl (fun ls hl => ?_)
  refine va_new (fs := bl11) (ci := 11) F.1 F.2.1 F.2.2.2.2 kf11 tyX11 tyX11_ok F.2.2.2.1 (hAL _ kLl282) (hAL _ kLl283) (hAL _ (kA kl788)) G.1 G.2.1 G.2.2.1 G.2.2.2.1 G.2.2.2.2.2 rfl bl11_ok (Nat.le_of_ble_eq_true rfl) (Nat.le_of_ble_eq_true rfl) dL_law_8 (fun q2 H hP hD hS => ?_)
  have G : Rg D T (fun q => s.heap.size ≤ q) s ((gU T (fun _ => q1) (nw 0) (nw 1) (nw 2) (nw 3) (fun j => nw (j + 4)) kzw kps0 (fun _ => 0) vclr (fun _ => 0) kzw (va_up (fun _ => kzw) 0 wR)) ++ [(q2, .inr (11, bl11))]) H locs := ⟨G.1, hP, hD, hS, G.2.2.2.2⟩
  refine lv_dup F.1 F.2.1 dL_law_11 rfl ?_
  refine kn_callI (W0 := (gU T (fun _ => q1) (nw 0) (nw 1) (nw 2) (nw 3) (fun j => nw (j + 4)) kzw kps0 (fun _ => 0) vclr (fun _ => 0) kzw (va_up (fun _ => kzw) 0 wR))) (x := (q2, .inr (11, bl11))) (mk := fun nv => (gM T (kcn q2 (nv 0)) zR)) (As := []) (rest := [.ref q2]) F G hao (mX11_init l D T q2 h1 h2) (cwI 0 hAL (kgL_c (kA kl789) kgL_k) rfl rfl rfl (hAL _ (kA kl788)) (hAL _ kLl284) (hAL _ kLl285) rfl (by decide +kernel) ⟨Nat.le_of_ble_eq_true rfl, Nat.le_of_ble_eq_true rfl⟩) rfl hl.1 rfl (Nat.le_of_ble_eq_true rfl) dL_law_12 ⟨Nat.le_of_ble_eq_true rfl, Nat.le_of_ble_eq_true rfl⟩ (cN := 346) (sN := 13101) ⟨rfl, rfl⟩ (fun nv H locs G => ?_)
  refine lv_astore_n (lv' := [(2, .ref q2), (1, .ref q1), (0, .ref b)]) F.1 F.2.1 dL_law_15 rfl hl (by decide) rfl (fun ls hl => ?_)
  refine lv_iconst (v := 1) F.1 F.2.1 dL_law_16 (by decide) ?_
  refine kn_newa (atype := .long) F G 1 rfl ra_long kl210 rfl (n := 1) (N' := 1) (a0 := (1, .inr (.inl (fun _ => 0)))) (fun _ => rfl) (by decide) (by decide +kernel) (by decide) (Nat.le_of_ble_eq_true rfl) (Nat.le_of_ble_eq_true rfl) dL_law_17 (cN := 347) (sN := 13102) ⟨rfl, rfl⟩ (fun q3 H G => ?_)
  refine lv_astore_n (lv' := [(3, .ref q3), (2, .ref q2), (1, .ref q1), (0, .ref b)]) F.1 F.2.1 dL_law_19 rfl hl (by decide) rfl (fun ls hl => ?_)
  refine lv_iconst (v := 0) F.1 F.2.1 dL_law_20 (by decide) ?_
  refine lv_istore (lv' := [(4, .int 0), (3, .ref q3), (2, .ref q2), (1, .ref q1), (0, .ref b)]) F.1 F.2.1 dL_law_21 hl (by decide) rfl (fun ls hl => ?_)
  have G := Rg.perm G (perm_rot (gU T (fun _ => q1) (nw 0) (nw 1) (nw 2) (nw 3) (fun j => nw (j + 4)) kzw kps0 (fun _ => 0) vclr (fun _ => 0) kzw (va_up (fun _ => kzw) 0 wR)) (gM T (kcn q2 (nv 0)) zR) [(q3, .inl (T 1, 1, .inr (.inl (fun _ => 0))))])
  have G := Rg.eq G (gL_eq (T := T) (aF := fun _ => q1) (aR := nw 0) (aD := nw 1) (aP := nw 2) (aH := nw 3) (aW := fun j => nw (j + 4)) (aO := q3) (aM := kcn q2 (nv 0)) (z := zR) (out := fun _ => 0)).symm
  refine W.widen (k := 400 + 2 * 0) (n := 20000 + 12 * 0) (Nat.le_of_ble_eq_true rfl) (Nat.le_of_ble_eq_true rfl) ?_
  have e0 : (0 : Int32) = nI (6 * 0) := by decide +kernel
  rw [e0] at hl
  exact law_loop HS hst F hAL hr hlk hX hbl rfl hL 600 0 (by omega) (by omega) kzw kps0 (fun _ => 0) vclr (fun _ => 0) kzw (va_up (fun _ => kzw) 0 wR) (fun _ => 0) zR H locs ls h0 G hl
