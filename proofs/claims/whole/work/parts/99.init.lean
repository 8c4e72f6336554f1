-- the beginning, and the law from its entry
theorem sim_all : StAll Sim := ⟨st_append, st_truncate, st_load, st_errorCode, st_errorPosition, st_find, st_count, st_outlet, st_known, st_needs, st_outletsWith, st_rights, st_load_, st_strain, st_message, st_traffic, st_learned, st_grants, st_why, st_runsIn, st_allIn, st_peakIn, st_sentIn, st_run, st_blackout, st_want, st_setFuse, st_setPriority, st_forget, st_undo, st_save, st_restore⟩
theorem sim_init : ∃ wR z1 zR : Nat → Nat → Int32, qX9_beginAnew vclr kzw = some wR ∧ qX11_clearsTold zM0 = some z1 ∧ qX11_begins (va_up z1 17 (upd (z1 17) 6 100)) = some zR ∧ Sim kzw kps0 (fun _ => 0) vclr (fun _ => 0) kzw (va_up (fun _ => kzw) 0 wR) zR := by
  obtain ⟨z1, c1, c2, c3, c4, c5, c6, c7, c8⟩ := clr_e zM0
  have hV : DrV 0 (fun _ => 0) vclr (va_up z1 17 (upd (z1 17) 6 100)) := by
    refine ⟨?_, ?_, ?_, ?_⟩
    · exact d1_0 rfl (by rw [va_n (by omega)]; exact c4) (by rw [va_n (by omega)]; exact c5)
    · rw [va_s]
      exact d2_0 rfl rfl rfl rfl rfl c3
    · exact d3_0 rfl (by rw [va_n (by omega)]; exact c6)
    · exact d4_0 rfl (by rw [va_n (by omega)]; exact c7)
  obtain ⟨wR, zR, b1, b2, b3, b4, b5, b6, b7, b8, b9, b10⟩ := begin_e hV kzw
  have e23 : zR 23 0 = 0 := by
    rw [b10 23 (by omega), va_n (by omega), c2 23 (by omega) (by omega)]
    rfl
  have e28 : zR 28 0 = 0 := by
    rw [b10 28 (by omega), va_n (by omega), c2 28 (by omega) (by omega)]
    rfl
  have e29 : zR 29 0 = -1 := by
    rw [b10 29 (by omega), va_n (by omega), c2 29 (by omega) (by omega)]
    rfl
  refine ⟨wR, z1, zR, b1, c1, b2, 0, b3, by rw [va_s]; exact b4, ⟨⟨0, 0, by omega, by omega, rfl, rfl, b6, fun k hk => absurd hk (Nat.not_lt_zero k)⟩, fun k hk => ?_, fun k hk hb => absurd hb (by rw [show kzw 2 0 = 0 from rfl, b_0]; decide)⟩, ⟨0, by omega, rfl, e23, fun i hi => absurd hi (Nat.not_lt_zero i)⟩, b5, e28.symm, e29.symm⟩
  rcases (show k = 0 ∨ k = 1 by omega) with g | g
  · subst g
    rw [b7]
    exact (b01_0.mpr (b_0 0)).symm
  · subst g
    rw [b8]
    exact (b01_0.mpr (b_0 1)).symm
theorem whole_start {p : Program} {e : Env} {s : State} {m : MethodId} {below : List Frame} {meth : Method} {c : Code} (l : Launch) (hflags : l.flags = flags0) {b L : Nat} {xs : Nat → Int32} (hL : L ≤ 3072) (C0 : lw_At p s m meth c b L xs) : W p l e room_1 s m #[Value.ref b] below meth c s.heap [] 0 0 (lw_Z below #[Value.ref b] s) (entryFrame m ([Value.ref b] : List Value).toArray 9) := by
  obtain ⟨wR, z1, zR, h1, h2, h3, h4⟩ := sim_init
  exact start_open sim_all h1 h2 h3 h4 l hflags hL C0
