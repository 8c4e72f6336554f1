-- save, restore
theorem slot_e (x : Int32) : (qX10_checkSlot x = some 0 ∧ qX11_isSlot x = some 1 ∧ ∃ k, k < 2 ∧ x = nI k) ∨ (qX10_checkSlot x = some 2 ∧ qX11_isSlot x = some 0) := by
  unfold qX10_checkSlot qX11_isSlot
  rw [jn_e, isIn_0_1, bd_s]
  by_cases h1 : x < 0
  · rw [if_pos h1, if_neg (show ¬ (0 ≤ x ∧ x ≤ 1) from fun g => Int32.not_lt.mpr g.1 h1), gd_t nb0]
    exact Or.inr ⟨rfl, rfl⟩
  · rw [if_neg h1]
    obtain ⟨k, g1, g2⟩ := nI_of h1
    subst g2
    by_cases h2 : nI k < 2
    · have hk := (nI_ltI (a := k) (b := 2) (by omega) (by omega)).mp h2
      rw [if_pos h2, if_pos (show 0 ≤ nI k ∧ nI k ≤ 1 from ⟨Int32.not_lt.mp h1, nI_le (b := 1) (by omega) (by omega)⟩), gd_t nb1]
      exact Or.inl ⟨rfl, rfl, k, hk, rfl⟩
    · rw [if_neg h2, if_neg (show ¬ (0 ≤ nI k ∧ nI k ≤ 1) from fun g => h2 (by
        have := (nI_leI (a := k) (b := 1) (by omega) (by omega)).mp g.2
        exact nI_lt (b := 2) (by omega) (by omega))), gd_t nb0]
      exact Or.inr ⟨rfl, rfl⟩
theorem st_save : St_save Sim := by
  intro tx ps nm v vn hs ww z ⟨n, h⟩ x
  have h0 := smn_0 h
  have hz := z0_0 z
  have hzz : va_up z 0 (fun _ => 0) = z0 z := rfl
  unfold qX11_save qX10_save
  rw [bs_e, hzz]
  rcases slot_e x with ⟨a1, a2, k, hk, ex⟩ | ⟨a1, a2⟩
  · subst ex
    rw [a1, a2, bd_s, bd_s, may1 hz, bd2_s, if_pos rfl, if_neg (show ¬ (1 : Int32) = 0 by decide)]
    obtain ⟨z3, t1, t2, t3, t4⟩ := put_e (z := z0 z) (m := k) hk (fun (z_8 : Nat → Nat → Int32) => gd (vp_in (nI k) 2) (bs (va_up z_8 14 (upd (z_8 14) (nI k).toNatClampNeg (vp_nar .boolean 1))) fun z_10 => some z_10))
    obtain ⟨u, u1, u2⟩ := now_copy (w2 := ww (k + 10)) (r2 := fun i => z3 13 (411 * k + i)) h0.now (fun i hi => t3 i hi)
    have hC : qX0_putIn hs ww (nI k) = some (va_up hs 2 (fun _ => hs 2 0 ||| (1 <<< (nI k &&& 31))), va_up ww (k + 10) u) := by
      unfold qX0_putIn
      rw [gdn (by omega) (by omega), cl (by omega), u1, bd_s, bs_e, bs_e]
    rw [hC, bd2_s, t1, gdn (by omega) (by omega), cl (by omega), bs_e, show vp_nar .boolean 1 = 1 from rfl]
    refine ⟨0, _, _, _, rfl, rfl, Or.inl ⟨rfl, by rw [va_n (by omega), t2 0 (by omega)]; exact hz, trivial⟩, n, smn_h h0 (fun i hi => by rw [va_n (by omega), t2 i (by omega)]) (by rw [va_n (by omega), va_n (by omega), t2 10 (by omega)]; exact h0.now) ⟨?_, ?_, ?_⟩⟩
    · obtain ⟨o, c, b1, b2, b3, b4, b5, b6⟩ := h0.his.ring
      refine ⟨o, c, b1, b2, by rw [va_n (by omega), b3], by rw [va_n (by omega), b4], by rw [va_n (by omega), t2 15 (by omega), b5], fun j hj => ?_⟩
      have := Nat.mod_lt (o + j) (show 8 > 0 by omega)
      rw [va_n (by omega), va_n (by omega), t2 12 (by omega)]
      exact b6 j hj
    · intro j hj
      rw [va_s, va_s]
      by_cases e : j = k
      · rw [e, upd_s, b01_s (by omega)]
      · rw [upd_n e, b01_so (by omega) (by omega) e, t2 14 (by omega)]
        exact h0.his.flag j hj
    · intro j hj hb
      rw [va_n (show (13 : Nat) ≠ 14 by omega)]
      by_cases e : j = k
      · rw [e, va_s]
        exact u2
      · rw [va_n (by omega)]
        rw [va_s, bt_so (by omega) (by omega) e] at hb
        refine now_c (h0.his.slot j hj hb) (fun i hi => ?_)
        rw [t4 _ (by omega)]
  · rw [a1, a2, bd_s, bd_s, may0 hz (by decide), bd2_s, if_neg (show ¬ (2 : Nat) = 0 by decide), if_pos rfl]
    exact ⟨2, hs, ww, va_up (z0 z) 0 (fun _ => 1), rfl, rfl, Or.inr ⟨rfl, by rw [va_s]⟩, n, smn_e h0 _⟩
theorem st_restore : St_restore Sim := by
  intro tx ps nm v vn hs ww z ⟨n, h⟩ x
  have h0 := smn_0 h
  have hz := z0_0 z
  have hzz : va_up z 0 (fun _ => 0) = z0 z := rfl
  unfold qX11_restore qX10_restore
  rw [bs_e, hzz]
  rcases slot_e x with ⟨a1, a2, k, hk, ex⟩ | ⟨a1, a2⟩
  · subst ex
    have hS : qX0_isSaved hs ww (nI k) = some (b01 (hs 2 0) k) := by
      unfold qX0_isSaved
      rw [isIn_e _ (by omega), bd_s]
      rcases b01_c (hs 2 0) k with e | e <;> rw [e]
      · rw [gd_t nb0]
      · rw [gd_t nb1]
    rw [a1, a2, bd_s, bd_s, may1 hz, bd2_s, if_pos rfl, if_neg (show ¬ (1 : Int32) = 0 by decide), hS, bd_s, gdn (by omega) (by omega), cl (by omega), h0.his.flag k hk]
    rcases b01_c (hs 2 0) k with e | e
    · rw [e, if_pos rfl, may0 hz (by decide), bd2_s, if_pos rfl]
      exact ⟨4, hs, ww, _, rfl, rfl, Or.inr (Or.inr ⟨rfl, by rw [va_s]⟩), n, smn_e h0 _⟩
    · rw [e, if_neg (show ¬ (1 : Int32) = 0 by decide), may1 hz, bd2_s, if_neg (show ¬ (1 : Int32) = 0 by decide)]
      obtain ⟨z3, t1, t2, t3⟩ := take_e (z := z0 z) (m := k) hk (fun (z_10 : Nat → Nat → Int32) => (bs (va_up z_10 15 (fun _ => 0)) fun z_12 => some z_12))
      obtain ⟨u, u1, u2⟩ := now_copy (w2 := ww 0) (r2 := z3 10) (h0.his.slot k hk (b01_1.mp e)) (fun i hi => t3 i hi)
      have hC : qX0_takeFrom hs ww (nI k) = some (va_up ww 0 u) := by
        unfold qX0_takeFrom
        rw [gdn (by omega) (by omega), cl (by omega), u1, bd_s, bs_e]
      unfold qX0_dropChanges
      rw [hC, bd_s, bs_e, bd_s, t1, bs_e]
      refine ⟨0, _, _, _, rfl, rfl, Or.inl ⟨rfl, by rw [va_n (by omega), t2 0 (by omega)]; exact hz, trivial⟩, n, smn_h h0 (fun i hi => by rw [va_n (by omega), t2 i (by omega)]) (by rw [va_s, va_n (by omega)]; exact u2) ⟨?_, ?_, ?_⟩⟩
      · obtain ⟨o, c, b1, b2, b3, b4, b5, b6⟩ := h0.his.ring
        exact ⟨o, 0, b1, by omega, by rw [va_n (by omega), b3], by rw [va_s]; rfl, by rw [va_s]; rfl, fun j hj => by omega⟩
      · rw [va_n (by omega), va_n (by omega), t2 14 (by omega)]
        exact h0.his.flag
      · intro j hj hb
        rw [va_n (by omega)] at hb
        rw [va_n (by omega), va_n (by omega), t2 13 (by omega)]
        exact h0.his.slot j hj hb
  · rw [a1, a2, bd_s, bd_s, may0 hz (by decide), bd2_s, if_neg (show ¬ (2 : Nat) = 0 by decide), if_pos rfl]
    exact ⟨2, hs, ww, va_up (z0 z) 0 (fun _ => 1), rfl, rfl, Or.inr (Or.inl ⟨rfl, by rw [va_s]⟩), n, smn_e h0 _⟩
