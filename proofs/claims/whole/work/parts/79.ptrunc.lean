-- truncate
theorem st_truncate : St_truncate Sim := by
  intro tx ps nm v vn hs ww z ⟨n, h⟩ x
  have h0 := smn_0 h
  have hz := z0_0 z
  have hzz : va_up z 0 (fun _ => 0) = z0 z := rfl
  obtain ⟨L, hL, e1, e2, e3⟩ := h0.txt.ex
  unfold qX11_truncate qX10_truncate
  rw [hzz, bs_e, bs_e, e2, e1, jn_e, show (0 : Int64) = (0 : Int32).toInt64 from rfl, isInR, bd_s]
  by_cases c1 : x < 0
  · rw [if_pos c1, if_neg (show ¬ (0 ≤ x ∧ x ≤ nI L) from fun g => Int32.not_lt.mpr g.1 c1), may0 hz (by decide), bd2_s, if_pos rfl]
    exact ⟨2, 0, tx, 0, _, rfl, rfl, Or.inr ⟨rfl, by rw [va_s]⟩, n, smn_e h0 _⟩
  · rw [if_neg c1]
    by_cases c2 : x ≤ nI L
    · rw [if_pos c2, if_pos (show 0 ≤ x ∧ x ≤ nI L from ⟨Int32.not_lt.mp c1, c2⟩), may1 hz, bd2_s, if_neg (show ¬ (1 : Int32) = 0 by decide), bs_e]
      obtain ⟨j, g1, g2⟩ := nI_of c1
      subst g2
      have hj := (nI_leI (by omega) (by omega)).mp c2
      refine ⟨0, _, _, _, _, rfl, rfl, Or.inl ⟨rfl, by rw [va_n (by omega)]; exact hz, rfl⟩, n, ?_⟩
      obtain ⟨h1, h2, h3, h4, h5, h6, h7⟩ := h0
      exact ⟨pl_c h1 (fun i b1 b2 => va_n (by omega)), by rw [va_n (by omega)]; exact h2, ⟨by rw [va_n (by omega), va_n (by omega)]; exact h3.ring, by rw [va_n (by omega)]; exact h3.flag, by rw [va_n (by omega)]; exact h3.slot⟩, ⟨j, by omega, by rw [va_s], by rw [va_s], fun i hi => by rw [va_n (by omega), va_n (by omega)]; exact e3 i (by omega)⟩, by unfold Nam at h5 ⊢; rw [va_n (by omega)]; exact h5, by rw [va_n (by omega)]; exact h6, by rw [va_n (by omega)]; exact h7⟩
    · rw [if_neg c2, if_neg (show ¬ (0 ≤ x ∧ x ≤ nI L) from fun g => c2 g.2), may0 hz (by decide), bd2_s, if_pos rfl]
      exact ⟨2, 0, tx, 0, _, rfl, rfl, Or.inr ⟨rfl, by rw [va_s]⟩, n, smn_e h0 _⟩
