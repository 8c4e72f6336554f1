-- what will be: peaks and messages
theorem one_of {x : Int32} {m : Nat} {M : Int32} (hM : M.toInt = m) (h : 1 ≤ x ∧ x ≤ M) : ∃ j, 1 ≤ j ∧ j ≤ m ∧ j < 2147483648 ∧ x = nI j := by
  have h1 := Int32.le_iff_toInt_le.mp h.1
  have h2 := Int32.le_iff_toInt_le.mp h.2
  have h3 : (1 : Int32).toInt = 1 := rfl
  obtain ⟨j, g1, g2⟩ := nI_of (x := x) (by
    intro e
    have := Int32.lt_iff_toInt_lt.mp e
    have h0 : (0 : Int32).toInt = 0 := rfl
    omega)
  subst g2
  rw [nI_toInt g1] at h1 h2
  exact ⟨j, by omega, by omega, g1, rfl⟩
theorem areTicks_e (x : Int32) : qX11_areTicks x = some (if 1 ≤ x ∧ x ≤ 500 then 1 else 0) := by
  unfold qX11_areTicks
  rw [isIn_1_500, bd_s]
  split
  · rw [gd_t nb1]
  · rw [gd_t nb0]
theorem st_peakIn : St_peakIn Sim := by
  intro tx ps nm v vn hs ww z ⟨n, h⟩ x y
  have h0 := smn_0 h
  have hz := z0_0 z
  have hp := h0.pl
  have hn := hp.hn
  obtain ⟨t, f, pk, ht, hS⟩ := h0.now.ex
  have hzz : va_up z 0 (fun _ => 0) = z0 z := rfl
  obtain ⟨z5, l1, l2, l3⟩ := lays_e (z0 z)
  obtain ⟨u, c1, c2⟩ := sw_copy (w2 := ww 1) (ur := z5 11) hS l3
  have hz5 : z5 0 0 = 0 := by rw [l2 0 (by omega)]; exact hz
  have hp5 := pl_c hp (fun i b1 b2 => l2 i (by omega))
  unfold qX11_peakIn qX10_peakIn
  rw [bs_e, hzz, areTicks_e, bd_s, range_e, bd_s, range_e, isIn_1_9999]
  simp only [jn_e, bd_s]
  by_cases hx : 1 ≤ x ∧ x ≤ 500
  · rw [if_pos hx, if_pos rfl, if_pos hx, if_neg (show ¬ (1 : Int32) = 0 by decide)]
    by_cases hy : 1 ≤ y ∧ y ≤ 9999
    · rw [if_pos hy, if_pos hy, if_pos rfl, if_neg (show ¬ (1 : Int32) = 0 by decide), may1 hz, bd2_s, if_neg (show ¬ (1 : Int32) = 0 by decide), c1, l1, bd_s, bd_s, bs_e, bs_e, bs_e, bs_e, va_va, va_va, va_s, va_s, va_s]
      obtain ⟨s, c, p, l, hE, hI, hs72, hpk⟩ := c2
      have hpp := hI.ordP.pn
      have hll := hI.ordL.pn
      obtain ⟨m, m1, m5, mb, em⟩ := one_of (m := 500) rfl hx
      obtain ⟨k, k1', k9, kb, ek⟩ := one_of (m := 9999) rfl hy
      subst em ek
      have hS2 : Sw v n t k (0, pk) (va_up (va_up u 2 (fun _ => nI k)) 7 (fun _ => 0)) ((va_up z5 11 (upd (z5 11) 6 (nI k))) 11) := by
        rw [va_s]
        exact ⟨s, c, p, l, p0_ev (pk := (pk, pk)) (fz_ev hE hn (by omega) (by omega)) hn (by omega) (by omega), p0_iv (fz_iv hI ⟨k1', k9⟩), hs72, Int32.le_refl _, hpk.2⟩
      obtain ⟨w2, z2, pk2, d1, d2, d3, d4⟩ := sw_peak (m := m) (fun (x3_12 : Int32) (z_13 : Nat → Nat → Int32) => some (x3_12, z_13)) (pl_c hp5 (fun i b1 b2 => va_n (by omega))) hS2 (by omega) (by omega)
      rw [d1, d2, bd_s, bs_e, va_s, va_va]
      obtain ⟨s', c', p', l', hE', hI', -, -⟩ := d4
      exact ⟨0, _, _, _, z2, rfl, rfl, Or.inl ⟨rfl, by rw [d3 0 (by omega), va_n (by omega)]; exact hz5, hE'.peak⟩, n, smn_a h0 (fun i hi => va_n hi) (fun i g1 g2 => by rw [d3 i g2, va_n g2, l2 i g2])⟩
    · rw [if_neg hy, if_neg hy, if_neg (show ¬ (3 : Nat) = 0 by decide), if_pos rfl, may0 hz (by decide), bd2_s, if_pos rfl]
      exact ⟨3, 0, ww, 0, va_up (z0 z) 0 (fun _ => 1), rfl, rfl, Or.inr ⟨rfl, by rw [va_s]⟩, n, smn_e h0 _⟩
  · rw [if_neg hx, if_neg (show ¬ (3 : Nat) = 0 by decide), if_neg hx, if_pos rfl, may0 hz (by decide), bd2_s, if_pos rfl]
    exact ⟨3, 0, ww, 0, va_up (z0 z) 0 (fun _ => 1), rfl, rfl, Or.inr ⟨rfl, by rw [va_s]⟩, n, smn_e h0 _⟩
theorem st_sentIn : St_sentIn Sim := by
  intro tx ps nm v vn hs ww z ⟨n, h⟩ x y
  have h0 := smn_0 h
  have hz := z0_0 z
  have hp := h0.pl
  have hn := hp.hn
  obtain ⟨t, f, pk, ht, hS⟩ := h0.now.ex
  have hzz : va_up z 0 (fun _ => 0) = z0 z := rfl
  obtain ⟨z5, l1, l2, l3⟩ := lays_e (z0 z)
  obtain ⟨u, c1, c2⟩ := sw_copy (w2 := ww 1) (ur := z5 11) hS l3
  have hz5 : z5 0 0 = 0 := by rw [l2 0 (by omega)]; exact hz
  have hp5 := pl_c hp (fun i b1 b2 => l2 i (by omega))
  unfold qX11_sentIn qX10_sentIn
  rw [bs_e, hzz, areTicks_e, bd_s, range_e, bd_s, range_e, isIn_1_20]
  simp only [jn_e, bd_s]
  by_cases hx : 1 ≤ x ∧ x ≤ 500
  · rw [if_pos hx, if_pos rfl, if_pos hx, if_neg (show ¬ (1 : Int32) = 0 by decide)]
    by_cases hy : 1 ≤ y ∧ y ≤ 20
    · rw [if_pos hy, if_pos hy, if_pos rfl, if_neg (show ¬ (1 : Int32) = 0 by decide), may1 hz, bd2_s, if_neg (show ¬ (1 : Int32) = 0 by decide), c1, l1, bd_s, bd_s, bs_e, bs_e, bs_e, va_va, va_s, va_s]
      obtain ⟨s, c, p, l, hE, hI, hs72, hpk⟩ := c2
      obtain ⟨s9, c9, p9, l9, hE9, hI9, -, -⟩ := hS
      have hpp := hI.ordP.pn
      have hll := hI.ordL.pn
      obtain ⟨m, m1, m5, mb, em⟩ := one_of (m := 500) rfl hx
      subst em
      have hS2 : Sw v n t f (pk, pk) (va_up u 3 (fun _ => y)) ((va_up z5 11 (upd (z5 11) 7 y)) 11) := by
        rw [va_s]
        exact ⟨s, c, p, l, rt_ev hE hn (by omega) (by omega), rt_iv hI, hs72, hpk⟩
      obtain ⟨w2, z2, pk2, d1, d2, d3, d4⟩ := sw_sent (m := m) (fun (z_11 : Nat → Nat → Int32) => some ((((z_11 11) 4) - ((z_11 10) 4)), z_11)) (pl_c hp5 (fun i b1 b2 => va_n (by omega))) hS2 (by omega) (by omega)
      rw [d1, d2, bd_s, bs_e, va_s, va_va]
      obtain ⟨s', c', p', l', hE', hI', -, -⟩ := d4
      exact ⟨0, _, _, _, z2, rfl, rfl, Or.inl ⟨rfl, by rw [d3 0 (by omega), va_n (by omega)]; exact hz5, by rw [va_n (by omega), hE'.sent, hE'.sentr, d3 10 (by omega), va_n (by omega), l2 10 (by omega), hE9.sent, hE9.sentr]⟩, n, smn_a h0 (fun i hi => va_n hi) (fun i g1 g2 => by rw [d3 i g2, va_n g2, l2 i g2])⟩
    · rw [if_neg hy, if_neg hy, if_neg (show ¬ (3 : Nat) = 0 by decide), if_pos rfl, may0 hz (by decide), bd2_s, if_pos rfl]
      exact ⟨3, 0, ww, 0, va_up (z0 z) 0 (fun _ => 1), rfl, rfl, Or.inr ⟨rfl, by rw [va_s]⟩, n, smn_e h0 _⟩
  · rw [if_neg hx, if_neg (show ¬ (3 : Nat) = 0 by decide), if_neg hx, if_pos rfl, may0 hz (by decide), bd2_s, if_pos rfl]
    exact ⟨3, 0, ww, 0, va_up (z0 z) 0 (fun _ => 1), rfl, rfl, Or.inr ⟨rfl, by rw [va_s]⟩, n, smn_e h0 _⟩
