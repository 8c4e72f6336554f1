-- the history
theorem ag_r (w : Nat → Nat → Int32) : Ag w w := ⟨rfl, rfl, rfl, rfl, rfl, rfl, rfl, rfl, rfl, rfl, rfl, rfl, rfl, rfl, rfl, rfl, fun _ _ => rfl, fun _ _ => rfl, fun _ _ => rfl, fun _ _ => rfl, fun _ _ => rfl, fun _ _ => rfl, fun _ _ => rfl, fun _ _ => rfl, fun _ _ => rfl, fun _ _ => rfl, fun _ _ => rfl, fun _ _ => rfl, fun _ _ => rfl, fun _ _ => rfl, fun _ _ => rfl, fun _ _ => rfl, fun _ _ => rfl, fun _ _ => rfl⟩
theorem now_c {v : Nat → Nat → Int32} {w : Nat → Nat → Int32} {r : Nat → Int32} {n : Nat} {r2 : Nat → Int32} (h : Now v n w r) (hr : ∀ i, i < 411 → r2 i = r i) : Now v n w r2 := by
  obtain ⟨t, f, y, ht, hS⟩ := h.ex
  exact ⟨t, f, y, ht, sw_cong hS (ag_r w) hr⟩
theorem now_copy {v : Nat → Nat → Int32} {w : Nat → Nat → Int32} {r : Nat → Int32} {n : Nat} {w2 : Nat → Nat → Int32} {r2 : Nat → Int32} (h : Now v n w r) (hr : ∀ i, i < 411 → r2 i = r i) : ∃ u, qX10_copyState w w2 = some u ∧ Now v n u r2 := by
  obtain ⟨t, f, y, ht, hS⟩ := h.ex
  obtain ⟨u, a, b⟩ := sw_copy (w2 := w2) hS hr
  exact ⟨u, a, t, f, y, ht, b⟩
theorem and7 (k : Nat) (hk : k < 4294967296) : nI k &&& 7 = nI (k % 8) := pk_andN (by omega) 3 (by decide)
theorem m411 (o : Nat) : (411 : Int32) * nI o = nI (411 * o) := nI_mul 411 o
theorem p411 (o : Nat) : nI o + 411 = nI (o + 411) := nI_add o 411
theorem shift_e {z : Nat → Nat → Int32} (h : z 15 0 = nI 7) (K : (Nat → Nat → Int32) → Option (Nat → Nat → Int32)) : ∃ z2 : Nat → Nat → Int32, qX11_keeps_L21 K fu 0 z = K z2 ∧ (∀ i, i ≠ 12 → z2 i = z i) ∧ ∀ i, i < 2877 → z2 12 i = z 12 (i + 411) := by
  refine ⟨lfold (fun k (u : Nat → Nat → Int32) => va_up u 12 (upd (u 12) k (u 12 (k + 411)))) 0 2877 z, ?_, ?_⟩
  · refine lp (L := fun g i u => qX11_keeps_L21 K g i u) (N := 2877) (K := K) (fun _ u => u 15 0 = nI 7) ?_ ?_ 2877 fu 0 z (by omega) (by unfold fu; omega) h
    · intro g k u hk hu
      refine ⟨?_, by rw [va_n (by omega)]; exact hu⟩
      show qX11_keeps_L21 K (g + 1) (nI k) u = _
      rw [qX11_keeps_L21, hu, m411, if_neg (nle (show k < 411 * 7 by omega) (by omega)), p411, gdn (by omega) (by omega), gdn (by omega) (by omega), cl (by omega), cl (by omega), bs_e, p1]
    · intro g u hu
      show qX11_keeps_L21 K (g + 1) (nI 2877) u = _
      rw [qX11_keeps_L21, hu, m411, if_pos (show nI (411 * 7) ≤ nI 2877 from Int32.le_refl _)]
  · have := lfold_inv (f := fun k (u : Nat → Nat → Int32) => va_up u 12 (upd (u 12) k (u 12 (k + 411)))) (fun m u => (∀ i, i ≠ 12 → u i = z i) ∧ (∀ i, i < m → u 12 i = z 12 (i + 411)) ∧ ∀ i, m ≤ i → u 12 i = z 12 i) 2877 0 z ⟨fun i _ => rfl, fun i hi => by omega, fun i _ => rfl⟩ (by
      intro m u _ _ ⟨h1, h2, h3⟩
      refine ⟨fun i hi => ?_, fun i hi => ?_, fun i hi => ?_⟩
      · show va_up u 12 _ i = _
        rw [va_n hi, h1 i hi]
      · show va_up u 12 _ 12 i = _
        rw [va_s]
        by_cases e : i = m
        · rw [e, upd_s, h3 _ (by omega)]
        · rw [upd_n e, h2 i (by omega)]
      · show va_up u 12 _ 12 i = _
        rw [va_s, upd_n (by omega), h3 i (by omega)])
    rw [Nat.zero_add] at this
    exact ⟨this.1, this.2.1⟩
theorem lay_e {z : Nat → Nat → Int32} {m : Nat} (hm : m < 8) (h : z 15 0 = nI m) (K : (Nat → Nat → Int32) → Option (Nat → Nat → Int32)) : ∃ z2 : Nat → Nat → Int32, qX11_keeps_L57 K fu 0 z = K z2 ∧ (∀ i, i ≠ 12 → z2 i = z i) ∧ (∀ i, i < 411 → z2 12 (411 * m + i) = z 10 i) ∧ ∀ i, i < 411 * m → z2 12 i = z 12 i := by
  refine ⟨lfold (fun k (u : Nat → Nat → Int32) => va_up u 12 (upd (u 12) (411 * m + k) (u 10 k))) 0 411 z, ?_, ?_⟩
  · refine lp (L := fun g i u => qX11_keeps_L57 K g i u) (N := 411) (K := K) (fun _ u => u 15 0 = nI m) ?_ ?_ 411 fu 0 z (by omega) (by unfold fu; omega) h
    · intro g k u hk hu
      refine ⟨?_, by rw [va_n (by omega)]; exact hu⟩
      show qX11_keeps_L57 K (g + 1) (nI k) u = _
      rw [qX11_keeps_L57, if_neg (show ¬ (411 : Int32) ≤ nI k from nle (a := 411) hk (by omega)), hu, m411, nI_add, gdn (by omega) (by omega), gdn (by omega) (by omega), cl (by omega), cl (by omega), bs_e, p1]
    · intro g u hu
      show qX11_keeps_L57 K (g + 1) (nI 411) u = _
      rw [qX11_keeps_L57, if_pos (show (411 : Int32) ≤ nI 411 from Int32.le_refl _)]
  · have := lfold_inv (f := fun k (u : Nat → Nat → Int32) => va_up u 12 (upd (u 12) (411 * m + k) (u 10 k))) (fun b u => (∀ i, i ≠ 12 → u i = z i) ∧ (∀ i, i < b → u 12 (411 * m + i) = z 10 i) ∧ ∀ i, i < 411 * m → u 12 i = z 12 i) 411 0 z ⟨fun i _ => rfl, fun i hi => by omega, fun i _ => rfl⟩ (by
      intro b u _ _ ⟨h1, h2, h3⟩
      refine ⟨fun i hi => ?_, fun i hi => ?_, fun i hi => ?_⟩
      · show va_up u 12 _ i = _
        rw [va_n hi, h1 i hi]
      · show va_up u 12 _ 12 _ = _
        rw [va_s]
        by_cases e : i = b
        · rw [e, upd_s, h1 10 (by omega)]
        · rw [upd_n (by omega), h2 i (by omega)]
      · show va_up u 12 _ 12 i = _
        rw [va_s, upd_n (by omega), h3 i hi])
    rw [Nat.zero_add] at this
    exact this
