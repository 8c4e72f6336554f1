-- everything begins anew
def DrV (n : Nat) (vn : Nat → Int64) (v : Nat → Nat → Int32) (z : Nat → Nat → Int32) : Prop :=
  (D1 n vn (v 0) (v 9) (v 10) (v 11) (v 12) (v 14) (z 18) (z 19) (z 22) (z 30) (z 31)) ∧
  (D2 n (v 1) (v 2) (v 3) (v 4) (v 5) (v 13) (z 17)) ∧
  (D3 (v 6) (v 7) (z 20) (z 32)) ∧
  (D4 (v 8) (v 15) (v 16) (z 21) (z 33))
theorem DrV.d1 {n : Nat} {vn : Nat → Int64} {v : Nat → Nat → Int32} {z : Nat → Nat → Int32} (h : DrV n vn v z) : D1 n vn (v 0) (v 9) (v 10) (v 11) (v 12) (v 14) (z 18) (z 19) (z 22) (z 30) (z 31) := h.1
theorem DrV.d2 {n : Nat} {vn : Nat → Int64} {v : Nat → Nat → Int32} {z : Nat → Nat → Int32} (h : DrV n vn v z) : D2 n (v 1) (v 2) (v 3) (v 4) (v 5) (v 13) (z 17) := h.2.1
theorem DrV.d3 {n : Nat} {vn : Nat → Int64} {v : Nat → Nat → Int32} {z : Nat → Nat → Int32} (h : DrV n vn v z) : D3 (v 6) (v 7) (z 20) (z 32) := h.2.2.1
theorem DrV.d4 {n : Nat} {vn : Nat → Int64} {v : Nat → Nat → Int32} {z : Nat → Nat → Int32} (h : DrV n vn v z) : D4 (v 8) (v 15) (v 16) (z 21) (z 33) := h.2.2.2
theorem kf_e {α : Type} {n o : Nat} (h : o < n) (x : α) (f : Nat → α) : kfill n x f o = x := by
  unfold kfill
  exact if_pos h
theorem kc_e {α : Type} {n o : Nat} (h : o < n) (f g : Nat → α) : kcpy n f g o = f o := by
  unfold kcpy
  exact if_pos h
theorem bg5_e (z : Nat → Nat → Int32) : ∃ z2 : Nat → Nat → Int32, (∀ K : (Nat → Nat → Int32) → Option (Nat → Nat → Int32), qX11_begins_L34 K fu 0 z = K z2) ∧ (∀ i, i ≠ 5 → z2 i = z i) ∧ ∀ k, k < 48 → z2 5 k = z 18 k := by
  refine ⟨lfold (fun k y => va_up y 5 (upd (y 5) k (y 18 k))) 0 48 z, fun K => ?_, ?_⟩
  · exact lp (L := fun g i y => qX11_begins_L34 K g i y) (N := 48) (K := K) (f := fun k y => va_up y 5 (upd (y 5) k (y 18 k))) (fun _ _ => True) (by
      intro g k y hk _
      refine ⟨?_, trivial⟩
      show qX11_begins_L34 K (g + 1) (nI k) y = qX11_begins_L34 K g (nI (k + 1)) _
      rw [qX11_begins_L34, if_neg (show ¬ (48 : Int32) ≤ nI k from nle (a := 48) (by omega) (by omega)), gdn (by omega) (by omega), gdn (by omega) (by omega), cl (by omega), bs_e, p1]) (by
      intro g y _
      show qX11_begins_L34 K (g + 1) (nI 48) y = K y
      rw [qX11_begins_L34, if_pos (show (48 : Int32) ≤ nI 48 from Int32.le_refl _)]) 48 fu 0 z (by omega) (by unfold fu; omega) trivial
  have inv := lfold_inv (f := fun k (y : Nat → Nat → Int32) => va_up y 5 (upd (y 5) k (y 18 k))) (fun m y => (∀ i, i ≠ 5 → y i = z i) ∧ ∀ i, i < m → y 5 i = z 18 i) 48 0 z ⟨fun _ _ => rfl, fun i hi => absurd hi (Nat.not_lt_zero i)⟩ (by
    intro i y _ _ ⟨g1, g2⟩
    refine ⟨fun j hj => by rw [va_n hj]; exact g1 j hj, fun j hj => ?_⟩
    rw [va_s]
    by_cases d : j = i
    · subst d
      rw [upd_s, g1 18 (by omega)]
    · rw [upd_n d]
      exact g2 j (by omega))
  rw [Nat.zero_add] at inv
  exact inv
theorem bg6_e (z : Nat → Nat → Int32) : ∃ z2 : Nat → Nat → Int32, (∀ K : (Nat → Nat → Int32) → Option (Nat → Nat → Int32), qX11_begins_L60 K fu 0 z = K z2) ∧ (∀ i, i ≠ 6 → z2 i = z i) ∧ ∀ k, k < 12 → z2 6 k = z 19 k := by
  refine ⟨lfold (fun k y => va_up y 6 (upd (y 6) k (y 19 k))) 0 12 z, fun K => ?_, ?_⟩
  · exact lp (L := fun g i y => qX11_begins_L60 K g i y) (N := 12) (K := K) (f := fun k y => va_up y 6 (upd (y 6) k (y 19 k))) (fun _ _ => True) (by
      intro g k y hk _
      refine ⟨?_, trivial⟩
      show qX11_begins_L60 K (g + 1) (nI k) y = qX11_begins_L60 K g (nI (k + 1)) _
      rw [qX11_begins_L60, if_neg (show ¬ (12 : Int32) ≤ nI k from nle (a := 12) (by omega) (by omega)), gdn (by omega) (by omega), gdn (by omega) (by omega), cl (by omega), bs_e, p1]) (by
      intro g y _
      show qX11_begins_L60 K (g + 1) (nI 12) y = K y
      rw [qX11_begins_L60, if_pos (show (12 : Int32) ≤ nI 12 from Int32.le_refl _)]) 12 fu 0 z (by omega) (by unfold fu; omega) trivial
  have inv := lfold_inv (f := fun k (y : Nat → Nat → Int32) => va_up y 6 (upd (y 6) k (y 19 k))) (fun m y => (∀ i, i ≠ 6 → y i = z i) ∧ ∀ i, i < m → y 6 i = z 19 i) 12 0 z ⟨fun _ _ => rfl, fun i hi => absurd hi (Nat.not_lt_zero i)⟩ (by
    intro i y _ _ ⟨g1, g2⟩
    refine ⟨fun j hj => by rw [va_n hj]; exact g1 j hj, fun j hj => ?_⟩
    rw [va_s]
    by_cases d : j = i
    · subst d
      rw [upd_s, g1 19 (by omega)]
    · rw [upd_n d]
      exact g2 j (by omega))
  rw [Nat.zero_add] at inv
  exact inv
theorem bg7_e (z : Nat → Nat → Int32) : ∃ z2 : Nat → Nat → Int32, (∀ K : (Nat → Nat → Int32) → Option (Nat → Nat → Int32), qX11_begins_L86 K fu 0 z = K z2) ∧ (∀ i, i ≠ 7 → z2 i = z i) ∧ ∀ k, k < 24 → z2 7 k = z 20 k := by
  refine ⟨lfold (fun k y => va_up y 7 (upd (y 7) k (y 20 k))) 0 24 z, fun K => ?_, ?_⟩
  · exact lp (L := fun g i y => qX11_begins_L86 K g i y) (N := 24) (K := K) (f := fun k y => va_up y 7 (upd (y 7) k (y 20 k))) (fun _ _ => True) (by
      intro g k y hk _
      refine ⟨?_, trivial⟩
      show qX11_begins_L86 K (g + 1) (nI k) y = qX11_begins_L86 K g (nI (k + 1)) _
      rw [qX11_begins_L86, if_neg (show ¬ (24 : Int32) ≤ nI k from nle (a := 24) (by omega) (by omega)), gdn (by omega) (by omega), gdn (by omega) (by omega), cl (by omega), bs_e, p1]) (by
      intro g y _
      show qX11_begins_L86 K (g + 1) (nI 24) y = K y
      rw [qX11_begins_L86, if_pos (show (24 : Int32) ≤ nI 24 from Int32.le_refl _)]) 24 fu 0 z (by omega) (by unfold fu; omega) trivial
  have inv := lfold_inv (f := fun k (y : Nat → Nat → Int32) => va_up y 7 (upd (y 7) k (y 20 k))) (fun m y => (∀ i, i ≠ 7 → y i = z i) ∧ ∀ i, i < m → y 7 i = z 20 i) 24 0 z ⟨fun _ _ => rfl, fun i hi => absurd hi (Nat.not_lt_zero i)⟩ (by
    intro i y _ _ ⟨g1, g2⟩
    refine ⟨fun j hj => by rw [va_n hj]; exact g1 j hj, fun j hj => ?_⟩
    rw [va_s]
    by_cases d : j = i
    · subst d
      rw [upd_s, g1 20 (by omega)]
    · rw [upd_n d]
      exact g2 j (by omega))
  rw [Nat.zero_add] at inv
  exact inv
theorem bg8_e (z : Nat → Nat → Int32) : ∃ z2 : Nat → Nat → Int32, (∀ K : (Nat → Nat → Int32) → Option (Nat → Nat → Int32), qX11_begins_L112 K fu 0 z = K z2) ∧ (∀ i, i ≠ 8 → z2 i = z i) ∧ ∀ k, k < 8 → z2 8 k = z 21 k := by
  refine ⟨lfold (fun k y => va_up y 8 (upd (y 8) k (y 21 k))) 0 8 z, fun K => ?_, ?_⟩
  · exact lp (L := fun g i y => qX11_begins_L112 K g i y) (N := 8) (K := K) (f := fun k y => va_up y 8 (upd (y 8) k (y 21 k))) (fun _ _ => True) (by
      intro g k y hk _
      refine ⟨?_, trivial⟩
      show qX11_begins_L112 K (g + 1) (nI k) y = qX11_begins_L112 K g (nI (k + 1)) _
      rw [qX11_begins_L112, if_neg (show ¬ (8 : Int32) ≤ nI k from nle (a := 8) (by omega) (by omega)), gdn (by omega) (by omega), gdn (by omega) (by omega), cl (by omega), bs_e, p1]) (by
      intro g y _
      show qX11_begins_L112 K (g + 1) (nI 8) y = K y
      rw [qX11_begins_L112, if_pos (show (8 : Int32) ≤ nI 8 from Int32.le_refl _)]) 8 fu 0 z (by omega) (by unfold fu; omega) trivial
  have inv := lfold_inv (f := fun k (y : Nat → Nat → Int32) => va_up y 8 (upd (y 8) k (y 21 k))) (fun m y => (∀ i, i ≠ 8 → y i = z i) ∧ ∀ i, i < m → y 8 i = z 21 i) 8 0 z ⟨fun _ _ => rfl, fun i hi => absurd hi (Nat.not_lt_zero i)⟩ (by
    intro i y _ _ ⟨g1, g2⟩
    refine ⟨fun j hj => by rw [va_n hj]; exact g1 j hj, fun j hj => ?_⟩
    rw [va_s]
    by_cases d : j = i
    · subst d
      rw [upd_s, g1 21 (by omega)]
    · rw [upd_n d]
      exact g2 j (by omega))
  rw [Nat.zero_add] at inv
  exact inv
theorem bg9_e (z : Nat → Nat → Int32) : ∃ z2 : Nat → Nat → Int32, (∀ K : (Nat → Nat → Int32) → Option (Nat → Nat → Int32), qX11_begins_L138 K fu 0 z = K z2) ∧ (∀ i, i ≠ 9 → z2 i = z i) ∧ ∀ k, k < 96 → z2 9 k = z 22 k := by
  refine ⟨lfold (fun k y => va_up y 9 (upd (y 9) k (y 22 k))) 0 96 z, fun K => ?_, ?_⟩
  · exact lp (L := fun g i y => qX11_begins_L138 K g i y) (N := 96) (K := K) (f := fun k y => va_up y 9 (upd (y 9) k (y 22 k))) (fun _ _ => True) (by
      intro g k y hk _
      refine ⟨?_, trivial⟩
      show qX11_begins_L138 K (g + 1) (nI k) y = qX11_begins_L138 K g (nI (k + 1)) _
      rw [qX11_begins_L138, if_neg (show ¬ (96 : Int32) ≤ nI k from nle (a := 96) (by omega) (by omega)), gdn (by omega) (by omega), gdn (by omega) (by omega), cl (by omega), bs_e, p1]) (by
      intro g y _
      show qX11_begins_L138 K (g + 1) (nI 96) y = K y
      rw [qX11_begins_L138, if_pos (show (96 : Int32) ≤ nI 96 from Int32.le_refl _)]) 96 fu 0 z (by omega) (by unfold fu; omega) trivial
  have inv := lfold_inv (f := fun k (y : Nat → Nat → Int32) => va_up y 9 (upd (y 9) k (y 22 k))) (fun m y => (∀ i, i ≠ 9 → y i = z i) ∧ ∀ i, i < m → y 9 i = z 22 i) 96 0 z ⟨fun _ _ => rfl, fun i hi => absurd hi (Nat.not_lt_zero i)⟩ (by
    intro i y _ _ ⟨g1, g2⟩
    refine ⟨fun j hj => by rw [va_n hj]; exact g1 j hj, fun j hj => ?_⟩
    rw [va_s]
    by_cases d : j = i
    · subst d
      rw [upd_s, g1 22 (by omega)]
    · rw [upd_n d]
      exact g2 j (by omega))
  rw [Nat.zero_add] at inv
  exact inv
theorem bg10_e (z : Nat → Nat → Int32) : ∃ z2 : Nat → Nat → Int32, (∀ K : (Nat → Nat → Int32) → Option (Nat → Nat → Int32), qX11_begins_L164 K fu 0 z = K z2) ∧ (∀ i, i ≠ 10 → z2 i = z i) ∧ ∀ k, k < 411 → z2 10 k = z 17 k := by
  refine ⟨lfold (fun k y => va_up y 10 (upd (y 10) k (y 17 k))) 0 411 z, fun K => ?_, ?_⟩
  · exact lp (L := fun g i y => qX11_begins_L164 K g i y) (N := 411) (K := K) (f := fun k y => va_up y 10 (upd (y 10) k (y 17 k))) (fun _ _ => True) (by
      intro g k y hk _
      refine ⟨?_, trivial⟩
      show qX11_begins_L164 K (g + 1) (nI k) y = qX11_begins_L164 K g (nI (k + 1)) _
      rw [qX11_begins_L164, if_neg (show ¬ (411 : Int32) ≤ nI k from nle (a := 411) (by omega) (by omega)), gdn (by omega) (by omega), gdn (by omega) (by omega), cl (by omega), bs_e, p1]) (by
      intro g y _
      show qX11_begins_L164 K (g + 1) (nI 411) y = K y
      rw [qX11_begins_L164, if_pos (show (411 : Int32) ≤ nI 411 from Int32.le_refl _)]) 411 fu 0 z (by omega) (by unfold fu; omega) trivial
  have inv := lfold_inv (f := fun k (y : Nat → Nat → Int32) => va_up y 10 (upd (y 10) k (y 17 k))) (fun m y => (∀ i, i ≠ 10 → y i = z i) ∧ ∀ i, i < m → y 10 i = z 17 i) 411 0 z ⟨fun _ _ => rfl, fun i hi => absurd hi (Nat.not_lt_zero i)⟩ (by
    intro i y _ _ ⟨g1, g2⟩
    refine ⟨fun j hj => by rw [va_n hj]; exact g1 j hj, fun j hj => ?_⟩
    rw [va_s]
    by_cases d : j = i
    · subst d
      rw [upd_s, g1 17 (by omega)]
    · rw [upd_n d]
      exact g2 j (by omega))
  rw [Nat.zero_add] at inv
  exact inv
def bga (k : Nat) (u : Nat → Nat → Int32) : Nat → Nat → Int32 := va_up u 10 (upd (u 10) (51 + 12 * k + 2) (u 10 (51 + 12 * k + 1)))
def bgb (k : Nat) (u : Nat → Nat → Int32) : Nat → Nat → Int32 := va_up u 10 (upd (u 10) (51 + 12 * k + 5) (-1))
def bgc (k : Nat) (u : Nat → Nat → Int32) : Nat → Nat → Int32 := va_up u 10 (upd (u 10) (51 + 12 * k + 6) (-1))
theorem bgl_e {n : Nat} (z : Nat → Nat → Int32) (hz : z 1 0 = nI n) (hn : n ≤ 12) : ∃ z2 : Nat → Nat → Int32, (∀ K : (Nat → Nat → Int32) → Option (Nat → Nat → Int32), qX11_begins_L191 K fu 0 z = K z2) ∧ (∀ i, i ≠ 10 → z2 i = z i) ∧ (∀ o, o < n → z2 10 (51 + 12 * o + 2) = z 10 (51 + 12 * o + 1) ∧ z2 10 (51 + 12 * o + 5) = -1 ∧ z2 10 (51 + 12 * o + 6) = -1) ∧ ∀ i, (∀ o, o < n → i ≠ 51 + 12 * o + 2 ∧ i ≠ 51 + 12 * o + 5 ∧ i ≠ 51 + 12 * o + 6) → z2 10 i = z 10 i := by
  have key := fun (K : (Nat → Nat → Int32) → Option (Nat → Nat → Int32)) => lp (L := fun g i y => qX11_begins_L191 K g i y) (N := n) (K := K) (f := fun k y => bgc k (bgb k (bga k y))) (fun _ y => y 1 0 = nI n) (by
    intro g k y hk hy
    refine ⟨?_, hy⟩
    show qX11_begins_L191 K (g + 1) (nI k) y = qX11_begins_L191 K g (nI (k + 1)) _
    rw [qX11_begins_L191, hy, if_neg (nle hk (by omega)), ag2, bd_s, ag1, bd_s, gdn (i := 51 + 12 * k + 1) (by omega) (by omega), gdn (i := 51 + 12 * k + 2) (by omega) (by omega), cl (i := 51 + 12 * k + 1) (by omega), cl (i := 51 + 12 * k + 2) (by omega), bs_e, ag5, bd_s, gdn (i := 51 + 12 * k + 5) (by omega) (by omega), cl (i := 51 + 12 * k + 5) (by omega), bs_e, ag6, bd_s, gdn (i := 51 + 12 * k + 6) (by omega) (by omega), cl (i := 51 + 12 * k + 6) (by omega), bs_e, p1]
    rfl) (by
    intro g y hy
    show qX11_begins_L191 K (g + 1) (nI n) y = K y
    rw [qX11_begins_L191, hy, if_pos (Int32.le_refl _)]) n fu 0 z (by omega) (by unfold fu; omega) hz
  refine ⟨_, key, ?_⟩
  have inv := lfold_inv (f := fun k (y : Nat → Nat → Int32) => bgc k (bgb k (bga k y))) (fun m y => m ≤ n → (∀ i, i ≠ 10 → y i = z i) ∧ (∀ o, o < m → y 10 (51 + 12 * o + 2) = z 10 (51 + 12 * o + 1) ∧ y 10 (51 + 12 * o + 5) = -1 ∧ y 10 (51 + 12 * o + 6) = -1) ∧ ∀ i, (∀ o, o < m → i ≠ 51 + 12 * o + 2 ∧ i ≠ 51 + 12 * o + 5 ∧ i ≠ 51 + 12 * o + 6) → y 10 i = z 10 i) n 0 z (fun _ => ⟨fun _ _ => rfl, fun i hi => absurd hi (Nat.not_lt_zero i), fun _ _ => rfl⟩) (by
    intro k y _ hk hy hm
    obtain ⟨g1, g2, g3⟩ := hy (by omega)
    have e10 : bgc k (bgb k (bga k y)) 10 = upd (upd (upd (y 10) (51 + 12 * k + 2) (y 10 (51 + 12 * k + 1))) (51 + 12 * k + 5) (-1)) (51 + 12 * k + 6) (-1) := by
      unfold bgc bgb bga
      rw [va_s, va_s, va_s]
    refine ⟨fun i hi => ?_, fun o ho => ?_, fun i hi => ?_⟩
    · unfold bgc bgb bga
      rw [va_n hi, va_n hi, va_n hi]
      exact g1 i hi
    · rw [e10]
      by_cases d : o = k
      · subst d
        rw [upd_n (show 51 + 12 * o + 2 ≠ 51 + 12 * o + 6 by omega), upd_n (show 51 + 12 * o + 2 ≠ 51 + 12 * o + 5 by omega), upd_s, upd_n (show 51 + 12 * o + 5 ≠ 51 + 12 * o + 6 by omega), upd_s, upd_s]
        exact ⟨g3 _ (fun o' ho' => by omega), rfl, rfl⟩
      · rw [upd_n (by omega), upd_n (by omega), upd_n (by omega), upd_n (by omega), upd_n (by omega), upd_n (by omega), upd_n (by omega), upd_n (by omega), upd_n (by omega)]
        exact g2 o (by omega)
    · have := hi k (by omega)
      rw [e10, upd_n (by omega), upd_n (by omega), upd_n (by omega)]
      exact g3 i (fun o ho => hi o (by omega)))
  rw [Nat.zero_add] at inv
  exact inv (Nat.le_refl _)
theorem ob_e {n : Nat} {v : Nat → Nat → Int32} (w : Nat → Nat → Int32) (hv : v 0 0 = nI n) (hn : n ≤ 12) : ∃ u : Nat → Nat → Int32, qX2_beginAnew v w = some u ∧ (∀ k, k < n → u 11 k = if bt (v 1 0) k = true then 0 else 1) ∧ (∀ o, o < 12 → u 10 o = v 13 o ∧ u 12 o = 0 ∧ u 13 o = 0 ∧ u 14 o = -1 ∧ u 15 o = -1) ∧ u 16 0 = 0 ∧ u 17 0 = 0 ∧ ∀ i, i < 10 ∨ 17 < i → u i = w i := by
  obtain ⟨w1, hw1⟩ : ∃ w1 : Nat → Nat → Int32, w1 = va_up w 10 (kcpy 12 (v 13) (w 10)) := ⟨_, rfl⟩
  obtain ⟨w2, hw2⟩ : ∃ w2 : Nat → Nat → Int32, w2 = va_up w1 12 (kfill 12 0 (w1 12)) := ⟨_, rfl⟩
  obtain ⟨w3, hw3⟩ : ∃ w3 : Nat → Nat → Int32, w3 = va_up w2 13 (kfill 12 0 (w2 13)) := ⟨_, rfl⟩
  obtain ⟨w4, hw4⟩ : ∃ w4 : Nat → Nat → Int32, w4 = va_up w3 14 (kfill 12 (-1) (w3 14)) := ⟨_, rfl⟩
  obtain ⟨w5, hw5⟩ : ∃ w5 : Nat → Nat → Int32, w5 = va_up w4 15 (kfill 12 (-1) (w4 15)) := ⟨_, rfl⟩
  have key := lp (L := fun g i y => qX2_beginAnew_L48 v (fun (w_8 : Nat → Nat → Int32) => (bs (va_up w_8 16 (fun _ => 0)) fun w_12 => (bs (va_up w_12 17 (fun _ => 0)) fun w_13 => some w_13))) g i y) (N := n) (K := (fun (w_8 : Nat → Nat → Int32) => (bs (va_up w_8 16 (fun _ => 0)) fun w_12 => (bs (va_up w_12 17 (fun _ => 0)) fun w_13 => some w_13)))) (f := fun k y => va_up y 11 (upd (y 11) k (if bt (v 1 0) k = true then 0 else 1))) (fun _ _ => True) (by
    intro g k y hk _
    refine ⟨?_, trivial⟩
    show qX2_beginAnew_L48 v _ (g + 1) (nI k) y = qX2_beginAnew_L48 v _ g (nI (k + 1)) _
    rw [qX2_beginAnew_L48, hv, if_neg (nle hk (by omega)), isIn_e _ (show k < 32 by omega), bd_s]
    simp only [jn_e]
    rw [gdn (by omega) (by omega), gdn (by omega) (by omega), cl (by omega), bs_e, bs_e, p1]
    by_cases c : bt (v 1 0) k = true
    · rw [if_pos c, if_neg (show ¬ b01 (v 1 0) k = 0 by rw [b01_1.mpr c]; decide)]
    · rw [if_neg c, if_pos (b01_0.mpr (by cases h : bt (v 1 0) k
                                          · rfl
                                          · exact absurd h c))]) (by
    intro g y _
    show qX2_beginAnew_L48 v _ (g + 1) (nI n) y = _
    rw [qX2_beginAnew_L48, hv, if_pos (Int32.le_refl _)]) n fu 0 w5 (by omega) (by unfold fu; omega) trivial
  have inv := lfold_inv (f := fun k (y : Nat → Nat → Int32) => va_up y 11 (upd (y 11) k (if bt (v 1 0) k = true then 0 else 1))) (fun m y => (∀ i, i ≠ 11 → y i = w5 i) ∧ ∀ i, i < m → y 11 i = if bt (v 1 0) i = true then 0 else 1) n 0 w5 ⟨fun _ _ => rfl, fun i hi => absurd hi (Nat.not_lt_zero i)⟩ (by
    intro i y _ _ ⟨g1, g2⟩
    refine ⟨fun j hj => by rw [va_n hj]; exact g1 j hj, fun j hj => ?_⟩
    rw [va_s]
    by_cases d : j = i
    · subst d
      exact upd_s _ _ _
    · rw [upd_n d]
      exact g2 j (by omega))
  rw [Nat.zero_add] at inv
  obtain ⟨i1, i2⟩ := inv
  have hq : qX2_beginAnew v w = qX2_beginAnew_L48 v (fun (w_8 : Nat → Nat → Int32) => (bs (va_up w_8 16 (fun _ => 0)) fun w_12 => (bs (va_up w_12 17 (fun _ => 0)) fun w_13 => some w_13))) fu 0 w5 := by
    unfold qX2_beginAnew
    rw [bs_e, bs_e, bs_e, bs_e, bs_e, ← hw1, ← hw2, ← hw3, ← hw4, ← hw5]
  obtain ⟨u, hu⟩ : ∃ u : Nat → Nat → Int32, u = lfold (fun k (y : Nat → Nat → Int32) => va_up y 11 (upd (y 11) k (if bt (v 1 0) k = true then 0 else 1))) 0 n w5 := ⟨_, rfl⟩
  rw [← hu] at key i1 i2
  have hf : qX2_beginAnew v w = some (va_up (va_up u 16 (fun _ => 0)) 17 (fun _ => 0)) := by
    rw [hq]
    refine Eq.trans key ?_
    rw [bs_e, bs_e]
  refine ⟨_, hf, fun k hk => ?_, fun o ho => ⟨?_, ?_, ?_, ?_, ?_⟩, by rw [va_n (by omega), va_s], by rw [va_s], fun i hi => ?_⟩
  · rw [va_n (by omega), va_n (by omega)]
    exact i2 k hk
  · rw [va_n (by omega), va_n (by omega), i1 10 (by omega), hw5, va_n (by omega), hw4, va_n (by omega), hw3, va_n (by omega), hw2, va_n (by omega), hw1, va_s, kc_e ho]
  · rw [va_n (by omega), va_n (by omega), i1 12 (by omega), hw5, va_n (by omega), hw4, va_n (by omega), hw3, va_n (by omega), hw2, va_s, kf_e ho]
  · rw [va_n (by omega), va_n (by omega), i1 13 (by omega), hw5, va_n (by omega), hw4, va_n (by omega), hw3, va_s, kf_e ho]
  · rw [va_n (by omega), va_n (by omega), i1 14 (by omega), hw5, va_n (by omega), hw4, va_s, kf_e ho]
  · rw [va_n (by omega), va_n (by omega), i1 15 (by omega), hw5, va_s, kf_e ho]
  · rw [va_n (by omega), va_n (by omega), i1 i (by omega), hw5, va_n (by omega), hw4, va_n (by omega), hw3, va_n (by omega), hw2, va_n (by omega), hw1, va_n (by omega)]
theorem wb_e {n : Nat} {v : Nat → Nat → Int32} (w : Nat → Nat → Int32) (hv : v 0 0 = nI n) (hn : n ≤ 12) (h5 : v 5 0 = 0 ∨ v 5 0 = 1) : ∃ u : Nat → Nat → Int32, qX9_beginAnew v w = some u ∧ (u 0 0 = 0 ∧ u 1 0 = 0 ∧ u 2 0 = v 2 0 ∧ u 3 0 = v 3 0 ∧ u 4 0 = v 5 0 ∧ u 5 0 = 0 ∧ u 6 0 = 0 ∧ u 7 0 = 0) ∧ (∀ k, k < n → u 11 k = if bt (v 1 0) k = true then 0 else 1) ∧ (∀ o, o < 12 → u 10 o = v 13 o ∧ u 12 o = 0 ∧ u 13 o = 0 ∧ u 14 o = -1 ∧ u 15 o = -1) ∧ (∀ o, o < 12 → u 18 o = 0 ∧ u 19 o = 0 ∧ u 20 o = v 10 o ∧ u 23 o = -1 ∧ u 26 o = -1) ∧ (∀ k, k < 6 → u 32 k = 0 ∧ u 33 k = 0) ∧ (u 16 0 = 0 ∧ u 17 0 = 0 ∧ u 21 0 = 0 ∧ u 24 0 = 0 ∧ u 27 0 = 0 ∧ u 31 0 = 0 ∧ u 34 0 = 0 ∧ u 35 0 = 0) := by
  have hg : narrow .boolean (.int (v 5 0)) = .int (v 5 0) ∧ fits .boolean (.int (v 5 0)) = true := by
    rcases h5 with e | e
    · rw [e]
      exact ⟨rfl, rfl⟩
    · rw [e]
      exact ⟨rfl, rfl⟩
  obtain ⟨w8, hw8⟩ : ∃ w8 : Nat → Nat → Int32, w8 = va_up (va_up (va_up (va_up (va_up (va_up (va_up (va_up w 0 (fun _ => 0)) 1 (fun _ => 0)) 2 (fun _ => (v 2 0))) 3 (fun _ => (v 3 0))) 4 (fun _ => (v 5 0))) 5 (fun _ => 0)) 6 (fun _ => 0)) 7 (fun _ => 0) := ⟨_, rfl⟩
  obtain ⟨u, a1, a2, a3, a4, a5, a6⟩ := ob_e w8 hv hn
  unfold qX9_beginAnew
  rw [bs_e, bs_e, bs_e, bs_e, gd_t hg, bs_e, bs_e, bs_e, bs_e, ← hw8, a1, bd_s]
  unfold qX3_beginAnew
  rw [forgetL_e, bd_s]
  unfold qX3_losePower qX1_clear_p qX8_beginAnew
  simp only [bs_e, bd_s]
  refine ⟨_, rfl, ⟨?_, ?_, ?_, ?_, ?_, ?_, ?_, ?_⟩, fun k hk => ?_, fun o ho => ?_, fun o ho => ?_, fun k hk => ?_, ?_⟩
  · simp (disch := omega) only [fgW, va_n]
    rw [a6 0 (by omega), hw8]
    rfl
  · simp (disch := omega) only [fgW, va_n]
    rw [a6 1 (by omega), hw8]
    rfl
  · simp (disch := omega) only [fgW, va_n]
    rw [a6 2 (by omega), hw8]
    rfl
  · simp (disch := omega) only [fgW, va_n]
    rw [a6 3 (by omega), hw8]
    rfl
  · simp (disch := omega) only [fgW, va_n]
    rw [a6 4 (by omega), hw8]
    rfl
  · simp (disch := omega) only [fgW, va_n]
    rw [a6 5 (by omega), hw8]
    rfl
  · simp (disch := omega) only [fgW, va_n]
    rw [a6 6 (by omega), hw8]
    rfl
  · simp (disch := omega) only [fgW, va_n]
    rw [a6 7 (by omega), hw8]
    rfl
  · simp (disch := omega) only [fgW, va_n]
    exact a2 k hk
  · simp (disch := omega) only [fgW, va_n]
    exact a3 o ho
  · simp (disch := omega) only [fgW, va_n, va_s, kf_e, kc_e]
    refine ⟨?_, ?_, ?_, ?_, ?_⟩ <;> trivial
  · simp (disch := omega) only [fgW, va_n, va_s, kf_e]
    refine ⟨?_, ?_⟩ <;> trivial
  · simp (disch := omega) only [fgW, va_n, va_s]
    refine ⟨a4, a5, ?_, ?_, ?_, ?_, ?_, ?_⟩ <;> trivial
