-- many ticks
theorem pl_c {v : Nat → Nat → Int32} {z : Nat → Nat → Int32} {n : Nat} {z2 : Nat → Nat → Int32} (hp : Pl v z n) (h : ∀ i, 1 ≤ i → i ≤ 8 → z2 i = z i) : Pl v z2 n := by
  refine ⟨hp.hn, hp.v0, ?_, ?_, ?_, ?_, ?_, ?_, hp.bst, hp.bin, hp.bpk, ?_, ?_, ?_⟩
  · rw [h 1 (by omega) (by omega)]
    exact hp.z1
  · rw [h 5 (by omega) (by omega)]
    exact hp.steady
  · rw [h 5 (by omega) (by omega)]
    exact hp.inrush
  · rw [h 5 (by omega) (by omega)]
    exact hp.peak
  · rw [h 5 (by omega) (by omega)]
    exact hp.ticks
  · rw [h 6 (by omega) (by omega)]
    exact hp.needed
  · rw [h 3 (by omega) (by omega), h 7 (by omega) (by omega)]
    exact hp.script
  · rw [h 4 (by omega) (by omega), h 8 (by omega) (by omega)]
    exact hp.darks
  · rw [h 2 (by omega) (by omega)]
    exact hp.need
theorem peak_up1 {pk x : Int32} (h : 0 ≤ pk) : 0 ≤ (if pk < x then x else pk) := by
  by_cases e : pk < x
  · rw [if_pos e]
    exact Int32.le_trans h (Int32.le_of_lt e)
  · rw [if_neg e]
    exact h
theorem peak_up {pk : Int32 × Int32} {x : Int32} (h : 0 ≤ pk.1 ∧ 0 ≤ pk.2) : 0 ≤ (up2 pk x).1 ∧ 0 ≤ (up2 pk x).2 := ⟨peak_up1 h.1, peak_up1 h.2⟩
theorem pass1 {v : Nat → Nat → Int32} {z : Nat → Nat → Int32} {w : Nat → Nat → Int32} {r : Nat → Int32} {n : Nat} {t : Nat} {s : Nat} {c : Nat} {p : Nat} {l : Nat} {f : Nat} {pk : Int32 × Int32} (hp : Pl v z n) (h : Ev v n t s c p l f pk w r) (hi : Iv n t s c p l f w) (hs : s ≤ 72 * t) (ht : t + 1 ≤ 6000) (hpk : 0 ≤ pk.1 ∧ 0 ≤ pk.2) : ∃ w2 r2 x s2 c2 p2 l2, qX9_passTick v w = some w2 ∧ qX11_ticks z r = some (x, r2) ∧
    Ev v n (t + 1) s2 c2 p2 l2 f (up2 pk x) w2 r2 ∧ Iv n (t + 1) s2 c2 p2 l2 f w2 ∧ s2 ≤ 72 * (t + 1) := tick_e hp h hi hs ht hpk
/-- a world and a row, some of whose numbers are left open -/
def Sw (v : Nat → Nat → Int32) (n t f : Nat) (pk : Int32 × Int32) (w : Nat → Nat → Int32) (r : Nat → Int32) : Prop := ∃ s c p l, Ev v n t s c p l f pk w r ∧ Iv n t s c p l f w ∧ s ≤ 72 * t ∧ 0 ≤ pk.1 ∧ 0 ≤ pk.2
theorem sw_tick {v : Nat → Nat → Int32} {z : Nat → Nat → Int32} {w : Nat → Nat → Int32} {r : Nat → Int32} {n : Nat} {t : Nat} {f : Nat} {pk : Int32 × Int32} (hp : Pl v z n) (h : Sw v n t f pk w r) (ht : t + 1 ≤ 6000) : ∃ w2 r2 x, qX9_passTick v w = some w2 ∧ qX11_ticks z r = some (x, r2) ∧ Sw v n (t + 1) f (up2 pk x) w2 r2 := by
  obtain ⟨s, c, p, l, h1, h2, h3, h4⟩ := h
  obtain ⟨w2, r2, x, s2, c2, p2, l2, a1, a2, a3, a4, a5⟩ := tick_e hp h1 h2 h3 ht h4
  exact ⟨w2, r2, x, a1, a2, s2, c2, p2, l2, a3, a4, a5, peak_up h4⟩
theorem sw_now {v : Nat → Nat → Int32} {z : Nat → Nat → Int32} {w : Nat → Nat → Int32} {n : Nat} {t : Nat} {f : Nat} {m : Nat} {y : Int32} (K : (Nat → Nat → Int32) → Option (Int32 × (Nat → Nat → Int32))) (hp : Pl v z n) (h : Sw v n t f (y, y) w (z 10)) (ht : t + m ≤ 6000) (hm : m < 4000) : ∃ w2 z2 y2, qX9_passTicks v w (nI m) = some w2 ∧ qX11_run_L57 (nI m) K fu 0 z = K z2 ∧ (∀ i, i ≠ 10 → z2 i = z i) ∧ Sw v n (t + m) f (y2, y2) w2 (z2 10) := by
  have := lpp (L1 := fun g i w => qX9_passTicks_L2 v (nI m) (fun (w_4 : Nat → Nat → Int32) => some w_4) g i w) (L2 := fun g i z => qX11_run_L57 (nI m) K g i z) (K1 := fun w => some w) (K2 := K) (N := m)
    (fun k w z2 => (∀ i, i ≠ 10 → z2 i = z i) ∧ ∃ y2, Sw v n (t + k) f (y2, y2) w (z2 10)) (by
      intro k w z2 hk ⟨h1, y2, h2⟩
      obtain ⟨w3, r3, x, a1, a2, a3⟩ := sw_tick (pl_c hp (fun i b1 b2 => h1 i (by omega))) h2 (by omega)
      refine ⟨w3, va_up z2 10 r3, fun g => ?_, fun g => ?_, fun i hi => by rw [va_n hi, h1 i hi], (if y2 < x then x else y2), by rw [va_s]; exact a3⟩
      · show qX9_passTicks_L2 v (nI m) _ (g + 1) (nI k) w = _
        rw [qX9_passTicks_L2, if_neg (nle hk (by omega)), a1, bd_s, p1]
      · show qX11_run_L57 (nI m) K (g + 1) (nI k) z2 = _
        rw [qX11_run_L57, if_neg (nle hk (by omega)), a2, bd2_s, bs_e, p1]) (by
      intro g w z2 _
      constructor
      · show qX9_passTicks_L2 v (nI m) _ (g + 1) (nI m) w = _
        rw [qX9_passTicks_L2, if_pos (Int32.le_refl _)]
      · show qX11_run_L57 (nI m) K (g + 1) (nI m) z2 = _
        rw [qX11_run_L57, if_pos (Int32.le_refl _)]) m fu fu 0 w z (by omega) hm hm ⟨fun i _ => rfl, y, h⟩
  obtain ⟨w2, z2, a1, a2, a3, y2, a4⟩ := this
  exact ⟨w2, z2, y2, a1, a2, a3, a4⟩
theorem sw_sent {v : Nat → Nat → Int32} {z : Nat → Nat → Int32} {w : Nat → Nat → Int32} {n : Nat} {t : Nat} {f : Nat} {m : Nat} {pk : Int32 × Int32} (K : (Nat → Nat → Int32) → Option (Int32 × (Nat → Nat → Int32))) (hp : Pl v z n) (h : Sw v n t f pk w (z 11)) (ht : t + m ≤ 6000) (hm : m < 4000) : ∃ w2 z2 pk2, qX9_passTicks v w (nI m) = some w2 ∧ qX11_sentIn_L53 (nI m) K fu 0 z = K z2 ∧ (∀ i, i ≠ 11 → z2 i = z i) ∧ Sw v n (t + m) f pk2 w2 (z2 11) := by
  have := lpp (L1 := fun g i w => qX9_passTicks_L2 v (nI m) (fun (w_4 : Nat → Nat → Int32) => some w_4) g i w) (L2 := fun g i z => qX11_sentIn_L53 (nI m) K g i z) (K1 := fun w => some w) (K2 := K) (N := m)
    (fun k w z2 => (∀ i, i ≠ 11 → z2 i = z i) ∧ ∃ pk2, Sw v n (t + k) f pk2 w (z2 11)) (by
      intro k w z2 hk ⟨h1, pk2, h2⟩
      obtain ⟨w3, r3, x, a1, a2, a3⟩ := sw_tick (pl_c hp (fun i b1 b2 => h1 i (by omega))) h2 (by omega)
      refine ⟨w3, va_up z2 11 r3, fun g => ?_, fun g => ?_, fun i hi => by rw [va_n hi, h1 i hi], _, by rw [va_s]; exact a3⟩
      · show qX9_passTicks_L2 v (nI m) _ (g + 1) (nI k) w = _
        rw [qX9_passTicks_L2, if_neg (nle hk (by omega)), a1, bd_s, p1]
      · show qX11_sentIn_L53 (nI m) K (g + 1) (nI k) z2 = _
        rw [qX11_sentIn_L53, if_neg (nle hk (by omega)), a2, bd2_s, bs_e, p1]) (by
      intro g w z2 _
      constructor
      · show qX9_passTicks_L2 v (nI m) _ (g + 1) (nI m) w = _
        rw [qX9_passTicks_L2, if_pos (Int32.le_refl _)]
      · show qX11_sentIn_L53 (nI m) K (g + 1) (nI m) z2 = _
        rw [qX11_sentIn_L53, if_pos (Int32.le_refl _)]) m fu fu 0 w z (by omega) hm hm ⟨fun i _ => rfl, pk, h⟩
  obtain ⟨w2, z2, a1, a2, a3, pk2, a4⟩ := this
  exact ⟨w2, z2, pk2, a1, a2, a3, a4⟩
theorem sw_peak {v : Nat → Nat → Int32} {z : Nat → Nat → Int32} {w : Nat → Nat → Int32} {n : Nat} {t : Nat} {f : Nat} {m : Nat} {pk : Int32 × Int32} (K : Int32 → (Nat → Nat → Int32) → Option (Int32 × (Nat → Nat → Int32))) (hp : Pl v z n) (h : Sw v n t f pk w (z 11)) (ht : t + m ≤ 6000) (hm : m < 4000) : ∃ w2 z2 pk2, qX9_passTicks v w (nI m) = some w2 ∧ qX11_peakIn_L56 (nI m) K fu pk.1 0 z = K pk2.1 z2 ∧ (∀ i, i ≠ 11 → z2 i = z i) ∧ Sw v n (t + m) f pk2 w2 (z2 11) := by
  have := lpp (L1 := fun g i w => qX9_passTicks_L2 v (nI m) (fun (w_4 : Nat → Nat → Int32) => some w_4) g i w) (L2 := fun g i (u : (Int32 × Int32) × (Nat → Nat → Int32)) => qX11_peakIn_L56 (nI m) K g u.1.1 i u.2) (K1 := fun w => some w) (K2 := fun u => K u.1.1 u.2) (N := m)
    (fun k w u => (∀ i, i ≠ 11 → u.2 i = z i) ∧ Sw v n (t + k) f u.1 w (u.2 11)) (by
      intro k w ⟨pk2, z2⟩ hk ⟨h1, h2⟩
      obtain ⟨w3, r3, x, a1, a2, a3⟩ := sw_tick (pl_c hp (fun i b1 b2 => h1 i (by omega))) h2 (by omega)
      refine ⟨w3, (up2 pk2 x, va_up z2 11 r3), fun g => ?_, fun g => ?_, fun i hi => by show va_up z2 11 r3 i = _; rw [va_n hi]; exact h1 i hi, by show Sw v n (t + (k + 1)) f _ w3 (va_up z2 11 r3 11); rw [va_s]; exact a3⟩
      · show qX9_passTicks_L2 v (nI m) _ (g + 1) (nI k) w = _
        rw [qX9_passTicks_L2, if_neg (nle hk (by omega)), a1, bd_s, p1]
      · show qX11_peakIn_L56 (nI m) K (g + 1) pk2.1 (nI k) z2 = qX11_peakIn_L56 (nI m) K g (if pk2.1 < x then x else pk2.1) (nI (k + 1)) (va_up z2 11 r3)
        rw [qX11_peakIn_L56, if_neg (nle hk (by omega)), a2, bd2_s, bs_e, p1, jn_e]
        by_cases e : x ≤ pk2.1
        · rw [if_pos e, if_neg (Int32.not_lt.mpr e)]
        · rw [if_neg e, if_pos (Int32.not_le.mp e)]) (by
      intro g w u _
      constructor
      · show qX9_passTicks_L2 v (nI m) _ (g + 1) (nI m) w = _
        rw [qX9_passTicks_L2, if_pos (Int32.le_refl _)]
      · show qX11_peakIn_L56 (nI m) K (g + 1) u.1.1 (nI m) u.2 = _
        rw [qX11_peakIn_L56, if_pos (Int32.le_refl _)]) m fu fu 0 w (pk, z) (by omega) hm hm ⟨fun i _ => rfl, h⟩
  obtain ⟨w2, u2, a1, a2, a3, a4⟩ := this
  exact ⟨w2, u2.2, u2.1, a1, a2, a3, a4⟩
