-- undo, save, restore
theorem back_e {z : Nat → Nat → Int32} {m : Nat} (hm : m < 8) (h : z 15 0 = nI m) (K : (Nat → Nat → Int32) → Option (Int32 × (Nat → Nat → Int32))) : ∃ z2 : Nat → Nat → Int32, qX11_undo_L39 K fu 0 z = K z2 ∧ (∀ i, i ≠ 10 → z2 i = z i) ∧ (∀ i, i < 411 → z2 10 i = z 12 (411 * m + i)) := by
  refine ⟨lfold (fun k (u : Nat → Nat → Int32) => va_up u 10 (upd (u 10) k (u 12 (411 * m + k)))) 0 411 z, ?_, ?_⟩
  · refine lp (L := fun g i u => qX11_undo_L39 K g i u) (N := 411) (K := K) (fun _ u => u 15 0 = nI m) ?_ ?_ 411 fu 0 z (by omega) (by unfold fu; omega) h
    · intro g k u hk hu
      refine ⟨?_, by rw [va_n (by omega)]; exact hu⟩
      show qX11_undo_L39 K (g + 1) (nI k) u = _
      rw [qX11_undo_L39, if_neg (show ¬ (411 : Int32) ≤ nI k from nle (a := 411) hk (by omega)), hu, m411, nI_add, gdn (by omega) (by omega), gdn (by omega) (by omega), cl (by omega), cl (by omega), bs_e, p1]
    · intro g u hu
      show qX11_undo_L39 K (g + 1) (nI 411) u = _
      rw [qX11_undo_L39, if_pos (show (411 : Int32) ≤ nI 411 from Int32.le_refl _)]
  · have := lfold_inv (f := fun k (u : Nat → Nat → Int32) => va_up u 10 (upd (u 10) k (u 12 (411 * m + k)))) (fun b u => (∀ i, i ≠ 10 → u i = z i) ∧ (∀ i, i < b → u 10 i = z 12 (411 * m + i))) 411 0 z ⟨fun i _ => rfl, fun i hi => by omega⟩ (by
      intro b u _ _ ⟨h1, h2⟩
      refine ⟨fun i hi => ?_, fun i hi => ?_⟩
      · show va_up u 10 _ i = _
        rw [va_n hi, h1 i hi]
      · show va_up u 10 _ 10 _ = _
        rw [va_s]
        by_cases e : i = b
        · rw [e, upd_s, h1 12 (by omega)]
        · rw [upd_n e, h2 i (by omega)])
    rw [Nat.zero_add] at this
    exact this
theorem put_e {z : Nat → Nat → Int32} {m : Nat} (hm : m < 2) (K : (Nat → Nat → Int32) → Option (Nat → Nat → Int32)) : ∃ z2 : Nat → Nat → Int32, qX11_save_L20 (nI m) K fu 0 z = K z2 ∧ (∀ i, i ≠ 13 → z2 i = z i) ∧ (∀ i, i < 411 → z2 13 (411 * m + i) = z 10 i) ∧ ∀ i, i < 411 * m ∨ 411 * m + 411 ≤ i → z2 13 i = z 13 i := by
  refine ⟨lfold (fun k (u : Nat → Nat → Int32) => va_up u 13 (upd (u 13) (411 * m + k) (u 10 k))) 0 411 z, ?_, ?_⟩
  · refine lp (L := fun g i u => qX11_save_L20 (nI m) K g i u) (N := 411) (K := K) (fun _ _ => True) ?_ ?_ 411 fu 0 z (by omega) (by unfold fu; omega) trivial
    · intro g k u hk _
      refine ⟨?_, trivial⟩
      show qX11_save_L20 (nI m) K (g + 1) (nI k) u = _
      rw [qX11_save_L20, if_neg (show ¬ (411 : Int32) ≤ nI k from nle (a := 411) hk (by omega)), m411, nI_add, gdn (by omega) (by omega), gdn (by omega) (by omega), cl (by omega), cl (by omega), bs_e, p1]
    · intro g u _
      show qX11_save_L20 (nI m) K (g + 1) (nI 411) u = _
      rw [qX11_save_L20, if_pos (show (411 : Int32) ≤ nI 411 from Int32.le_refl _)]
  · have := lfold_inv (f := fun k (u : Nat → Nat → Int32) => va_up u 13 (upd (u 13) (411 * m + k) (u 10 k))) (fun b u => (∀ i, i ≠ 13 → u i = z i) ∧ (∀ i, i < b → u 13 (411 * m + i) = z 10 i) ∧ ∀ i, i < 411 * m ∨ 411 * m + 411 ≤ i → u 13 i = z 13 i) 411 0 z ⟨fun i _ => rfl, fun i hi => by omega, fun i _ => rfl⟩ (by
      intro b u _ hb ⟨h1, h2, h3⟩
      refine ⟨fun i hi => ?_, fun i hi => ?_, fun i hi => ?_⟩
      · show va_up u 13 _ i = _
        rw [va_n hi, h1 i hi]
      · show va_up u 13 _ 13 _ = _
        rw [va_s]
        by_cases e : i = b
        · rw [e, upd_s, h1 10 (by omega)]
        · rw [upd_n (by omega), h2 i (by omega)]
      · show va_up u 13 _ 13 i = _
        rw [va_s, upd_n (by omega), h3 i hi])
    rw [Nat.zero_add] at this
    exact this
theorem take_e {z : Nat → Nat → Int32} {m : Nat} (hm : m < 2) (K : (Nat → Nat → Int32) → Option (Nat → Nat → Int32)) : ∃ z2 : Nat → Nat → Int32, qX11_restore_L34 (nI m) K fu 0 z = K z2 ∧ (∀ i, i ≠ 10 → z2 i = z i) ∧ (∀ i, i < 411 → z2 10 i = z 13 (411 * m + i)) := by
  refine ⟨lfold (fun k (u : Nat → Nat → Int32) => va_up u 10 (upd (u 10) k (u 13 (411 * m + k)))) 0 411 z, ?_, ?_⟩
  · refine lp (L := fun g i u => qX11_restore_L34 (nI m) K g i u) (N := 411) (K := K) (fun _ _ => True) ?_ ?_ 411 fu 0 z (by omega) (by unfold fu; omega) trivial
    · intro g k u hk _
      refine ⟨?_, trivial⟩
      show qX11_restore_L34 (nI m) K (g + 1) (nI k) u = _
      rw [qX11_restore_L34, if_neg (show ¬ (411 : Int32) ≤ nI k from nle (a := 411) hk (by omega)), m411, nI_add, gdn (by omega) (by omega), gdn (by omega) (by omega), cl (by omega), cl (by omega), bs_e, p1]
    · intro g u _
      show qX11_restore_L34 (nI m) K (g + 1) (nI 411) u = _
      rw [qX11_restore_L34, if_pos (show (411 : Int32) ≤ nI 411 from Int32.le_refl _)]
  · have := lfold_inv (f := fun k (u : Nat → Nat → Int32) => va_up u 10 (upd (u 10) k (u 13 (411 * m + k)))) (fun b u => (∀ i, i ≠ 10 → u i = z i) ∧ (∀ i, i < b → u 10 i = z 13 (411 * m + i))) 411 0 z ⟨fun i _ => rfl, fun i hi => by omega⟩ (by
      intro b u _ _ ⟨h1, h2⟩
      refine ⟨fun i hi => ?_, fun i hi => ?_⟩
      · show va_up u 10 _ i = _
        rw [va_n hi, h1 i hi]
      · show va_up u 10 _ 10 _ = _
        rw [va_s]
        by_cases e : i = b
        · rw [e, upd_s, h1 13 (by omega)]
        · rw [upd_n e, h2 i (by omega)])
    rw [Nat.zero_add] at this
    exact this
/-- the relation after the world, its history's count and slots have changed -/
theorem smn_h {v : Nat → Nat → Int32} {z : Nat → Nat → Int32} {n : Nat} {tx ps hs hs2 : Nat → Nat → Int32} {vn : Nat → Int64} {ww ww2 : Nat → Nat → Nat → Int32} {z2 : Nat → Nat → Int32} (h : Smn n tx ps v vn hs ww z) (hz : ∀ i, (1 ≤ i ∧ i ≤ 9) ∨ i = 16 ∨ i = 23 ∨ i = 28 ∨ i = 29 → z2 i = z i) (hN : Now v n (ww2 0) (z2 10)) (hH : His v n hs2 ww2 z2) : Smn n tx ps v vn hs2 ww2 z2 := by
  obtain ⟨h1, h2, h3, h4, h5, h6, h7⟩ := h
  refine ⟨pl_c h1 (fun i b1 b2 => hz i (by omega)), hN, hH, ?_, ?_, ?_, ?_⟩
  · unfold Txt at h4 ⊢
    rw [hz 23 (by omega), hz 16 (by omega)]
    exact h4
  · unfold Nam at h5 ⊢
    rw [hz 9 (by omega)]
    exact h5
  · rw [hz 28 (by omega)]
    exact h6
  · rw [hz 29 (by omega)]
    exact h7
theorem st_undo : St_undo Sim := by
  intro tx ps nm v vn hs ww z ⟨n, h⟩
  have h0 := smn_0 h
  have hz := z0_0 z
  have hzz : va_up z 0 (fun _ => 0) = z0 z := rfl
  obtain ⟨o, c, ho, hc, e0, e1, e2, hk⟩ := h0.his.ring
  unfold qX11_undo qX10_undo
  rw [bs_e, hzz, jn_e, e2, e1]
  by_cases c0 : c = 0
  · subst c0
    rw [if_pos (show nI 0 ≤ 0 from Int32.le_refl _), if_pos (show nI 0 = 0 from rfl)]
    dsimp only
    rw [may0 hz (by decide), bd2_s, if_pos rfl]
    exact ⟨1, 0, hs, ww, 0, _, rfl, rfl, Or.inr ⟨rfl, by rw [va_s]⟩, n, smn_e h0 _⟩
  · obtain ⟨d, rfl⟩ : ∃ d, c = d + 1 := ⟨c - 1, by omega⟩
    rw [if_neg (nI_nle (by omega) (by omega)), if_neg (nI_ne0 (by omega) (by omega))]
    dsimp only
    rw [may1 hz, bd2_s, if_neg (show ¬ (1 : Int32) = 0 by decide), bs_e, e2, nI_pred]
    obtain ⟨z3, t1, t2, t3⟩ := back_e (z := va_up (z0 z) 15 (fun _ => nI d)) (m := d) (by omega) (by rw [va_s]) (fun (z_8 : Nat → Nat → Int32) => some ((z_8 15 0), z_8))
    obtain ⟨u, u1, u2⟩ := now_copy (w2 := ww 0) (r2 := z3 10) (hk d (by omega)) (fun i hi => by rw [t3 i hi, va_n (by omega)])
    have hlt : (o + d) % 8 < 8 := Nat.mod_lt _ (by omega)
    have hC : qX0_takeBack hs ww = some (va_up hs 1 (fun _ => nI d), va_up ww 0 u) := by
      unfold qX0_takeBack
      rw [e1, if_neg (nI_nle (by omega) (by omega)), nI_pred, bs_e, va_n (by omega), va_s, e0, nI_add, and7 _ (by omega), gdn (by omega) (by omega), cl (by omega), u1, bd_s, bs_e]
    have h15 : z3 15 0 = nI d := by rw [t2 15 (by omega), va_s]
    rw [hC, bd2_s, t1, va_s]
    refine ⟨0, _, _, _, _, z3, rfl, rfl, Or.inl ⟨rfl, by rw [t2 0 (by omega), va_n (by omega)]; exact hz, h15.symm⟩, n, smn_h h0 (fun i hi => by rw [t2 i (by omega), va_n (by omega)]) (by rw [va_s]; exact u2) ⟨⟨o, d, ho, by omega, by rw [va_n (by omega), e0], by rw [va_s], h15, fun k hk2 => ?_⟩, ?_, ?_⟩⟩
    · rw [va_n (by omega), t2 12 (by omega), va_n (by omega)]
      exact hk k (by omega)
    · rw [t2 14 (by omega), va_n (by omega), va_n (by omega)]
      exact h0.his.flag
    · intro k hk2 hb
      rw [va_n (by omega)] at hb
      rw [va_n (by omega), t2 13 (by omega), va_n (by omega)]
      exact h0.his.slot k hk2 hb
