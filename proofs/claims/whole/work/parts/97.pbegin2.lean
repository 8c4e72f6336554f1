-- everything begins anew on both sides
theorem d1_v {n : Nat} {nm nm' : Nat → Int64} {a6 a15 a16 a17 a18 a20 y18 y19 y22 y30 y31 b6 b15 b16 b17 b18 b20 : Nat → Int32} (h : D1 n nm a6 a15 a16 a17 a18 a20 y18 y19 y22 y30 y31) (h6 : b6 0 = a6 0) (h15 : ∀ o, o < 12 → b15 o = a15 o) (h16 : ∀ o, o < 12 → b16 o = a16 o) (h17 : ∀ o, o < 12 → b17 o = a17 o) (h18 : ∀ o, o < 12 → b18 o = a18 o) (h20 : ∀ o, o < 12 → b20 o = a20 o) (hm : ∀ o, o < 12 → nm' o = nm o) : D1 n nm' b6 b15 b16 b17 b18 b20 y18 y19 y22 y30 y31 := by
  have hn := h.n12
  refine ⟨hn, by rw [h6]; exact h.p6, h.z30, fun o ho => ?_, fun o ho => ?_, fun o ho => ?_, fun o ho => ?_, ?_, fun o ho => ?_⟩
  · rw [h15 o (by omega), h16 o (by omega), h17 o (by omega), h18 o (by omega)]
    exact h.four o ho
  · rw [h15 o (by omega), h16 o (by omega), h17 o (by omega)]
    exact h.rng o ho
  · rw [h20 o (by omega)]
    exact h.need o ho
  · rw [h20 o (by omega)]
    exact h.neb o ho
  · rw [sumf_g (f := fun o => pop (a20 o)) (fun o ho => by rw [h20 o (by omega)])]
    exact h.many
  · rw [hm o (by omega)]
    exact h.name o ho
theorem d2_v {n : Nat} {a7 a8 a9 a10 a11 a19 y b7 b8 b9 b10 b11 b19 : Nat → Int32} (h : D2 n a7 a8 a9 a10 a11 a19 y) (hn : n ≤ 12) (h7 : b7 0 = a7 0) (h8 : b8 0 = a8 0) (h9 : b9 0 = a9 0) (h10 : b10 0 = a10 0) (h11 : b11 0 = a11 0) (h19 : ∀ o, o < 12 → b19 o = a19 o) : D2 n b7 b8 b9 b10 b11 b19 y := by
  refine ⟨fun o ho => ?_, ?_, ?_, ?_, ?_, ?_, ?_, ?_, ?_, h.zero⟩
  · rw [h19 o (by omega)]
    exact h.prio o ho
  · rw [h7]
    exact h.want
  · rw [h7]
    exact h.off
  · rw [h8]
    exact h.fuse
  · rw [h9]
    exact h.retry
  · rw [h10]
    exact h.pat
  · rw [h11]
    exact h.strict
  · rw [h8]
    exact h.fb
  · rw [h11]
    exact h.s01
theorem begin_e {n : Nat} {vn : Nat → Int64} {v z : Nat → Nat → Int32} (hD : DrV n vn v z) (w : Nat → Nat → Int32) : ∃ w2 z2 : Nat → Nat → Int32, qX9_beginAnew v w = some w2 ∧ qX11_begins z = some z2 ∧ Pl v z2 n ∧ Now v n w2 (z2 10) ∧ Nam n vn z2 ∧ z2 15 0 = 0 ∧ z2 14 0 = 0 ∧ z2 14 1 = 0 ∧ z2 1 0 = nI n ∧ ∀ i, i = 0 ∨ 16 ≤ i → z2 i = z i := by
  obtain ⟨h1, h2, h3, h4⟩ := hD
  have hn := h1.n12
  obtain ⟨u, a1, ⟨u0, u1, u2, u3, u4, u5, u6, u7⟩, u11, uo, up, uk, u16, u17, u21, u24, u27, u31, u34, u35⟩ := wb_e w h1.p6 hn h2.s01
  obtain ⟨z4, hz4⟩ : ∃ z4 : Nat → Nat → Int32, z4 = va_up (va_up (va_up (va_up z 1 (fun _ => z 30 0)) 2 (fun _ => z 31 0)) 3 (fun _ => z 32 0)) 4 (fun _ => z 33 0) := ⟨_, rfl⟩
  obtain ⟨y5, k5, f5, g5⟩ := bg5_e z4
  obtain ⟨y6, k6, f6, g6⟩ := bg6_e y5
  obtain ⟨y7, k7, f7, g7⟩ := bg7_e y6
  obtain ⟨y8, k8, f8, g8⟩ := bg8_e y7
  obtain ⟨y9, k9, f9, g9⟩ := bg9_e y8
  obtain ⟨yA, kA', fA, gA⟩ := bg10_e y9
  have fr : ∀ i, i = 0 ∨ 16 ≤ i → yA i = z i := by
    intro i hi
    rw [fA i (by omega), f9 i (by omega), f8 i (by omega), f7 i (by omega), f6 i (by omega), f5 i (by omega), hz4, va_n (by omega), va_n (by omega), va_n (by omega), va_n (by omega)]
  have fs : ∀ i, i < 5 → yA i = z4 i := by
    intro i hi
    rw [fA i (by omega), f9 i (by omega), f8 i (by omega), f7 i (by omega), f6 i (by omega), f5 i (by omega)]
  have hA1 : yA 1 0 = nI n := by rw [fs 1 (by omega), hz4, va_n (by omega), va_n (by omega), va_n (by omega), va_s]; exact h1.z30
  obtain ⟨yB, kB, fB, gB, eB⟩ := bgl_e yA hA1 hn
  obtain ⟨zF, hzF⟩ : ∃ zF : Nat → Nat → Int32, zF = va_up (va_up (va_up yB 15 (fun _ => 0)) 14 (upd ((va_up yB 15 (fun _ => 0)) 14) 0 (vp_nar .boolean 0))) 14 (upd ((va_up (va_up yB 15 (fun _ => 0)) 14 (upd ((va_up yB 15 (fun _ => 0)) 14) 0 (vp_nar .boolean 0))) 14) 1 (vp_nar .boolean 0)) := ⟨_, rfl⟩
  have hR : qX11_begins z = some zF := by
    unfold qX11_begins
    rw [bs_e, bs_e, bs_e, bs_e, va_n (show (31 : Nat) ≠ 1 by omega), va_n (show (32 : Nat) ≠ 2 by omega), va_n (show (32 : Nat) ≠ 1 by omega), va_n (show (33 : Nat) ≠ 3 by omega), va_n (show (33 : Nat) ≠ 2 by omega), va_n (show (33 : Nat) ≠ 1 by omega), ← hz4, k5, k6, k7, k8, k9, kA', kB, bs_e, bs_e, bs_e, ← hzF]
  have fF : ∀ i, i ≠ 14 → i ≠ 15 → zF i = yB i := fun i c1 c2 => by rw [hzF, va_n c1, va_n c1, va_n c2]
  have src : ∀ i, 16 ≤ i → y9 i = z i ∧ y8 i = z i ∧ y7 i = z i ∧ y6 i = z i ∧ y5 i = z i ∧ z4 i = z i := by
    intro i hi
    have e4 : z4 i = z i := by rw [hz4, va_n (by omega), va_n (by omega), va_n (by omega), va_n (by omega)]
    have e5 : y5 i = z i := by rw [f5 i (by omega), e4]
    have e6 : y6 i = z i := by rw [f6 i (by omega), e5]
    have e7 : y7 i = z i := by rw [f7 i (by omega), e6]
    have e8 : y8 i = z i := by rw [f8 i (by omega), e7]
    have e9 : y9 i = z i := by rw [f9 i (by omega), e8]
    exact ⟨e9, e8, e7, e6, e5, e4⟩
  have r5 : ∀ k, k < 48 → zF 5 k = z 18 k := by
    intro k hk
    rw [fF 5 (by omega) (by omega), fB 5 (by omega), fA 5 (by omega), f9 5 (by omega), f8 5 (by omega), f7 5 (by omega), f6 5 (by omega), g5 k hk, (src 18 (by omega)).2.2.2.2.2]
  have r6 : ∀ k, k < 12 → zF 6 k = z 19 k := by
    intro k hk
    rw [fF 6 (by omega) (by omega), fB 6 (by omega), fA 6 (by omega), f9 6 (by omega), f8 6 (by omega), f7 6 (by omega), g6 k hk, (src 19 (by omega)).2.2.2.2.1]
  have r7 : ∀ k, k < 24 → zF 7 k = z 20 k := by
    intro k hk
    rw [fF 7 (by omega) (by omega), fB 7 (by omega), fA 7 (by omega), f9 7 (by omega), f8 7 (by omega), g7 k hk, (src 20 (by omega)).2.2.2.1]
  have r8 : ∀ k, k < 8 → zF 8 k = z 21 k := by
    intro k hk
    rw [fF 8 (by omega) (by omega), fB 8 (by omega), fA 8 (by omega), f9 8 (by omega), g8 k hk, (src 21 (by omega)).2.2.1]
  have r9 : ∀ k, k < 96 → zF 9 k = z 22 k := by
    intro k hk
    rw [fF 9 (by omega) (by omega), fB 9 (by omega), fA 9 (by omega), g9 k hk, (src 22 (by omega)).2.1]
  have rA : ∀ k, k < 411 → yA 10 k = z 17 k := by
    intro k hk
    rw [gA k hk, (src 17 (by omega)).1]
  have rF : zF 10 = yB 10 := fF 10 (by omega) (by omega)
  have rS : ∀ i, 1 ≤ i → i < 5 → zF i = z4 i := fun i c1 c2 => by rw [fF i (by omega) (by omega), fB i (by omega), fs i c2]
  have s1 : zF 1 0 = nI n := by rw [rS 1 (by omega) (by omega), ← fs 1 (by omega)]; exact hA1
  have s2 : zF 2 0 = z 31 0 := by rw [rS 2 (by omega) (by omega), hz4, va_n (by omega), va_n (by omega), va_s]
  have s3 : zF 3 0 = z 32 0 := by rw [rS 3 (by omega) (by omega), hz4, va_n (by omega), va_s]
  have s4 : zF 4 0 = z 33 0 := by rw [rS 4 (by omega) (by omega), hz4, va_s]
  have q0 : ∀ i, i < 411 → (i < 6 ∨ 9 < i) → (∀ o, o < n → i ≠ 51 + 12 * o ∧ i ≠ 51 + 12 * o + 1 ∧ i ≠ 51 + 12 * o + 2 ∧ i ≠ 51 + 12 * o + 5 ∧ i ≠ 51 + 12 * o + 6) → zF 10 i = 0 := by
    intro i c1 c2 c3
    rw [rF, eB i (fun o ho => by have := c3 o ho; omega), rA i c1]
    exact h2.zero i c1 c2 (fun o ho => by have := c3 o ho; omega)
  have q1 : ∀ i, i < 411 → (∀ o, o < n → i ≠ 51 + 12 * o + 2 ∧ i ≠ 51 + 12 * o + 5 ∧ i ≠ 51 + 12 * o + 6) → zF 10 i = z 17 i := by
    intro i c1 c2
    rw [rF, eB i c2, rA i c1]
  have hb0 : ∀ o, b01 0 o = 0 := fun o => b01_0.mpr (b_0 o)
  obtain ⟨f, f1, f2, f3⟩ := h2.fb
  refine ⟨u, zF, a1, hR, ?_, ⟨0, f, 0, by omega, 0, 0, 0, 0, ?_, ?_, by omega, Int32.le_refl _, Int32.le_refl _⟩, fun o ho => ?_, ?_, ?_, ?_, s1, fun i hi => ?_⟩
  · refine ⟨hn, h1.p6, s1, fun o ho => ?_, fun o ho => ?_, fun o ho => ?_, fun o ho => ?_, fun o ho => ?_, fun o ho => (h1.rng o ho).1, fun o ho => (h1.rng o ho).2.1, fun o ho => (h1.rng o ho).2.2, ?_, ?_, ?_⟩
    · rw [r5 _ (by omega)]
      exact (h1.four o ho).1
    · rw [r5 _ (by omega)]
      exact (h1.four o ho).2.1
    · rw [r5 _ (by omega)]
      exact (h1.four o ho).2.2.1
    · rw [r5 _ (by omega)]
      exact (h1.four o ho).2.2.2
    · rw [r6 _ (by omega)]
      exact h1.need o ho
    · obtain ⟨m, m1, m2, m3, m4⟩ := h3
      exact ⟨m, m1, m2, by rw [s3]; exact m3, fun k hk => by rw [r7 k (by omega)]; exact m4 k hk⟩
    · obtain ⟨m, m1, m2, m3, m4⟩ := h4
      exact ⟨m, m1, m2, by rw [s4]; exact m3, fun k hk => by rw [r8 _ (by omega), r8 _ (by omega)]; exact m4 k hk⟩
    · obtain ⟨k, m1, m2, m3⟩ := h1.many
      refine ⟨k, m1, by rw [s2]; exact m2, ?_⟩
      rw [← m3]
      exact needs_e h1.p6 hn h1.neb
  · refine ⟨u0, q0 0 (by omega) (by omega) (fun o ho => by omega), ?_, ?_, ?_, ?_, ?_, ?_, ?_, u7, q0 10 (by omega) (by omega) (fun o ho => by omega), ?_, u31, q0 11 (by omega) (by omega) (fun o ho => by omega), u34, q0 4 (by omega) (by omega) (fun o ho => by omega), ?_, u27, q0 12 (by omega) (by omega) (fun o ho => by omega), u24, q0 13 (by omega) (by omega) (fun o ho => by omega), ?_, fun k hk => ?_, fun k hk => ?_, fun o ho => ?_, fun o ho => ?_, fun o ho => ?_, fun o ho => ?_, fun o ho => ?_, fun o ho => ?_, fun o ho _ => ?_, fun o ho => ?_, fun o ho => ?_, fun o ho => ?_, fun o ho => ?_, fun o ho => ?_, fun o ho => ?_, fun o c1 c2 => ?_, fun k hk => absurd hk (Nat.not_lt_zero k), fun k hk => absurd hk (Nat.not_lt_zero k), fun k hk => absurd hk (Nat.not_lt_zero k)⟩
    · rw [u1, q0 1 (by omega) (by omega) (fun o ho => by omega)]
    · rw [u2]
      exact f3
    · rw [q1 6 (by omega) (fun o ho => by omega), h2.fuse]
      exact f3
    · rw [u3, q1 7 (by omega) (fun o ho => by omega), h2.retry]
    · rw [u4, q1 9 (by omega) (fun o ho => by omega), h2.strict]
    · rw [u5, q0 2 (by omega) (by omega) (fun o ho => by omega)]
    · rw [u6, q0 3 (by omega) (by omega) (fun o ho => by omega)]
    · rw [q1 8 (by omega) (fun o ho => by omega), h2.pat]
    · rw [u35, q0 14 (by omega) (by omega) (fun o ho => by omega)]
    · rw [q0 5 (by omega) (by omega) (fun o ho => by omega), (uk 0 (by omega)).2, (uk 1 (by omega)).2, (uk 2 (by omega)).2, (uk 3 (by omega)).2, (uk 4 (by omega)).2, (uk 5 (by omega)).2]
      decide
    · rw [q0 (15 + k) (by omega) (by omega) (fun o ho => by omega), (uk k hk).1]
    · rw [q0 (21 + k) (by omega) (by omega) (fun o ho => by omega), (uk k hk).2]
    · rw [q1 (51 + 12 * o) (by omega) (fun o' ho' => by omega), h2.prio o ho, (uo o (by omega)).1]
    · rw [q1 (51 + 12 * o + 1) (by omega) (fun o' ho' => by omega), h2.want o ho, u11 o ho]
      by_cases c : bt (v 1 0) o = true
      · rw [if_pos c, if_pos rfl]
      · rw [if_neg c, if_neg (show ¬ (1 : Int32) = 0 by decide)]
    · rw [rF, (gB o ho).1, rA _ (by omega), h2.want o ho, u11 o ho]
    · rw [q0 (51 + 12 * o + 3) (by omega) (by omega) (fun o' ho' => by omega), (uo o (by omega)).2.1]
    · rw [q0 (51 + 12 * o + 4) (by omega) (by omega) (fun o' ho' => by omega), (uo o (by omega)).2.2.1]
    · rw [rF, (gB o ho).2.1, (uo o (by omega)).2.2.2.1]
    · rw [rF, (gB o ho).2.2, (uo o (by omega)).2.2.2.2]
    · rw [q0 (51 + 12 * o + 7) (by omega) (by omega) (fun o' ho' => by omega), u16, hb0]
    · rw [q0 (51 + 12 * o + 8) (by omega) (by omega) (fun o' ho' => by omega), u17, hb0]
    · rw [q0 (51 + 12 * o + 9) (by omega) (by omega) (fun o' ho' => by omega), (up o (by omega)).1]
    · rw [q0 (51 + 12 * o + 10) (by omega) (by omega) (fun o' ho' => by omega), (up o (by omega)).2.1]
    · rw [q0 (51 + 12 * o + 11) (by omega) (by omega) (fun o' ho' => by omega), u21, hb0]
    · rw [u21, (up o (by omega)).2.2.1, if_neg (show ¬ bt 0 o = true by rw [b_0]; decide)]
    · exact q0 (51 + 12 * o + 11) (by omega) (by omega) (fun o' ho' => by omega)
  · refine ⟨hn, by omega, by omega, by omega, ⟨f1, f2⟩, fun o ho => ?_, fun o ho => ?_, fun o ho _ => (uo o (by omega)).2.1, ?_, Or.inl u35, fun k hk => absurd hk (Nat.not_lt_zero k), ⟨Nat.zero_le _, fun k hk => absurd hk (Nat.not_lt_zero k), fun o ho => Or.inl (up o (by omega)).2.2.2.2⟩, ⟨Nat.zero_le _, fun k hk => absurd hk (Nat.not_lt_zero k), fun o ho => Or.inl (up o (by omega)).2.2.2.1⟩, fun i _ _ => ?_⟩
    · rw [u11 o ho]
      by_cases c : bt (v 1 0) o = true
      · rw [if_pos c]
        exact Or.inl rfl
      · rw [if_neg c]
        exact Or.inr (Or.inl rfl)
    · exact Or.inl (up o (by omega)).1
    · rw [u4]
      exact h2.s01
    · rw [u21]
      exact b_0 i
  · obtain ⟨k, k0, k8, e1, e2, e3⟩ := h1.name o ho
    refine ⟨k, k0, k8, ?_, fun i hi => ?_, fun i c1 c2 => ?_⟩
    · rw [e1]
      exact pkn_c k (fun i hi => (r9 _ (by omega)).symm)
    · rw [r9 _ (by omega)]
      exact e2 i hi
    · rw [r9 _ (by omega)]
      exact e3 i c1 c2
  · rw [hzF, va_n (by omega), va_n (by omega), va_s]
  · rw [hzF, va_s, upd_n (by omega), va_s, upd_s]
    rfl
  · rw [hzF, va_s, upd_s]
    rfl
  · rw [fF i (by omega) (by omega), fB i (by omega), fr i hi]
