-- load
theorem clr_e (z : Nat → Nat → Int32) : ∃ z2 : Nat → Nat → Int32, qX11_clearsTold z = some z2 ∧ (∀ i, i ≠ 17 → i < 30 ∨ 34 < i → z2 i = z i) ∧ (∀ i, i < 411 → z2 17 i = if i = 8 then 4 else if i = 7 then 3 else 0) ∧ z2 30 0 = 0 ∧ z2 31 0 = 0 ∧ z2 32 0 = 0 ∧ z2 33 0 = 0 ∧ z2 34 0 = 0 := by
  obtain ⟨u, hu⟩ : ∃ u : Nat → Nat → Int32, u = lfold (fun k (y : Nat → Nat → Int32) => va_up y 17 (upd (y 17) k 0)) 0 411 z := ⟨_, rfl⟩
  have key : ∀ K : (Nat → Nat → Int32) → Option (Nat → Nat → Int32), qX11_clearsTold_L2 K fu 0 z = K u := by
    intro K
    rw [hu]
    exact lp (L := fun g i y => qX11_clearsTold_L2 K g i y) (N := 411) (K := K) (f := fun k y => va_up y 17 (upd (y 17) k 0)) (fun _ _ => True) (by
      intro g k y hk _
      refine ⟨?_, trivial⟩
      show qX11_clearsTold_L2 K (g + 1) (nI k) y = qX11_clearsTold_L2 K g (nI (k + 1)) _
      rw [qX11_clearsTold_L2, if_neg (show ¬ (411 : Int32) ≤ nI k from nle (a := 411) (by omega) (by omega)), gdn (by omega) (by omega), cl (by omega), bs_e, p1]) (by
      intro g y _
      show qX11_clearsTold_L2 K (g + 1) (nI 411) y = K y
      rw [qX11_clearsTold_L2, if_pos (show (411 : Int32) ≤ nI 411 from Int32.le_refl _)]) 411 fu 0 z (by omega) (by unfold fu; omega) trivial
  have inv := lfold_inv (f := fun k (y : Nat → Nat → Int32) => va_up y 17 (upd (y 17) k 0)) (fun m y => (∀ i, i ≠ 17 → y i = z i) ∧ ∀ i, i < m → y 17 i = 0) 411 0 z ⟨fun _ _ => rfl, fun i hi => absurd hi (Nat.not_lt_zero i)⟩ (by
    intro i y _ _ ⟨g1, g2⟩
    refine ⟨fun j hj => by rw [va_n hj]; exact g1 j hj, fun j hj => ?_⟩
    rw [va_s]
    by_cases d : j = i
    · subst d
      exact upd_s _ _ _
    · rw [upd_n d]
      exact g2 j (by omega))
  rw [Nat.zero_add, ← hu] at inv
  obtain ⟨i1, i2⟩ := inv
  unfold qX11_clearsTold
  rw [key]
  simp only [bs_e]
  refine ⟨_, rfl, fun i h1 h2 => ?_, fun i hi => ?_, ?_, ?_, ?_, ?_, ?_⟩
  · rw [va_n (by omega), va_n (by omega), va_n (by omega), va_n (by omega), va_n (by omega), va_n (by omega), va_n (by omega)]
    exact i1 i h1
  · rw [va_n (by omega), va_n (by omega), va_n (by omega), va_n (by omega), va_n (by omega), va_s, va_s]
    by_cases c8 : i = 8
    · subst c8
      rw [upd_s, if_pos rfl]
    · rw [upd_n c8, if_neg c8]
      by_cases c7 : i = 7
      · subst c7
        rw [upd_s, if_pos rfl]
      · rw [upd_n c7, if_neg c7]
        exact i2 i hi
  · rw [va_n (by omega), va_n (by omega), va_n (by omega), va_n (by omega), va_s]
  · rw [va_n (by omega), va_n (by omega), va_n (by omega), va_s]
  · rw [va_n (by omega), va_n (by omega), va_s]
  · rw [va_n (by omega), va_s]
  · rw [va_s]
/-- a cleared draft, with the text "fuse 100;" -/
theorem d1_0 {nm : Nat → Int64} {a6 a15 a16 a17 a18 a20 y18 y19 y22 y30 y31 : Nat → Int32} (h6 : a6 0 = 0) (h30 : y30 0 = 0) (h31 : y31 0 = 0) : D1 0 nm a6 a15 a16 a17 a18 a20 y18 y19 y22 y30 y31 :=
  ⟨Nat.zero_le _, h6, h30, fun o ho => absurd ho (Nat.not_lt_zero o), fun o ho => absurd ho (Nat.not_lt_zero o), fun o ho => absurd ho (Nat.not_lt_zero o), fun o ho => absurd ho (Nat.not_lt_zero o), ⟨0, by omega, h31, rfl⟩, fun o ho => absurd ho (Nat.not_lt_zero o)⟩
theorem d2_0 {a7 a8 a9 a10 a11 a19 y : Nat → Int32} (h7 : a7 0 = 0) (h8 : a8 0 = 100) (h9 : a9 0 = 3) (h10 : a10 0 = 4) (h11 : a11 0 = 0) (hy : ∀ i, i < 411 → y i = if i = 8 then 4 else if i = 7 then 3 else 0) : D2 0 a7 a8 a9 a10 a11 a19 (upd y 6 100) := by
  refine ⟨fun o ho => absurd ho (Nat.not_lt_zero o), fun o ho => absurd ho (Nat.not_lt_zero o), fun i _ _ => by rw [h7]; exact b_0 i, by rw [upd_s, h8], ?_, ?_, ?_, ⟨100, by omega, by omega, h8⟩, Or.inl h11, fun i h1 h2 _ => ?_⟩
  · rw [upd_n (by omega), hy 7 (by omega), h9]
    rfl
  · rw [upd_n (by omega), hy 8 (by omega), h10]
    rfl
  · rw [upd_n (by omega), hy 9 (by omega), h11]
    rfl
  · rw [upd_n (by omega), hy i h1, if_neg (by omega), if_neg (by omega)]
theorem d3_0 {a12 a13 y20 y32 : Nat → Int32} (h1 : a13 0 = 0) (h2 : y32 0 = 0) : D3 a12 a13 y20 y32 := ⟨0, by omega, h1, h2, fun k hk => absurd hk (Nat.not_lt_zero k)⟩
theorem d4_0 {a14 a21 a22 y21 y33 : Nat → Int32} (h1 : a14 0 = 0) (h2 : y33 0 = 0) : D4 a14 a21 a22 y21 y33 := ⟨0, by omega, h1, h2, fun k hk => absurd hk (Nat.not_lt_zero k)⟩
theorem d2_fuse {n : Nat} {a7 a8 a9 a10 a11 a19 y : Nat → Int32} {q : Int32} (h : D2 n a7 a8 a9 a10 a11 a19 (upd y 6 q)) {r : Int32} (hr : ∃ f, 1 ≤ f ∧ f ≤ 9999 ∧ r = nI f) : D2 n a7 (fun _ => r) a9 a10 a11 a19 (upd y 6 r) := by
  have e : ∀ i, i ≠ 6 → upd y 6 r i = upd y 6 q i := fun i hi => by rw [upd_n hi, upd_n hi]
  exact ⟨fun o ho => by rw [e _ (by omega)]; exact h.prio o ho, fun o ho => by rw [e _ (by omega)]; exact h.want o ho, h.off, upd_s _ _ _, by rw [e _ (by omega)]; exact h.retry, by rw [e _ (by omega)]; exact h.pat, by rw [e _ (by omega)]; exact h.strict, hr, h.s01, fun i h1 h2 h3 => by rw [e _ (by omega)]; exact h.zero i h1 h2 h3⟩
theorem fuse_e {L : Nat} {tx ps z : Nat → Nat → Int32} {nm : Nat → Int64} (h : Rd L tx ps z) (e : ps 3 0 = 0) (hd : Dr 0 nm ps (va_up z 17 (upd (z 17) 6 100))) : ∃ ps2 z2 : Nat → Nat → Int32, qX4_readFuse tx ps nm = some ps2 ∧ (∀ J : (Nat → Nat → Int32) → Option (Int32 × (Nat → Nat → Int32)), (bd (qX11_isWord z 0) fun r_9 => bd (qX11_passes z r_9) fun z_10 => bd2 (qX11_figure z_10 1 9999) fun r_11 z_12 => (bs (va_up z_12 17 (upd (z_12 17) 6 r_11)) fun z_13 => bd (qX11_semicolon z_13) fun z_14 => J z_14)) = J z2) ∧ Rd L tx ps2 z2 ∧ (ps2 3 0 = 0 → Dr 0 nm ps2 z2) ∧ ∀ i, i < 16 ∨ i = 23 → z2 i = z i := by
  have e2 : z 28 0 = 0 := by rw [← h.err]; exact e
  obtain ⟨r, w1, w2, w3, w4⟩ := word_e (nm := nm) (wi := 0) h e (by omega)
  unfold qX4_readFuse
  rw [w1, bd_s, w2]
  rcases w3 with hr | hr
  · subst hr
    obtain ⟨ps2, z2, a1, a2, a3, a4, a5⟩ := stop_e (nm := nm) h 1 (by decide)
    have hp : qX11_passes z 0 = some z2 := by
      unfold qX11_passes
      simp only [jn_e]
      rw [if_true, a2, bd_s, wrong1 a5, bd_s, if_neg (show ¬ (1 : Int32) = 0 by decide)]
    have hw : va_up z2 17 (upd (z2 17) 6 1) 28 0 ≠ 0 := by rw [va_n (by omega)]; exact a5
    rw [if_pos rfl, a1, bd_s]
    refine ⟨ps2, va_up z2 17 (upd (z2 17) 6 1), rfl, fun J => ?_, rd_c a3.rd (fun _ _ => rfl) (fun i hi => va_n (by omega)), fun g => absurd g a4, fun i hi => by rw [va_n (by omega), a3.fz i (by omega)]⟩
    rw [bd_s, hp, bd_s, figu_w a5, bd2_s, bs_e, semi_w hw, bd_s]
  · subst hr
    obtain ⟨ps2, z2, a1, a2, a3, a4, a5, _⟩ := adv_e (nm := nm) h e
    have hp : qX11_passes z 1 = some z2 := by
      unfold qX11_passes
      rw [jn_e, if_neg (show ¬ (1 : Int32) = 0 by decide)]
      dsimp only
      rw [wrong0 e2, bd_s, if_pos rfl, a2, bd_s]
    obtain ⟨r3, ps3, s3, z3, b1, b2, b3, b4⟩ := figu_e (nm := nm) a3.rd 1 9999 1 9999 (fun _ => ⟨rfl, rfl⟩)
    have hrd : Rd L tx (va_up ps3 8 (fun _ => r3)) (va_up z3 17 (upd (z3 17) 6 s3)) := rd_c b3.rd (fun i hi => va_n (by omega)) (fun i hi => va_n (by omega))
    obtain ⟨ps4, z4, c1, c2, c3⟩ := semi_e (nm := nm) hrd
    rw [if_neg (show ¬ (1 : Int32) = 0 by decide), a1, bd_s, b1, bd2_s, bs_e, c1, bd_s]
    refine ⟨ps4, z4, rfl, fun J => ?_, c3.rd, fun g => ?_, fun i hi => by rw [c3.fz i (by omega), va_n (by omega), b3.fz i (by omega), a3.fz i (by omega)]⟩
    · rw [bd_s, hp, bd_s, b2, bd2_s, bs_e, c2, bd_s]
    · have g2 := c3.ok g
      rw [va_n (by omega)] at g2
      obtain ⟨g3, g4, g5, m, g6, g7⟩ := b4 g2
      subst g3
      have hfb : ∃ f, 1 ≤ f ∧ f ≤ 9999 ∧ s3 = nI f := by
        refine ⟨m, ?_, g6, g7⟩
        rw [g7] at g4
        exact (nI_leI (a := 1) (by omega) (by omega)).mp g4
      have d0 : Dr 0 nm ps3 (va_up z3 17 (upd (z 17) 6 100)) := dr_c hd (fun i hi => by rw [b3.fp i (by omega), a3.fp i (by omega)]) (fun i hi => by
        by_cases c : i = 17
        · subst c
          rw [va_s, va_s]
        · rw [va_n c, va_n c, b3.fz i hi, a3.fz i hi])
      refine dr_c (⟨d0.d1, ?_, d0.d3, d0.d4, d0.d5⟩ : Dr 0 nm (va_up ps3 8 (fun _ => s3)) (va_up z3 17 (upd (z3 17) 6 s3))) c3.fp c3.fz
      have d2 := d0.d2
      rw [va_s] at d2
      have e17 : z3 17 = z 17 := by rw [b3.fz 17 (by omega), a3.fz 17 (by omega)]
      rw [va_s, e17]
      exact d2_fuse d2 hfb
theorem text_e {n : Nat} {tx ps v hs : Nat → Nat → Int32} {nm vn : Nat → Int64} {ww : Nat → Nat → Nat → Int32} {z : Nat → Nat → Int32} (h : Smn n tx ps v vn hs ww z) (hz : z 0 0 = 0) : ∃ (ps2 : Nat → Nat → Int32) (nm2 : Nat → Int64) (z2 : Nat → Nat → Int32) (L : Nat), qX4_readText tx ps nm = (if ps2 3 0 = 0 then some (1, ps2, nm2) else some (0, ps2, nm2)) ∧ (∀ J : (Nat → Nat → Int32) → Option (Int32 × (Nat → Nat → Int32)), (bs (va_up z 24 (fun _ => (z 23 0))) fun z_2 => (bs (va_up z_2 23 (fun _ => 0)) fun z_3 => (bs (va_up z_3 25 (fun _ => 0)) fun z_4 => (bs (va_up z_4 28 (fun _ => 0)) fun z_5 => (bs (va_up z_5 29 (fun _ => (-1))) fun z_6 => bd (qX11_clearsTold z_6) fun z_7 => bd (qX11_token z_7) fun z_8 => bd (qX11_isWord z_8 0) fun r_9 => bd (qX11_passes z_8 r_9) fun z_10 => bd2 (qX11_figure z_10 1 9999) fun r_11 z_12 => (bs (va_up z_12 17 (upd (z_12 17) 6 r_11)) fun z_13 => bd (qX11_semicolon z_13) fun z_14 => (qX11_load_L70   (fun (z_16 : Nat → Nat → Int32) => (qX11_load_L86   (fun (z_20 : Nat → Nat → Int32) => (qX11_load_L102 J fu  z_20)) fu  z_16)) fu  z_14))))))) = J z2) ∧ Rd L tx ps2 z2 ∧ (ps2 3 0 = 0 → ∃ n2, Dr n2 nm2 ps2 z2) ∧ (∀ i, i < 16 → z2 i = z i) ∧ z2 23 0 = 0 := by
  obtain ⟨L, hL, e1, e2, e3⟩ := h.txt.ex
  obtain ⟨z6, hz6⟩ : ∃ z6 : Nat → Nat → Int32, z6 = va_up (va_up (va_up (va_up (va_up z 24 (fun _ => (z 23 0))) 23 (fun _ => 0)) 25 (fun _ => 0)) 28 (fun _ => 0)) 29 (fun _ => (-1)) := ⟨_, rfl⟩
  obtain ⟨z7, c1, c2, c3, c4, c5, c6, c7, c8⟩ := clr_e z6
  obtain ⟨psA, hpsA⟩ : ∃ psA : Nat → Nat → Int32, psA = va_up (va_up (va_up (va_up (va_up (va_up (va_up (va_up (va_up (va_up (va_up (va_up ps 3 (fun _ => 0)) 4 (fun _ => (-1))) 5 (fun _ => 0)) 6 (fun _ => 0)) 7 (fun _ => 0)) 8 (fun _ => 100)) 9 (fun _ => 3)) 10 (fun _ => 4)) 11 (fun _ => 0)) 12 (fun _ => 0)) 13 (fun _ => 0)) 14 (fun _ => 0) := ⟨_, rfl⟩
  have hclr : qX5_clear_d tx (va_up (va_up (va_up ps 3 (fun _ => 0)) 4 (fun _ => (-1))) 5 (fun _ => 0)) nm = some psA := by
    rw [hpsA]
    unfold qX5_clear_d
    rw [bs_e, bs_e, bs_e, bs_e, bs_e, bs_e, bs_e, bs_e, bs_e]
  have q7 : ∀ i, i ≠ 17 → i < 30 ∨ 34 < i → i ≠ 24 → i ≠ 23 → i ≠ 25 → i ≠ 28 → i ≠ 29 → z7 i = z i := by
    intro i h1 h2 h3 h4 h5 h6 h7
    rw [c2 i h1 h2, hz6, va_n h7, va_n h6, va_n h5, va_n h4, va_n h3]
  have t24 : z7 24 0 = nI L := by
    rw [c2 24 (by omega) (by omega), hz6, va_n (by omega), va_n (by omega), va_n (by omega), va_n (by omega), va_s]
    exact e2
  have t25 : z7 25 0 = 0 := by
    rw [c2 25 (by omega) (by omega), hz6, va_n (by omega), va_n (by omega), va_s]
  have t28 : z7 28 0 = 0 := by
    rw [c2 28 (by omega) (by omega), hz6, va_n (by omega), va_s]
  have t29 : z7 29 0 = -1 := by
    rw [c2 29 (by omega) (by omega), hz6, va_s]
  have t23 : z7 23 0 = 0 := by
    rw [c2 23 (by omega) (by omega), hz6, va_n (by omega), va_n (by omega), va_n (by omega), va_s]
  have hT : Tx L tx z7 := ⟨hL, e1, t24, by rw [q7 16 (by omega) (by omega) (by omega) (by omega) (by omega) (by omega) (by omega)]; exact e3⟩
  obtain ⟨b, s, k, ps5, z8, d1, d2, d3, d4, d5, d6⟩ := next_e (nm := nm) (p := 0) (ps := va_up (va_up psA 1 (fun _ => 0)) 2 (fun _ => 0)) hT (by rw [va_n (by omega), va_s, va_s]; rfl) t25 (Nat.zero_le _)
  have pA : ∀ i, 3 ≤ i → ps5 i = psA i := fun i hi => by rw [d5 i hi, va_n (by omega), va_n (by omega)]
  have a3 : ps5 3 0 = 0 := by rw [pA 3 (by omega), hpsA]; rfl
  have a4 : ps5 4 0 = -1 := by rw [pA 4 (by omega), hpsA]; rfl
  have a5 : ps5 5 0 = 0 := by rw [pA 5 (by omega), hpsA]; rfl
  have a6 : ps5 6 0 = 0 := by rw [pA 6 (by omega), hpsA]; rfl
  have a7 : ps5 7 0 = 0 := by rw [pA 7 (by omega), hpsA]; rfl
  have a8 : ps5 8 0 = 100 := by rw [pA 8 (by omega), hpsA]; rfl
  have a9 : ps5 9 0 = 3 := by rw [pA 9 (by omega), hpsA]; rfl
  have a10 : ps5 10 0 = 4 := by rw [pA 10 (by omega), hpsA]; rfl
  have a11 : ps5 11 0 = 0 := by rw [pA 11 (by omega), hpsA]; rfl
  have a13 : ps5 13 0 = 0 := by rw [pA 13 (by omega), hpsA]; rfl
  have a14 : ps5 14 0 = 0 := by rw [pA 14 (by omega), hpsA]; rfl
  have hrd : Rd L tx ps5 z8 := ⟨tx_c hT (d6 24 (by omega)) (d6 16 (by omega)), by rw [a3, d6 28 (by omega), t28], by rw [a4, d6 29 (by omega), t29], fun _ => ⟨b, s, k, d4⟩⟩
  have hdr : Dr 0 nm ps5 (va_up z8 17 (upd (z8 17) 6 100)) := by
    refine ⟨?_, ?_, ?_, ?_, ?_⟩
    · exact d1_0 a6 (by rw [va_n (by omega), d6 30 (by omega)]; exact c4) (by rw [va_n (by omega), d6 31 (by omega)]; exact c5)
    · rw [va_s]
      exact d2_0 a7 a8 a9 a10 a11 (fun i hi => by rw [d6 17 (by omega)]; exact c3 i hi)
    · exact d3_0 a13 (by rw [va_n (by omega), d6 32 (by omega)]; exact c6)
    · exact d4_0 a14 (by rw [va_n (by omega), d6 33 (by omega)]; exact c7)
    · rw [va_n (by omega), d6 34 (by omega), a5, c8]
  obtain ⟨ps6, z14, f1, f2, f3, f4, f5⟩ := fuse_e hrd a3 hdr
  obtain ⟨ps2, nm2, z2, g1, g2, g3⟩ := ph1_e 900 fu fu 0 0 ps6 z14 nm f3 (fun g => ⟨f4 g, Nat.zero_le _⟩) (by omega) (by unfold fu; omega) (by unfold fu; omega)
  refine ⟨ps2, nm2, z2, L, ?_, fun J => ?_, g3.rd, g3.dr, fun i hi => ?_, ?_⟩
  · unfold qX4_readText qX7_goToFirst
    rw [bs_e, bs_e, bs_e, hclr, bd_s, bs_e, bs_e, d2, bd_s, bd_s, f1, bd_s]
    exact g1 _
  · rw [bs_e, bs_e, bs_e, bs_e, bs_e, ← hz6, c1, bd_s, d3, bd_s, f2, g2]
  · rw [g3.fr i (by omega), f5 i (by omega), d6 i (by omega), q7 i (by omega) (by omega) (by omega) (by omega) (by omega) (by omega) (by omega)]
  · rw [g3.fr 23 (by omega), f5 23 (by omega), d6 23 (by omega)]
    exact t23
theorem cpFrom_e {v v0 : Nat → Nat → Int32} {nm vn : Nat → Int64} (h5 : v 5 0 = 0 ∨ v 5 0 = 1) : ∃ (v2 : Nat → Nat → Int32) (vn2 : Nat → Int64), qX5_copyFrom v nm v0 vn = some (v2, vn2) ∧ (∀ i, i < 9 → v2 i 0 = v i 0) ∧ (∀ i, 9 ≤ i → i < 15 → ∀ o, o < 12 → v2 i o = v i o) ∧ (∀ k, k < 4 → v2 15 k = v 15 k ∧ v2 16 k = v 16 k) ∧ ∀ o, o < 12 → vn2 o = nm o := by
  have hg : narrow .boolean (.int (v 5 0)) = .int (v 5 0) ∧ fits .boolean (.int (v 5 0)) = true := by
    rcases h5 with e | e
    · rw [e]
      exact ⟨rfl, rfl⟩
    · rw [e]
      exact ⟨rfl, rfl⟩
  unfold qX5_copyFrom
  simp only [bs_e]
  rw [gd_t hg]
  refine ⟨_, _, rfl, fun i hi => ?_, fun i h1 h2 o ho => ?_, fun k hk => ?_, fun o ho => kc_e ho _ _⟩
  · rcases (show i = 0 ∨ i = 1 ∨ i = 2 ∨ i = 3 ∨ i = 4 ∨ i = 5 ∨ i = 6 ∨ i = 7 ∨ i = 8 by omega) with e | e | e | e | e | e | e | e | e <;> (subst e; simp (disch := omega) only [va_n, va_s])
  · rcases (show i = 9 ∨ i = 10 ∨ i = 11 ∨ i = 12 ∨ i = 13 ∨ i = 14 by omega) with e | e | e | e | e | e <;> (subst e; simp (disch := omega) only [va_n, va_s, kc_e])
  · simp (disch := omega) only [va_n, va_s, kc_e]
    exact ⟨trivial, trivial⟩
theorem st_load : St_load Sim := by
  intro tx ps nm v vn hs ww z ⟨n, h⟩
  have h0 := smn_0 h
  have hz := z0_0 z
  have hzz : va_up z 0 (fun _ => 0) = z0 z := rfl
  obtain ⟨ps2, nm2, z2, L, t1, t2, t3, t4, t5, t6⟩ := text_e (nm := nm) h0 hz
  have hz2 : z2 0 0 = 0 := by rw [t5 0 (by omega)]; exact hz
  unfold qX11_load qX10_load
  rw [hzz, bs_e, t1, t2]
  by_cases e : ps2 3 0 = 0
  · have e2 : z2 28 0 = 0 := by rw [← t3.err]; exact e
    obtain ⟨n2, d⟩ := t4 e
    obtain ⟨v2, vn2, c1, c2, c3, c4, c5⟩ := cpFrom_e (v := fun i => ps2 (6 + i)) (nm := nm2) (v0 := v) (vn := vn) d.d2.s01
    have hn := d.d1.n12
    have hV : DrV n2 vn2 v2 z2 := by
      refine ⟨?_, ?_, ?_, ?_⟩
      · exact d1_v d.d1 (c2 0 (by omega)) (c3 9 (by omega) (by omega)) (c3 10 (by omega) (by omega)) (c3 11 (by omega) (by omega)) (c3 12 (by omega) (by omega)) (c3 14 (by omega) (by omega)) c5
      · exact d2_v d.d2 hn (c2 1 (by omega)) (c2 2 (by omega)) (c2 3 (by omega)) (c2 4 (by omega)) (c2 5 (by omega)) (c3 13 (by omega) (by omega))
      · obtain ⟨m, m1, m2, m3, m4⟩ := d.d3
        exact ⟨m, m1, (c2 7 (by omega)).trans m2, m3, fun k hk => by rw [c2 6 (by omega)]; exact m4 k hk⟩
      · obtain ⟨m, m1, m2, m3, m4⟩ := d.d4
        exact ⟨m, m1, (c2 8 (by omega)).trans m2, m3, fun k hk => by rw [(c4 k (by omega)).1, (c4 k (by omega)).2]; exact m4 k hk⟩
    obtain ⟨w7, zF, b1, b2, b3, b4, b5, b6, b7, b8, b9, b10⟩ := begin_e hV (ww 0)
    rw [if_pos e, bd3_s, bs_e, if_neg (show ¬ (1 : Int32) = 0 by decide), c1, bd2_s, b1, bd_s, bs_e]
    unfold qX0_dropChanges qX0_dropSaved
    rw [bs_e, bd_s, bs_e, bd_s, wrong0 e2, bd_s, jn_e, if_pos rfl]
    dsimp only
    rw [may1 hz2, bd2_s, if_neg (show ¬ (1 : Int32) = 0 by decide), b2, bd_s]
    refine ⟨_, _, _, _, _, _, _, _, _, _, _, rfl, rfl, Or.inl ⟨rfl, by rw [b10 0 (by omega)]; exact hz2, ?_⟩, n2, ?_⟩
    · rw [b9]
      exact hV.d1.p6
    · refine ⟨b3, by rw [va_s]; exact b4, ⟨?_, fun k hk => ?_, fun k hk hb => ?_⟩, ⟨0, by omega, rfl, by rw [b10 23 (by omega)]; exact t6, fun i hi => absurd hi (Nat.not_lt_zero i)⟩, b5, by rw [b10 28 (by omega)]; exact t3.err, by rw [b10 29 (by omega)]; exact t3.pos⟩
      · obtain ⟨o, c, o1, _, o3, _⟩ := h0.his.ring
        exact ⟨o, 0, o1, by omega, o3, rfl, b6, fun k hk => absurd hk (Nat.not_lt_zero k)⟩
      · rcases (show k = 0 ∨ k = 1 by omega) with g | g
        · subst g
          rw [b7]
          exact (b01_0.mpr (b_0 0)).symm
        · subst g
          rw [b8]
          exact (b01_0.mpr (b_0 1)).symm
      · exact absurd hb (by rw [show (va_up (va_up hs 1 (fun _ => 0)) 2 (fun _ => (0 : Int32))) 2 0 = 0 from rfl, b_0]; decide)
  · have e2 : ¬ z2 28 0 = 0 := by rw [← t3.err]; exact e
    rw [if_neg e, bd3_s, bs_e, if_pos rfl, wrong1 e2, bd_s, jn_e, if_neg (show ¬ (1 : Int32) = 0 by decide)]
    dsimp only
    rw [may0 hz2 (by decide), bd2_s, if_pos rfl]
    refine ⟨_, _, _, _, _, _, _, _, _, _, _, rfl, rfl, Or.inr ⟨rfl, by rw [va_s]⟩, n, ?_⟩
    have hq : Smn n (va_up tx 0 (fun _ => 0)) ps2 v vn hs ww z2 := by
      obtain ⟨h1, h2, h3, h4, h5, h6, h7⟩ := h0
      exact ⟨pl_c h1 (fun i b1 b2 => t5 i (by omega)), by rw [t5 10 (by omega)]; exact h2, ⟨by rw [t5 15 (by omega), t5 12 (by omega)]; exact h3.ring, by rw [t5 14 (by omega)]; exact h3.flag, by rw [t5 13 (by omega)]; exact h3.slot⟩, ⟨0, by omega, rfl, t6, fun i hi => absurd hi (Nat.not_lt_zero i)⟩, by unfold Nam at h5 ⊢; rw [t5 9 (by omega)]; exact h5, t3.err, t3.pos⟩
    exact smn_e hq 1
