-- off, dark, a rule in step
theorem d2_off {n : Nat} {a7 a8 a9 a10 a11 a19 y : Nat → Int32} (h : D2 n a7 a8 a9 a10 a11 a19 y) {o : Nat} (ho : o < n) (hn : n ≤ 12) : D2 n (fun _ => a7 0 ||| (1 <<< (nI o &&& 31))) a8 a9 a10 a11 a19 (upd y (51 + 12 * o + 1) 0) := by
  obtain ⟨h1, h2, h3, h4, h5, h6, h7, h8, h9, h10⟩ := h
  refine ⟨fun k hk => by rw [upd_n (by omega)]; exact h1 k hk, fun k hk => ?_, fun i g1 g2 => ?_, by rw [upd_n (by omega)]; exact h4, by rw [upd_n (by omega)]; exact h5, by rw [upd_n (by omega)]; exact h6, by rw [upd_n (by omega)]; exact h7, h8, h9, fun i g1 g2 g3 => ?_⟩
  · rw [b_set _ (by omega) (by omega)]
    by_cases c : k = o
    · subst c
      rw [upd_s, decide_eq_true rfl, Bool.or_true, if_pos rfl]
    · rw [upd_n (by omega), decide_eq_false c, Bool.or_false]
      exact h2 k hk
  · rw [b_set _ (by omega) g2, h3 i g1 g2, decide_eq_false (by omega)]
    rfl
  · have := g3 o ho
    rw [upd_n (by omega)]
    exact h10 i g1 g2 g3
theorem rl_off {L n : Nat} {tx ps z : Nat → Nat → Int32} {nm : Nat → Int64} (h : Rd L tx ps z) (e : ps 3 0 = 0) (h0 : ps 0 0 ≠ 0) (hd : Dr n nm ps z) : ∃ ps1 z1 : Nat → Nat → Int32, qX4_readOff tx ps nm = some ps1 ∧ (∀ J : (Nat → Nat → Int32) → Option (Nat → Nat → Int32), (∀ y : Nat → Nat → Int32, y 28 0 ≠ 0 → J y = some y) → (bd (qX11_token z) fun z_21 => bd2 (qX11_looksUp z_21) fun r_22 z_23 => bd (qX11_isWrong z_23) fun r_24 => (jn (fun (z_25 : Nat → Nat → Int32) => bd (qX11_isWrong z_25) fun r_26 => if r_26 = 0 then bd (qX11_at r_22 1) fun r_27 => gd (vp_in r_27 411) (bs (va_up z_25 17 (upd (z_25 17) r_27.toNatClampNeg 0)) fun z_28 => bd (qX11_token z_28) fun z_29 => (J z_29)) else some z_25) fun j143 => if r_24 = 0 then if r_22 = (-1) then bd (qX11_fails z_23 4) fun z_30 => (j143 z_30) else (j143 z_23) else (j143 z_23))) = J z1) ∧ Rr n nm L tx ps z ps1 z1 := by
  obtain ⟨ps2, z2, a1, a2, a3, a4, a5, a6⟩ := adv_e (nm := nm) h e
  have hm := a6 h0
  have d := dr_c hd a3.fp a3.fz
  have hn := d.d1.n12
  unfold qX4_readOff
  rw [a1, bd_s]
  rcases look_e (nm := nm) a3.rd hn d.d1.p6 d.d1.z30 d.d1.name with ⟨ps3, r3, z3, b1, b2, b3, b4, b5⟩ | ⟨o, ho, b1, b2, b3, b4⟩ | ⟨ps3, z3, b1, b2, b3, b4, b5, b6, b7⟩
  · rw [b1, bd2_s, if_pos rfl]
    refine ⟨ps3, z3, rfl, fun J hJ => ?_, b3.rd, fun g => absurd g b4, fun g => absurd g b4, fun i hi => by rw [b3.fz i (by omega), a3.fz i (by omega)]⟩
    rw [a2, bd_s, b2, bd2_s, wrong1 b5, bd_s, jn_e, if_neg (show ¬ (1 : Int32) = 0 by decide)]
    dsimp only
    rw [wrong1 b5, bd_s, if_neg (show ¬ (1 : Int32) = 0 by decide), hJ z3 b5]
  · have ho2 : o < 12 := by omega
    have hrd : Rd L tx (va_up ps2 7 (fun _ => ps2 7 0 ||| (1 <<< (nI o &&& 31)))) (va_up z2 17 (upd (z2 17) (51 + 12 * o + 1) 0)) := rd_c a3.rd (fun i hi => va_n (by omega)) (fun i hi => va_n (by omega))
    obtain ⟨ps4, z4, c1, c2, c3, c4, c5, _⟩ := adv_e (nm := nm) hrd (by rw [va_n (by omega)]; exact b3)
    have hpo : po (va_up ps2 7 (fun _ => ps2 7 0 ||| (1 <<< (nI o &&& 31)))) = po ps2 := by
      unfold po
      rw [va_n (by omega)]
    rw [b1, bd2_s, if_neg (nIm1 (show o < 2147483648 by omega)), bs_e, c1, bd_s]
    refine ⟨ps4, z4, rfl, fun J hJ => ?_, c3.rd, fun _ => ?_, fun _ => by have := c3.mo; omega, fun i hi => by rw [c3.fz i (by omega), va_n (by omega), a3.fz i (by omega)]⟩
    · rw [a2, bd_s, b2, bd2_s, wrong0 b4, bd_s, jn_e, if_pos rfl, if_neg (nIm1 (show o < 2147483648 by omega))]
      dsimp only
      rw [wrong0 b4, bd_s, if_pos rfl, ag1, bd_s, gdn (by omega) (by omega), cl (by omega), bs_e, c2, bd_s]
    · exact dr_c (⟨d.d1, d2_off d.d2 ho hn, d.d3, d.d4, d.d5⟩ : Dr n nm (va_up ps2 7 (fun _ => ps2 7 0 ||| (1 <<< (nI o &&& 31)))) (va_up z2 17 (upd (z2 17) (51 + 12 * o + 1) 0))) c3.fp c3.fz
  · rw [b1, bd2_s, if_pos rfl]
    refine ⟨ps3, z3, rfl, fun J hJ => ?_, b5.rd, fun g => absurd g b6, fun g => absurd g b6, fun i hi => by rw [b5.fz i (by omega), a3.fz i (by omega)]⟩
    rw [a2, bd_s, b2, bd2_s, wrong0 b4, bd_s, jn_e, if_pos rfl, if_pos rfl, b3, bd_s]
    dsimp only
    rw [wrong1 b7, bd_s, if_neg (show ¬ (1 : Int32) = 0 by decide), hJ z3 b7]
theorem rl_dark {L n : Nat} {tx ps z : Nat → Nat → Int32} {nm : Nat → Int64} (h : Rd L tx ps z) (e : ps 3 0 = 0) (h0 : ps 0 0 ≠ 0) (hd : Dr n nm ps z) : ∃ ps1 z1 : Nat → Nat → Int32, qX4_readDark tx ps nm = some ps1 ∧ (∀ J : (Nat → Nat → Int32) → Option (Nat → Nat → Int32), (∀ y : Nat → Nat → Int32, y 28 0 ≠ 0 → J y = some y) → (jn (fun (z_10 : Nat → Nat → Int32) => bd (qX11_isWrong z_10) fun r_11 => if r_11 = 0 then bd (qX11_token z_10) fun z_12 => bd2 (qX11_figure z_12 1 999) fun r_13 z_14 => gd (vp_in (2 * (z_12 33 0)) 8) (bs (va_up z_14 21 (upd (z_14 21) (2 * (z_12 33 0)).toNatClampNeg r_13)) fun z_15 => bd2 (qX11_figure z_15 1 50) fun r_16 z_17 => gd (vp_in ((2 * (z_15 33 0)) + 1) 8) (bs (va_up z_17 21 (upd (z_17 21) ((2 * (z_15 33 0)) + 1).toNatClampNeg r_16)) fun z_18 => (bs (va_up z_18 33 (fun _ => ((z_18 33 0) + 1))) fun z_19 => (J z_19)))) else some z_10) fun j191 => if (z 33 0) = 4 then bd (qX11_fails z 5) fun z_20 => (j191 z_20) else (j191 z)) = J z1) ∧ Rr n nm L tx ps z ps1 z1 := by
  have e2 : z 28 0 = 0 := by rw [← h.err]; exact e
  obtain ⟨d, hd4, f1, f2, f3⟩ := hd.d4
  unfold qX4_readDark
  simp only [jn_e]
  rw [f1, if_neg (nI_pos (show d < 2 ^ 31 by omega))]
  by_cases c : d < 4
  · obtain ⟨ps2, z2, a1, a2, a3, a4, a5, a6⟩ := adv_e (nm := nm) h e
    have hm := a6 h0
    obtain ⟨r3, ps3, s3, z3, b1, b2, b3, b4⟩ := figu_e (nm := nm) a3.rd 1 999 1 999 (fun _ => ⟨rfl, rfl⟩)
    have hrd : Rd L tx (va_up ps3 21 (upd (ps3 21) d r3)) (va_up z3 21 (upd (z3 21) (2 * d) s3)) := rd_c b3.rd (fun i hi => va_n (by omega)) (fun i hi => va_n (by omega))
    obtain ⟨r4, ps4, s4, z4, c1, c2, c3, c4⟩ := figu_e (nm := nm) hrd 1 50 1 50 (fun _ => ⟨rfl, rfl⟩)
    rw [if_pos (show nI d < (4 : Int32) from (nI_ltI (b := 4) (by omega) (by omega)).mpr c), a1, bd_s, b1, bd2_s, gdn (by omega) (by omega), cl (by omega), bs_e, c1, bd2_s, gdn (by omega) (by omega), bs_e, bs_e, p1]
    have hz2 : z2 33 0 = nI d := by rw [a3.fz 33 (by omega)]; exact f2
    have hz3 : (va_up z3 21 (upd (z3 21) (2 * d) s3)) 33 0 = nI d := by rw [va_n (by omega), b3.fz 33 (by omega)]; exact hz2
    have hz4 : (va_up z4 21 (upd (z4 21) (2 * d + 1) s4)) 33 0 = nI d := by rw [va_n (by omega), c3.fz 33 (by omega)]; exact hz3
    refine ⟨_, va_up (va_up z4 21 (upd (z4 21) (2 * d + 1) s4)) 33 (fun _ => nI (d + 1)), rfl, fun J hJ => ?_, rd_c c3.rd (fun i hi => by rw [va_n (by omega), va_n (by omega)]) (fun i hi => by rw [va_n (by omega), va_n (by omega)]), fun g => ?_, fun g => ?_, fun i hi => by rw [va_n (by omega), va_n (by omega), c3.fz i (by omega), va_n (by omega), b3.fz i (by omega), a3.fz i (by omega)]⟩
    · rw [f2, if_neg (show ¬ nI d = 4 from fun g => by have := nI_inj (b := 4) (by omega) (by omega) g; omega), wrong0 e2, bd_s, if_pos rfl, a2, bd_s, b2, bd2_s, hz2, m2, gdn (by omega) (by omega), cl (by omega), bs_e, c2, bd2_s, hz3, m2, p1, gdn (by omega) (by omega), cl (by omega), bs_e, hz4, p1, bs_e]
    · rw [va_n (by omega), va_n (by omega)] at g
      obtain ⟨g1, _⟩ := c4 g
      have g3 := c3.ok g
      rw [va_n (by omega)] at g3
      obtain ⟨g4, _⟩ := b4 g3
      have dA := dr_c (dr_c hd a3.fp a3.fz) b3.fp b3.fz
      have dB : Dr n nm (va_up ps3 21 (upd (ps3 21) d r3)) (va_up z3 21 (upd (z3 21) (2 * d) s3)) := by
        refine ⟨dA.d1, dA.d2, dA.d3, ?_, dA.d5⟩
        obtain ⟨d', q1, q2, q3, q4⟩ := dA.d4
        have hdd : d' = d := by
          rw [b3.fz 33 (by omega), hz2] at q3
          exact (nI_inj (by omega) (by omega) q3).symm
        subst hdd
        exact ⟨d', q1, q2, q3, fun k hk => by rw [va_s, va_s, upd_n (by omega), upd_n (by omega), upd_n (by omega)]; exact q4 k hk⟩
      have dC := dr_c dB c3.fp c3.fz
      have h21 : ps4 21 = upd (ps3 21) d r3 := by rw [c3.fp 21 (by omega), va_s]
      have hz21 : z4 21 = upd (z3 21) (2 * d) s3 := by rw [c3.fz 21 (by omega), va_s]
      refine ⟨dC.d1, dC.d2, dC.d3, ⟨d + 1, by omega, by rw [va_s], by rw [va_s], fun k hk => ?_⟩, dC.d5⟩
      obtain ⟨d', q1, q2, q3, q4⟩ := dC.d4
      have hdd : d' = d := by
        rw [c3.fz 33 (by omega), hz3] at q3
        exact (nI_inj (by omega) (by omega) q3).symm
      subst hdd
      rw [va_n (show (21 : Nat) ≠ 33 by omega), va_s, va_n (show (21 : Nat) ≠ 14 by omega), va_n (show (21 : Nat) ≠ 22 by omega), va_n (show (22 : Nat) ≠ 14 by omega), va_s]
      by_cases k1 : k = d'
      · subst k1
        rw [upd_n (by omega), upd_s, upd_s, h21, hz21, upd_s, upd_s]
        exact ⟨g4, g1⟩
      · rw [upd_n (by omega), upd_n (by omega), upd_n k1]
        exact q4 k (by omega)
    · have m1 := c3.mo
      have m2' := b3.mo
      have m3' : po (va_up (va_up ps4 22 (upd (ps4 22) d r4)) 14 (fun _ => nI (d + 1))) = po ps4 := by
        unfold po
        rw [va_n (by omega), va_n (by omega)]
      have m4' : po (va_up ps3 21 (upd (ps3 21) d r3)) = po ps3 := by
        unfold po
        rw [va_n (by omega)]
      omega
  · obtain ⟨ps2, z2, a1, a2, a3, a4, a5⟩ := stop_e (nm := nm) h 5 (by decide)
    have hd : d = 4 := by omega
    subst hd
    rw [if_neg (show ¬ nI 4 < (4 : Int32) by decide), a1, bd_s]
    refine ⟨ps2, z2, rfl, fun J hJ => ?_, a3.rd, fun g => absurd g a4, fun g => absurd g a4, fun i hi => a3.fz i (by omega)⟩
    rw [f2, if_pos (show nI 4 = 4 from rfl), a2, bd_s, wrong1 a5, bd_s, if_neg (show ¬ (1 : Int32) = 0 by decide), hJ z2 a5]
theorem rule_e {L n : Nat} {tx ps z : Nat → Nat → Int32} {nm : Nat → Int64} (h : Rd L tx ps z) (e : ps 3 0 = 0) (h0 : ps 0 0 ≠ 0) (hd : Dr n nm ps z) : ∃ ps1 ps2 z2 : Nat → Nat → Int32, qX4_readRule tx ps nm = some ps1 ∧ qX4_readSemicolon tx ps1 nm = some ps2 ∧ qX11_ruleLine z = some z2 ∧ Rr n nm L tx ps z ps2 z2 := by
  have hJ : ∀ y : Nat → Nat → Int32, y 28 0 ≠ 0 → (fun (z_2 : Nat → Nat → Int32) => bd (qX11_semicolon z_2) fun z_3 => some z_3) y = some y := by
    intro y hy
    dsimp only
    rw [semi_w hy, bd_s]
  have key : ∃ ps1 z1 : Nat → Nat → Int32, qX4_readRule tx ps nm = some ps1 ∧ qX11_ruleLine z = (fun (z_2 : Nat → Nat → Int32) => bd (qX11_semicolon z_2) fun z_3 => some z_3) z1 ∧ Rr n nm L tx ps z ps1 z1 := by
    obtain ⟨r3, c3, d3, e3, _⟩ := word_e (nm := nm) (wi := 3) h e (by omega)
    obtain ⟨r4, c4, d4, e4, _⟩ := word_e (nm := nm) (wi := 4) h e (by omega)
    obtain ⟨r5, c5, d5, e5, _⟩ := word_e (nm := nm) (wi := 5) h e (by omega)
    obtain ⟨r6, c6, d6, e6, _⟩ := word_e (nm := nm) (wi := 6) h e (by omega)
    obtain ⟨r7, c7, d7, e7, _⟩ := word_e (nm := nm) (wi := 7) h e (by omega)
    obtain ⟨r8, c8, d8, e8, _⟩ := word_e (nm := nm) (wi := 8) h e (by omega)
    unfold qX4_readRule qX11_ruleLine
    rw [c3, d3, bd_s, bd_s, jn_e]
    by_cases q3 : r3 = 0
    · rw [if_pos q3, if_pos q3, c4, d4, bd_s, bd_s]
      by_cases q4 : r4 = 0
      · rw [if_pos q4, if_pos q4, c5, d5, bd_s, bd_s]
        by_cases q5 : r5 = 0
        · rw [if_pos q5, if_pos q5, c6, d6, bd_s, bd_s]
          by_cases q6 : r6 = 0
          · rw [if_pos q6, if_pos q6, c7, d7, bd_s, bd_s]
            by_cases q7 : r7 = 0
            · rw [if_pos q7, if_pos q7, c8, d8, bd_s, bd_s]
              by_cases q8 : r8 = 0
              · obtain ⟨ps1, z1, a1, a2, a3, a4, a5⟩ := stop_e (nm := nm) h 1 (by decide)
                rw [if_pos q8, if_pos q8, a1, bd_s, a2, bd_s]
                exact ⟨ps1, z1, rfl, rfl, a3.rd, fun g => absurd g a4, fun g => absurd g a4, fun i hi => a3.fz i (by omega)⟩
              · obtain ⟨ps1, z1, a1, a2, a3⟩ := rl_dark h e h0 hd
                rw [if_neg q8, if_neg q8, a1, bd_s]
                exact ⟨ps1, z1, rfl, a2 _ hJ, a3⟩
            · obtain ⟨ps1, z1, a1, a2, a3⟩ := rl_off h e h0 hd
              rw [if_neg q7, if_neg q7, a1, bd_s]
              exact ⟨ps1, z1, rfl, a2 _ hJ, a3⟩
          · obtain ⟨ps1, z1, a1, a2, a3⟩ := rl_strict h e h0 hd
            rw [if_neg q6, if_neg q6]
            exact ⟨ps1, z1, a1, a2 _, a3⟩
        · obtain ⟨ps1, z1, a1, a2, a3⟩ := rl_patience h e h0 hd
          rw [if_neg q5, if_neg q5]
          exact ⟨ps1, z1, a1, a2 _, a3⟩
      · obtain ⟨ps1, z1, a1, a2, a3⟩ := rl_retry h e h0 hd
        rw [if_neg q4, if_neg q4]
        exact ⟨ps1, z1, a1, a2 _, a3⟩
    · obtain ⟨ps1, z1, a1, a2, a3⟩ := rl_loss h e h0 hd
      rw [if_neg q3, if_neg q3]
      exact ⟨ps1, z1, a1, a2 _, a3⟩
  obtain ⟨ps1, z1, k1, k2, k3⟩ := key
  obtain ⟨ps2, z2, s1, s2, s3⟩ := semi_e (nm := nm) k3.rd
  refine ⟨ps1, ps2, z2, k1, s1, ?_, s3.rd, fun g => dr_c (k3.dr (s3.ok g)) s3.fp s3.fz, fun g => Nat.lt_of_lt_of_le (k3.mo (s3.ok g)) s3.mo, fun i hi => by rw [s3.fz i (by omega), k3.fr i hi]⟩
  rw [k2]
  dsimp only
  rw [s2, bd_s]
