-- a need in step
theorem sumf_s (n : Nat) (f : Nat → Int32) : sumf (n + 1) f = sumf n f + f n := by
  unfold sumf
  rw [lfold_snoc, Nat.zero_add]
theorem sumf_g {n : Nat} {f g : Nat → Int32} (h : ∀ k, k < n → g k = f k) : sumf n g = sumf n f := by
  unfold sumf
  exact lfold_cong n 0 0 (fun i s _ hi => by rw [h i (by omega)])
theorem sumf_one {f g : Nat → Int32} {a : Nat} : ∀ (n : Nat), a < n → (∀ k, k < n → k ≠ a → g k = f k) → g a = f a + 1 → sumf n g = sumf n f + 1
  | 0, h, _, _ => absurd h (Nat.not_lt_zero a)
  | n + 1, h, h1, h2 => by
    rw [sumf_s, sumf_s]
    by_cases c : a = n
    · subst c
      rw [h2, sumf_g (fun k hk => h1 k (by omega) (by omega)), Int32.add_assoc]
    · rw [sumf_one n (by omega) (fun k hk hka => h1 k (by omega) hka) h2, h1 n (by omega) (by omega), Int32.add_assoc, Int32.add_comm 1, ← Int32.add_assoc]
theorem pop_set {x : Int32} {b : Nat} (hb : b < 12) (h : bt x b = false) : pop (x ||| (1 <<< (nI b &&& 31))) = pop x + 1 := by
  unfold pop
  refine sumf_one 12 hb (fun k hk hkb => by rw [b01_set _ (by omega) (by omega), if_neg hkb]) ?_
  rw [b01_set _ (by omega) (by omega), if_pos rfl, b01_0.mpr h]
  rfl
theorem needs_e {v : Nat → Nat → Int32} {n : Nat} (hv : v 0 0 = nI n) (hn : n ≤ 12) (hb : ∀ o, o < n → ∀ i, 12 ≤ i → i < 32 → bt (v 14 o) i = false) : qX5_needsInAll v = some (sumf n (fun o => pop (v 14 o))) := by
  unfold qX5_needsInAll sumf
  refine lp (L := fun g i s => qX5_needsInAll_L4 v _ g s i) (N := n) (K := fun s => some s) (fun _ _ => True) ?_ ?_ n fu 0 0 (by omega) (by unfold fu; omega) trivial
  · intro g k s hk _
    refine ⟨?_, trivial⟩
    show qX5_needsInAll_L4 v _ (g + 1) s (nI k) = _
    rw [qX5_needsInAll_L4, hv, if_neg (nle hk (by omega)), gdn (by omega) (by omega), cl (by omega), bitc_e _ (hb k hk), bd_s, p1]
    rfl
  · intro g s _
    show qX5_needsInAll_L4 v _ (g + 1) s (nI n) = _
    rw [qX5_needsInAll_L4, hv, if_pos (Int32.le_refl _)]
theorem outn_w {tx ps : Nat → Nat → Int32} {nm : Nat → Int64} (h : ¬ ps 3 0 = 0) : qX4_readOutletName tx ps nm = some (-1, ps) := by
  have hc : qX4_nameHere tx ps nm = some (0, ps) := by
    unfold qX4_nameHere
    rw [if_neg h]
  unfold qX4_readOutletName
  rw [hc, bd2_s, if_pos (show lg_cmp 0 0 = 0 from lg_eq.mpr rfl)]
theorem look_w {z : Nat → Nat → Int32} (h : ¬ z 28 0 = 0) : qX11_looksUp z = some (0, z) := by
  have hr : qX11_isName z = some 0 := by
    unfold qX11_isName
    rw [wrong1 h, bd_s, if_neg (show ¬ (1 : Int32) = 0 by decide)]
  unfold qX11_looksUp
  simp only [jn_e]
  rw [hr, bd_s, if_pos rfl, fails_w h, bd_s, wrong1 h, bd_s, if_neg (show ¬ (1 : Int32) = 0 by decide)]
theorem semC_w {tx ps : Nat → Nat → Int32} {nm : Nat → Int64} (h : ¬ ps 3 0 = 0) : qX4_readSemicolon tx ps nm = some ps := by
  unfold qX4_readSemicolon
  rw [if_neg h]
theorem d1_need {n : Nat} {nm : Nat → Int64} {a6 a15 a16 a17 a18 a20 y18 y19 y22 y30 y31 : Nat → Int32} (h : D1 n nm a6 a15 a16 a17 a18 a20 y18 y19 y22 y30 y31) {a b k : Nat} (ha : a < n) (hb : b < n) (hbt : bt (a20 a) b = false) (hk : y31 0 = nI k) (hk16 : k < 16) : D1 n nm a6 a15 a16 a17 a18 (upd a20 a (a20 a ||| (1 <<< (nI b &&& 31)))) y18 (upd y19 a (a20 a ||| (1 <<< (nI b &&& 31)))) y22 y30 (fun _ => nI (k + 1)) := by
  have hn := h.n12
  refine ⟨h.n12, h.p6, h.z30, h.four, h.rng, fun o ho => ?_, fun o ho i h1 h2 => ?_, ?_, h.name⟩
  · by_cases c : o = a
    · subst c
      rw [upd_s, upd_s]
    · rw [upd_n c, upd_n c]
      exact h.need o ho
  · by_cases c : o = a
    · subst c
      rw [upd_s, b_set _ (by omega) h2, h.neb o ho i h1 h2, decide_eq_false (by omega)]
      rfl
    · rw [upd_n c]
      exact h.neb o ho i h1 h2
  · obtain ⟨k2, q1, q2, q3⟩ := h.many
    have hkk : k2 = k := nI_inj (by omega) (by omega) (q2.symm.trans hk)
    subst hkk
    refine ⟨k2 + 1, by omega, rfl, ?_⟩
    rw [← p1, ← q3]
    refine sumf_one n ha (fun o ho hoa => by rw [upd_n hoa]) ?_
    rw [upd_s]
    exact pop_set (by omega) hbt
theorem need_e {L n : Nat} {tx ps z : Nat → Nat → Int32} {nm : Nat → Int64} (h : Rd L tx ps z) (e : ps 3 0 = 0) (h0 : ps 0 0 ≠ 0) (hd : Dr n nm ps z) : ∃ ps1 ps2 z2 : Nat → Nat → Int32, qX4_readNeed tx ps nm = some ps1 ∧ qX4_readSemicolon tx ps1 nm = some ps2 ∧ qX11_needLine z = some z2 ∧ Rr n nm L tx ps z ps2 z2 := by
  have e2 : z 28 0 = 0 := by rw [← h.err]; exact e
  have hn := hd.d1.n12
  obtain ⟨k, hk, q2, q3⟩ := hd.d1.many
  have hA : qX5_needsInAll (fun i => ps (6 + i)) = some (nI k) := by
    rw [← q3]
    exact needs_e (v := fun i => ps (6 + i)) hd.d1.p6 hn hd.d1.neb
  unfold qX4_readNeed qX11_needLine
  rw [hA, bd_s, jn_e, q2]
  by_cases c : k < 16
  · obtain ⟨ps2, z2, a1, a2, a3, a4, a5, a6⟩ := adv_e (nm := nm) h e
    have hm := a6 h0
    have d := dr_c hd a3.fp a3.fz
    rw [if_pos (show nI k < (16 : Int32) from (nI_ltI (b := 16) (by omega) (by omega)).mpr c), if_neg (show ¬ nI k = 16 from fun g => by have := nI_inj (b := 16) (by omega) (by omega) g; omega), a1, bd_s]
    dsimp only
    rw [wrong0 e2, bd_s, if_pos rfl, a2, bd_s]
    rcases look_e (nm := nm) a3.rd hn d.d1.p6 d.d1.z30 d.d1.name with ⟨ps3, r3, z3, b1, b2, b3, b4, b5⟩ | ⟨a, ha, b1, b2, b3, b4⟩ | ⟨ps3, z3, b1, b2, b3, b4, b5, b6, b7⟩
    · rw [b1, bd2_s, jn_e, if_neg b4]
      dsimp only
      rw [outn_w b4, bd2_s, if_neg b4, b2, bd2_s, wrong1 b5, bd_s, jn_e, if_neg (show ¬ (1 : Int32) = 0 by decide)]
      dsimp only
      rw [wrong1 b5, bd_s, jn_e, if_neg (show ¬ (1 : Int32) = 0 by decide)]
      dsimp only
      rw [look_w b5, bd2_s, wrong1 b5, bd_s, if_neg (show ¬ (1 : Int32) = 0 by decide)]
      exact ⟨ps3, ps3, z3, rfl, semC_w b4, rfl, b3.rd, fun g => absurd g b4, fun g => absurd g b4, fun i hi => by rw [b3.fz i (by omega), a3.fz i (by omega)]⟩
    · obtain ⟨ps4, z4, c1, c2, c3, c4, c5, _⟩ := adv_e (nm := nm) a3.rd a4
      have d' := dr_c d c3.fp c3.fz
      have hm2 := c3.mo
      have hae : ¬ nI a = -1 := nIm1 (by omega)
      rw [b1, bd2_s, jn_e, if_pos b3, c1, bd_s]
      dsimp only
      rw [b2, bd2_s, wrong0 b4, bd_s, jn_e, if_pos rfl, if_neg hae]
      dsimp only
      rw [wrong0 b4, bd_s, jn_e, if_pos rfl, c2, bd_s]
      dsimp only
      rcases look_e (nm := nm) c3.rd hn d'.d1.p6 d'.d1.z30 d'.d1.name with ⟨ps5, r5, z5, g1, g2, g3, g4, g5⟩ | ⟨b, hb, g1, g2, g3, g4⟩ | ⟨ps5, z5, g1, g2, g3, g4, g5, g6, g7⟩
      · rw [g1, bd2_s, if_neg g4, g2, bd2_s, wrong1 g5, bd_s, if_neg (show ¬ (1 : Int32) = 0 by decide)]
        exact ⟨ps5, ps5, z5, rfl, semC_w g4, rfl, g3.rd, fun g => absurd g g4, fun g => absurd g g4, fun i hi => by rw [g3.fz i (by omega), c3.fz i (by omega), a3.fz i (by omega)]⟩
      · have hbe : ¬ nI b = -1 := nIm1 (by omega)
        obtain ⟨ps6, z6, s1, s2, s3, s4, s5⟩ := stop_e (nm := nm) c3.rd 3 (by decide)
        have hstop : ∃ pa pb zb : Nat → Nat → Int32, some ps6 = some pa ∧ qX4_readSemicolon tx pa nm = some pb ∧ some z6 = some zb ∧ Rr n nm L tx ps z pb zb := ⟨ps6, ps6, z6, rfl, semC_w s4, rfl, s3.rd, fun g => absurd g s4, fun g => absurd g s4, fun i hi => by rw [s3.fz i (by omega), c3.fz i (by omega), a3.fz i (by omega)]⟩
        rw [g1, bd2_s, if_pos g3, if_neg hae, if_neg hbe, g2, bd2_s, wrong0 g4, bd_s, if_pos rfl]
        simp only [jn_e]
        rw [if_neg hbe]
        by_cases hab : nI b = nI a
        · rw [if_pos hab, if_pos hab.symm, s1, bd_s, s2, bd_s, wrong1 s5, bd_s, if_neg (show ¬ (1 : Int32) = 0 by decide)]
          exact hstop
        · rw [if_neg hab, if_neg (fun g => hab g.symm), gdn (i := a) (by omega) (by omega), gdn (i := a) (by omega) (by omega), cl (i := a) (by omega), isIn_e _ (show b < 32 by omega), bd_s, d'.d1.need a ha, shr1 _ (show b < 32 by omega)]
          by_cases hbt : bt (ps4 20 a) b = true
          · rw [if_neg (show ¬ b01 (ps4 20 a) b = 0 by rw [b01_1.mpr hbt]; decide), if_pos (b01_1.mpr hbt), s1, bd_s, s2, bd_s, wrong1 s5, bd_s, if_neg (show ¬ (1 : Int32) = 0 by decide), gdn (i := a) (by omega) (by omega)]
            exact hstop
          · have hbf : bt (ps4 20 a) b = false := by
              cases hh : bt (ps4 20 a) b
              · rfl
              · exact absurd hh hbt
            have hz31 : z4 31 0 = nI k := by rw [c3.fz 31 (by omega), a3.fz 31 (by omega)]; exact q2
            have hrd : Rd L tx (va_up ps4 20 (upd (ps4 20) a (ps4 20 a ||| (1 <<< (nI b &&& 31))))) (va_up (va_up z4 19 (upd (z4 19) a (ps4 20 a ||| (1 <<< (nI b &&& 31))))) 31 (fun _ => nI (k + 1))) := rd_c c3.rd (fun i hi => va_n (by omega)) (fun i hi => by rw [va_n (by omega), va_n (by omega)])
            obtain ⟨ps7, z7, t1, t2, t3, t4, t5, _⟩ := adv_e (nm := nm) hrd (by rw [va_n (by omega)]; exact c4)
            obtain ⟨ps8, z8, u1, u2, u3⟩ := semi_e (nm := nm) t3.rd
            have hpo : po (va_up ps4 20 (upd (ps4 20) a (ps4 20 a ||| (1 <<< (nI b &&& 31))))) = po ps4 := by
              unfold po
              rw [va_n (by omega)]
            rw [if_pos (b01_0.mpr hbf), gdn (i := a) (by omega) (by omega), gdn (i := a) (by omega) (by omega), bs_e, t1, bd_s, if_neg (show ¬ b01 (ps4 20 a) b = 1 by rw [b01_0.mpr hbf]; decide), wrong0 g4, bd_s, if_pos rfl, gdn (i := a) (by omega) (by omega), gdn (i := a) (by omega) (by omega), bs_e, bs_e, va_n (show (31 : Nat) ≠ 19 by omega), hz31, p1, t2, bd_s, u2, bd_s]
            refine ⟨ps7, ps8, z8, rfl, u1, rfl, u3.rd, fun _ => ?_, fun _ => ?_, fun i hi => by rw [u3.fz i (by omega), t3.fz i (by omega), va_n (by omega), va_n (by omega), c3.fz i (by omega), a3.fz i (by omega)]⟩
            · exact dr_c (dr_c (⟨d1_need d'.d1 ha hb hbf hz31 c, d'.d2, d'.d3, d'.d4, d'.d5⟩ : Dr n nm (va_up ps4 20 (upd (ps4 20) a (ps4 20 a ||| (1 <<< (nI b &&& 31))))) (va_up (va_up z4 19 (upd (z4 19) a (ps4 20 a ||| (1 <<< (nI b &&& 31))))) 31 (fun _ => nI (k + 1)))) t3.fp t3.fz) u3.fp u3.fz
            · have := t3.mo
              have := u3.mo
              omega
      · rw [g1, bd2_s, if_neg g6, g2, bd2_s, wrong0 g4, bd_s, if_pos rfl]
        simp only [jn_e]
        rw [if_true, g3, bd_s, wrong1 g7, bd_s, if_neg (show ¬ (1 : Int32) = 0 by decide)]
        exact ⟨ps5, ps5, z5, rfl, semC_w g6, rfl, g5.rd, fun g => absurd g g6, fun g => absurd g g6, fun i hi => by rw [g5.fz i (by omega), c3.fz i (by omega), a3.fz i (by omega)]⟩
    · rw [b1, bd2_s, jn_e, if_neg b6]
      dsimp only
      rw [outn_w b6, bd2_s, if_neg b6, b2, bd2_s, wrong0 b4, bd_s, jn_e, if_pos rfl, if_pos rfl, b3, bd_s]
      dsimp only
      rw [wrong1 b7, bd_s, jn_e, if_neg (show ¬ (1 : Int32) = 0 by decide)]
      dsimp only
      rw [look_w b7, bd2_s, wrong1 b7, bd_s, if_neg (show ¬ (1 : Int32) = 0 by decide)]
      exact ⟨ps3, ps3, z3, rfl, semC_w b6, rfl, b5.rd, fun g => absurd g b6, fun g => absurd g b6, fun i hi => by rw [b5.fz i (by omega), a3.fz i (by omega)]⟩
  · obtain ⟨ps2, z2, a1, a2, a3, a4, a5⟩ := stop_e (nm := nm) h 5 (by decide)
    have hk16 : k = 16 := by omega
    subst hk16
    rw [if_neg (show ¬ nI 16 < (16 : Int32) by decide), a1, bd_s, if_pos (show nI 16 = 16 from rfl), a2, bd_s]
    dsimp only
    rw [wrong1 a5, bd_s, if_neg (show ¬ (1 : Int32) = 0 by decide)]
    exact ⟨ps2, ps2, z2, rfl, semC_w a4, rfl, a3.rd, fun g => absurd g a4, fun g => absurd g a4, fun i hi => a3.fz i (by omega)⟩
