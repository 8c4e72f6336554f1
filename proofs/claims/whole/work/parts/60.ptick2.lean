-- a tick, whole
theorem tick_e {v : Nat → Nat → Int32} {z : Nat → Nat → Int32} {w : Nat → Nat → Int32} {r : Nat → Int32} {n : Nat} {t : Nat} {s : Nat} {c : Nat} {p : Nat} {l : Nat} {f : Nat} {pk : Int32 × Int32} (hp : Pl v z n) (h : Ev v n t s c p l f pk w r) (hi : Iv n t s c p l f w) (hs : s ≤ 72 * t) (ht : t + 1 ≤ 6000) (hpk : 0 ≤ pk.1 ∧ 0 ≤ pk.2) : ∃ w2 r2 x s2 c2 p2 l2, qX9_passTick v w = some w2 ∧ qX11_ticks z r = some (x, r2) ∧
    Ev v n (t + 1) s2 c2 p2 l2 f (up2 pk x) w2 r2 ∧ Iv n (t + 1) s2 c2 p2 l2 f w2 ∧ s2 ≤ 72 * (t + 1) := by
  have h12 := hi.n12
  obtain ⟨w3, r3, c3, p3, a1, a2, a3, a4⟩ := darks_all (fun (w_3 : Nat → Nat → Int32) => bd (qX9_isDark v w_3) fun r_6 => if r_6 = 0 then bd (qX9_receiveMessages v w_3) fun w_7 => bd (qX9_entitled v w_7) fun r_8 => bd (qX3_learnOrder v w_7 r_8) fun w_9 => (qX9_passTick_L83 v (fun (w_12 : Nat → Nat → Int32) => bd (qX9_sendPolls v w_12) fun w_14 => bd (qX9_sendGrants v w_14) fun w_15 => bd (qX9_readMeter v w_15) fun w_16 => some w_16) fu 0 w_9) else (bs (va_up w_3 0 (fun _ => ((w_3 0 0) + 1))) fun w_17 => some w_17))
    (fun (rw_3 : Nat → Int32) => bd (qX11_isDark z rw_3) fun r_6 => if r_6 = 0 then (qX11_ticks_L69 z (rw_3 11) (fun (rw_10 : Nat → Int32) => (bs (upd rw_10 11 0) fun rw_12 => bd (qX11_learns z rw_12) fun rw_13 => (qX11_ticks_L104 z (fun (rw_16 : Nat → Int32) => bd (qX11_polls z rw_16) fun rw_18 => bd2 (qX11_grantsOf z rw_18 1) fun r_19 rw_20 => bd (qX11_drawn z rw_20) fun r_21 => (jn (fun (y_22 : Int32) => (bs (upd rw_20 10 y_22) fun rw_23 => (qX11_ticks_L168 z r_21 (fun (rw_27 : Nat → Int32) => (bs (upd rw_27 0 ((rw_27 0) + 1)) fun rw_32 => if r_21 ≤ (rw_32 6) then some (r_21, rw_32) else (bs (upd rw_32 3 ((rw_32 3) + 1)) fun rw_33 => bd (qX11_darkens z rw_33 5) fun rw_34 => some (r_21, rw_34)))) fu 0 rw_23))) fun j164 => if r_21 ≤ (rw_20 10) then (j164 (rw_20 10)) else (j164 r_21))) fu 0 rw_13))) fu 0 rw_3) else (bs (upd rw_3 0 ((rw_3 0) + 1)) fun rw_35 => some (0, rw_35))) hp h hi
  unfold qX9_passTick qX11_ticks
  rw [a1, a2, isDark_e (v := v) a3]
  have hD : qX9_isDark v w3 = some (if w3 1 0 ≤ w3 0 0 then 0 else 1) := by
    unfold qX9_isDark
    split <;> rfl
  rw [hD, bd_s]
  have hpp := a4.ordP.pn
  have hll := a4.ordL.pn
  by_cases e : w3 1 0 ≤ w3 0 0
  · rw [if_pos e, if_pos rfl, bd_s, if_pos rfl, a3.waitr]
    obtain ⟨w4, r4, p4, b1, b2, b3, b4⟩ := rcv_all (fun (w_3 : Nat → Nat → Int32) => (bs (va_up w_3 31 (fun _ => 0)) fun w_11 => some w_11)) (fun (rw_10 : Nat → Int32) => (bs (upd rw_10 11 0) fun rw_12 => bd (qX11_learns z rw_12) fun rw_13 => (qX11_ticks_L104 z (fun (rw_16 : Nat → Int32) => bd (qX11_polls z rw_16) fun rw_18 => bd2 (qX11_grantsOf z rw_18 1) fun r_19 rw_20 => bd (qX11_drawn z rw_20) fun r_21 => (jn (fun (y_22 : Int32) => (bs (upd rw_20 10 y_22) fun rw_23 => (qX11_ticks_L168 z r_21 (fun (rw_27 : Nat → Int32) => (bs (upd rw_27 0 ((rw_27 0) + 1)) fun rw_32 => if r_21 ≤ (rw_32 6) then some (r_21, rw_32) else (bs (upd rw_32 3 ((rw_32 3) + 1)) fun rw_33 => bd (qX11_darkens z rw_33 5) fun rw_34 => some (r_21, rw_34)))) fu 0 rw_23))) fun j164 => if r_21 ≤ (rw_20 10) then (j164 (rw_20 10)) else (j164 r_21))) fu 0 rw_13))) hp a3 a4
    have hpp4 := b4.ordP.pn
    have hcl := cl_ev b3 h12 (by omega) (by omega)
    have hci := cl_iv b4
    obtain ⟨w5, r5, l5, c1, c2, c3, c4⟩ := learn_e hp hcl hci
    obtain ⟨w6, r6, s6, c6, d1, d2, d3, d4, d5, d6⟩ := acts_all (fun (w_12 : Nat → Nat → Int32) => bd (qX9_sendPolls v w_12) fun w_14 => bd (qX9_sendGrants v w_14) fun w_15 => bd (qX9_readMeter v w_15) fun w_16 => some w_16) (fun (rw_16 : Nat → Int32) => bd (qX11_polls z rw_16) fun rw_18 => bd2 (qX11_grantsOf z rw_18 1) fun r_19 rw_20 => bd (qX11_drawn z rw_20) fun r_21 => (jn (fun (y_22 : Int32) => (bs (upd rw_20 10 y_22) fun rw_23 => (qX11_ticks_L168 z r_21 (fun (rw_27 : Nat → Int32) => (bs (upd rw_27 0 ((rw_27 0) + 1)) fun rw_32 => if r_21 ≤ (rw_32 6) then some (r_21, rw_32) else (bs (upd rw_32 3 ((rw_32 3) + 1)) fun rw_33 => bd (qX11_darkens z rw_33 5) fun rw_34 => some (r_21, rw_34)))) fu 0 rw_23))) fun j164 => if r_21 ≤ (rw_20 10) then (j164 (rw_20 10)) else (j164 r_21))) hp c3 c4 rfl hs
    obtain ⟨w7, r7, s7, c7, f1, f2, f3, f4, f5, f6⟩ := polls_all hp d3 d4 d5 d6
    obtain ⟨w8, r8, x8, s8, c8, g1, g2, g3, g4⟩ := grants_all hp f3 f4 f5 f6
    obtain ⟨w9, r9, c9, p9, k1, k2, k3, k4⟩ := meter_e hp g3 g4 ht
    refine ⟨w9, r9, _, s8, c9, p9, l5, ?_, ?_, k3, k4, ?_⟩
    · unfold qX9_receiveMessages
      rw [b1, bs_e, bd_s, entitled_e hp hcl, bd_s, c1, bd_s, d1, f1, bd_s, g1, bd_s, k1, bd_s]
    · rw [b2, bs_e, c2, bd_s, d2, f2, bd_s, g2, bd2_s]
      exact k2
    · have := g4.sb
      omega
  · rw [if_neg e, if_neg (show ¬ (1 : Int32) = 0 by decide), bd_s, if_neg (show ¬ (1 : Int32) = 0 by decide), bs_e, bs_e, a3.tick, a3.tickr, p1]
    refine ⟨_, _, 0, s, c3, p3, l, rfl, rfl, ?_, tk_iv a4 ht, by omega⟩
    have : up2 pk 0 = pk := by
      unfold up2
      rw [if_neg (Int32.not_lt.mpr hpk.1), if_neg (Int32.not_lt.mpr hpk.2)]
    rw [this]
    exact tk_ev a3 h12 (by omega) (by omega)
