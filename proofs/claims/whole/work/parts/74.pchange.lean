-- the changes
theorem pr_ev {v : Nat → Nat → Int32} {w : Nat → Nat → Int32} {r : Nat → Int32} {n : Nat} {t : Nat} {s : Nat} {c : Nat} {p : Nat} {l : Nat} {f : Nat} {o : Nat} {x : Int32} {pk : Int32 × Int32} (h : Ev v n t s c p l f pk w r) (ho6 : o < n) (h12 : n ≤ 12) (hpp : p ≤ 12) (hll : l ≤ 12) : Ev v n t s c p l f pk (va_up w 10 (upd (w 10) o x)) (upd r (51 + 12 * o) x) :=
  ⟨(by first | exact h.tick | (simp (disch := omega) only [va_n, va_s, upd_n, upd_s]; exact h.tick) | (simp (disch := omega) only [va_n, va_s, upd_n, upd_s]; done)),
    (by first | exact h.tickr | (simp (disch := omega) only [va_n, va_s, upd_n, upd_s]; exact h.tickr) | (simp (disch := omega) only [va_n, va_s, upd_n, upd_s]; done)),
    (by first | exact h.dark | (simp (disch := omega) only [va_n, va_s, upd_n, upd_s]; exact h.dark) | (simp (disch := omega) only [va_n, va_s, upd_n, upd_s]; done)),
    (by first | exact h.fuse | (simp (disch := omega) only [va_n, va_s, upd_n, upd_s]; exact h.fuse) | (simp (disch := omega) only [va_n, va_s, upd_n, upd_s]; done)),
    (by first | exact h.fuser | (simp (disch := omega) only [va_n, va_s, upd_n, upd_s]; exact h.fuser) | (simp (disch := omega) only [va_n, va_s, upd_n, upd_s]; done)),
    (by first | exact h.retry | (simp (disch := omega) only [va_n, va_s, upd_n, upd_s]; exact h.retry) | (simp (disch := omega) only [va_n, va_s, upd_n, upd_s]; done)),
    (by first | exact h.strict | (simp (disch := omega) only [va_n, va_s, upd_n, upd_s]; exact h.strict) | (simp (disch := omega) only [va_n, va_s, upd_n, upd_s]; done)),
    (by first | exact h.blk | (simp (disch := omega) only [va_n, va_s, upd_n, upd_s]; exact h.blk) | (simp (disch := omega) only [va_n, va_s, upd_n, upd_s]; done)),
    (by first | exact h.trips | (simp (disch := omega) only [va_n, va_s, upd_n, upd_s]; exact h.trips) | (simp (disch := omega) only [va_n, va_s, upd_n, upd_s]; done)),
    (by first | exact h.peak | (simp (disch := omega) only [va_n, va_s, upd_n, upd_s]; exact h.peak) | (simp (disch := omega) only [va_n, va_s, upd_n, upd_s]; done)),
    (by first | exact h.peakr | (simp (disch := omega) only [va_n, va_s, upd_n, upd_s]; exact h.peakr) | (simp (disch := omega) only [va_n, va_s, upd_n, upd_s]; done)),
    (by first | exact h.pat | (simp (disch := omega) only [va_n, va_s, upd_n, upd_s]; exact h.pat) | (simp (disch := omega) only [va_n, va_s, upd_n, upd_s]; done)),
    (by first | exact h.wait | (simp (disch := omega) only [va_n, va_s, upd_n, upd_s]; exact h.wait) | (simp (disch := omega) only [va_n, va_s, upd_n, upd_s]; done)),
    (by first | exact h.waitr | (simp (disch := omega) only [va_n, va_s, upd_n, upd_s]; exact h.waitr) | (simp (disch := omega) only [va_n, va_s, upd_n, upd_s]; done)),
    (by first | exact h.sent | (simp (disch := omega) only [va_n, va_s, upd_n, upd_s]; exact h.sent) | (simp (disch := omega) only [va_n, va_s, upd_n, upd_s]; done)),
    (by first | exact h.sentr | (simp (disch := omega) only [va_n, va_s, upd_n, upd_s]; exact h.sentr) | (simp (disch := omega) only [va_n, va_s, upd_n, upd_s]; done)),
    (by first | exact h.clear | (simp (disch := omega) only [va_n, va_s, upd_n, upd_s]; exact h.clear) | (simp (disch := omega) only [va_n, va_s, upd_n, upd_s]; done)),
    (by first | exact h.pm | (simp (disch := omega) only [va_n, va_s, upd_n, upd_s]; exact h.pm) | (simp (disch := omega) only [va_n, va_s, upd_n, upd_s]; done)),
    (by first | exact h.pmr | (simp (disch := omega) only [va_n, va_s, upd_n, upd_s]; exact h.pmr) | (simp (disch := omega) only [va_n, va_s, upd_n, upd_s]; done)),
    (by first | exact h.lm | (simp (disch := omega) only [va_n, va_s, upd_n, upd_s]; exact h.lm) | (simp (disch := omega) only [va_n, va_s, upd_n, upd_s]; done)),
    (by first | exact h.lmr | (simp (disch := omega) only [va_n, va_s, upd_n, upd_s]; exact h.lmr) | (simp (disch := omega) only [va_n, va_s, upd_n, upd_s]; done)),
    (by first | exact h.lost | (simp (disch := omega) only [va_n, va_s, upd_n, upd_s]; exact h.lost) | (simp (disch := omega) only [va_n, va_s, upd_n, upd_s]; done)),
    (fun k hk => by first | exact h.sby k hk | (simp (disch := omega) only [va_n, va_s, upd_n, upd_s]; exact h.sby k (by omega))),
    (fun k hk => by first | exact h.lby k hk | (simp (disch := omega) only [va_n, va_s, upd_n, upd_s]; exact h.lby k (by omega))),
    (fun k hk => by
      by_cases e : k = o
      · subst e
        simp (disch := omega) only [va_n, va_s, upd_n, upd_s]
      · simp (disch := omega) only [va_n, va_s, upd_n, upd_s]
        exact h.prio k hk),
    (fun o ho => by first | exact h.wants o ho | (simp (disch := omega) only [va_n, va_s, upd_n, upd_s]; exact h.wants o ho)),
    (fun o ho => by first | exact h.how o ho | (simp (disch := omega) only [va_n, va_s, upd_n, upd_s]; exact h.how o ho)),
    (fun o ho => by first | exact h.left o ho | (simp (disch := omega) only [va_n, va_s, upd_n, upd_s]; exact h.left o ho)),
    (fun o ho => by first | exact h.starts o ho | (simp (disch := omega) only [va_n, va_s, upd_n, upd_s]; exact h.starts o ho)),
    (fun o ho => by first | exact h.ran o ho | (simp (disch := omega) only [va_n, va_s, upd_n, upd_s]; exact h.ran o ho)),
    (fun o ho hw => by first | exact h.asked o ho hw | (simp (disch := omega) only [va_n, va_s, upd_n, upd_s] at hw ⊢; exact h.asked o ho hw) | (simp (disch := omega) only [va_n, va_s, upd_n, upd_s]; exact h.asked o ho hw)),
    (fun o ho => by first | exact h.stop o ho | (simp (disch := omega) only [va_n, va_s, upd_n, upd_s]; exact h.stop o ho)),
    (fun o ho => by first | exact h.poll o ho | (simp (disch := omega) only [va_n, va_s, upd_n, upd_s]; exact h.poll o ho)),
    (fun o ho => by first | exact h.mark o ho | (simp (disch := omega) only [va_n, va_s, upd_n, upd_s]; exact h.mark o ho)),
    (fun o ho => by first | exact h.time o ho | (simp (disch := omega) only [va_n, va_s, upd_n, upd_s]; exact h.time o ho)),
    (fun o ho => by first | exact h.known o ho | (simp (disch := omega) only [va_n, va_s, upd_n, upd_s]; exact h.known o ho)),
    (fun o ho => by first | exact h.exp o ho | (simp (disch := omega) only [va_n, va_s, upd_n, upd_s]; exact h.exp o ho)),
    (fun o ho1 ho2 => by first | exact h.knz o ho1 ho2 | (simp (disch := omega) only [va_n, va_s, upd_n, upd_s]; exact h.knz o ho1 ho2)),
    (fun k hk => by first | exact h.msg k hk | (simp (disch := omega) only [va_n, va_s, upd_n, upd_s]; exact h.msg k (by omega))),
    (fun k hk => by first | exact h.pres k hk | (simp (disch := omega) only [va_n, va_s, upd_n, upd_s]; exact h.pres k (by omega))),
    (fun k hk => by first | exact h.lear k hk | (simp (disch := omega) only [va_n, va_s, upd_n, upd_s]; exact h.lear k (by omega)))⟩
theorem pr_iv {w : Nat → Nat → Int32} {n : Nat} {t : Nat} {s : Nat} {c : Nat} {p : Nat} {l : Nat} {f : Nat} {o : Nat} {x : Int32} (hi : Iv n t s c p l f w) : Iv n t s c p l f (va_up w 10 (upd (w 10) o x)) :=
  ⟨(by first | exact hi.n12 | (simp (disch := omega) only [va_n, va_s, upd_n, upd_s]; exact hi.n12) | (have := hi.n12; omega)),
    (by first | exact hi.tb | (simp (disch := omega) only [va_n, va_s, upd_n, upd_s]; exact hi.tb) | (have := hi.tb; omega)),
    (by first | exact hi.sb | (simp (disch := omega) only [va_n, va_s, upd_n, upd_s]; exact hi.sb) | (have := hi.sb; omega)),
    (by first | exact hi.cb | (simp (disch := omega) only [va_n, va_s, upd_n, upd_s]; exact hi.cb) | (have := hi.cb; omega)),
    (by first | exact hi.fb | (simp (disch := omega) only [va_n, va_s, upd_n, upd_s]; exact hi.fb) | (have := hi.fb; omega)),
    (fun o ho => by first | exact hi.st o ho | (simp (disch := omega) only [va_n, va_s, upd_n, upd_s]; exact hi.st o ho)),
    (fun o ho => by first | exact hi.mk o ho | (simp (disch := omega) only [va_n, va_s, upd_n, upd_s]; exact hi.mk o ho)),
    (fun o ho hw => by first | exact hi.idle o ho hw | (simp (disch := omega) only [va_n, va_s, upd_n, upd_s] at hw ⊢; exact hi.idle o ho hw) | (simp (disch := omega) only [va_n, va_s, upd_n, upd_s]; exact hi.idle o ho hw)),
    (by first | exact hi.s01 | (simp (disch := omega) only [va_n, va_s, upd_n, upd_s]; exact hi.s01) | (have := hi.s01; omega)),
    (by first | exact hi.c01 | (simp (disch := omega) only [va_n, va_s, upd_n, upd_s]; exact hi.c01) | (have := hi.c01; omega)),
    (fun k hk => by first | exact hi.msg k hk | (simp (disch := omega) only [va_n, va_s, upd_n, upd_s]; exact hi.msg k hk)),
    (by first | exact hi.ordP | (simp (disch := omega) only [va_n, va_s, upd_n, upd_s]; exact hi.ordP)),
    (by first | exact hi.ordL | (simp (disch := omega) only [va_n, va_s, upd_n, upd_s]; exact hi.ordL)),
    (fun i h1 h2 => by first | exact hi.kn i h1 h2 | (simp (disch := omega) only [va_n, va_s, upd_n, upd_s]; exact hi.kn i h1 h2))⟩
theorem smn_n {v : Nat → Nat → Int32} {z : Nat → Nat → Int32} {n : Nat} {tx ps hs : Nat → Nat → Int32} {vn : Nat → Int64} {ww : Nat → Nat → Nat → Int32} (h : Smn n tx ps v vn hs ww z) {w2 : Nat → Nat → Int32} {r2 : Nat → Int32} (hN : Now v n w2 r2) : Smn n tx ps v vn hs (va_up ww 0 w2) (va_up z 10 r2) := by
  refine smn_h h (fun i hi => va_n (by omega)) (by rw [va_s, va_s]; exact hN) ⟨?_, ?_, ?_⟩
  · obtain ⟨o, c, b1, b2, b3, b4, b5, b6⟩ := h.his.ring
    refine ⟨o, c, b1, b2, b3, b4, by rw [va_n (by omega), b5], fun j hj => ?_⟩
    rw [va_n (by omega), va_n (by omega)]
    exact b6 j hj
  · rw [va_n (by omega)]
    exact h.his.flag
  · intro j hj hb
    rw [va_n (by omega), va_n (by omega)]
    exact h.his.slot j hj hb
theorem st_blackout : St_blackout Sim := by
  intro tx ps nm v vn hs ww z ⟨n, h⟩ x
  have h0 := smn_0 h
  have hz := z0_0 z
  have hp := h0.pl
  have hn := hp.hn
  have hzz : va_up z 0 (fun _ => 0) = z0 z := rfl
  obtain ⟨hs2, ww2, z2, q1, q2, q3, q4, q5⟩ := keep_e h0
  have hz2 : z2 0 0 = 0 := by rw [q3 0 (by omega) (by omega)]; exact hz
  have hp2 := q5.pl
  obtain ⟨t, f, y0, ht, s, c, p, l, hE, hI, hs72, hpk⟩ := q5.now.ex
  have hpp := hI.ordP.pn
  have hll := hI.ordL.pn
  unfold qX11_blackout qX10_blackout
  rw [bs_e, hzz, isIn_1_50, bd_s, range_e, bd_s]
  by_cases hx : 1 ≤ x ∧ x ≤ 50
  · rw [if_pos hx, if_pos hx, may1 hz, bd2_s, if_pos rfl, if_neg (show ¬ (1 : Int32) = 0 by decide), q1, bd2_s, q2, bd_s]
    obtain ⟨w3, r3, a1, a2, a3, a4⟩ := dark_e hp2 hE hI x
    rw [a1, bd_s, bs_e, a2, bd_s, bs_e]
    exact ⟨0, _, _, _, _, _, rfl, rfl, Or.inl ⟨rfl, by rw [va_n (by omega)]; exact hz2, by rw [va_s, va_s]; exact a3.dark⟩, n, smn_n q5 ⟨t, f, y0, ht, s, 0, 0, l, a3, a4, hs72, hpk⟩⟩
  · rw [if_neg hx, if_neg hx, may0 hz (by decide), bd2_s, if_neg (show ¬ (3 : Nat) = 0 by decide), if_pos rfl]
    exact ⟨3, 0, hs, ww, 0, va_up (z0 z) 0 (fun _ => 1), rfl, rfl, Or.inr ⟨rfl, by rw [va_s]⟩, n, smn_e h0 _⟩
theorem st_setFuse : St_setFuse Sim := by
  intro tx ps nm v vn hs ww z ⟨n, h⟩ x
  have h0 := smn_0 h
  have hz := z0_0 z
  have hp := h0.pl
  have hn := hp.hn
  have hzz : va_up z 0 (fun _ => 0) = z0 z := rfl
  obtain ⟨hs2, ww2, z2, q1, q2, q3, q4, q5⟩ := keep_e h0
  have hz2 : z2 0 0 = 0 := by rw [q3 0 (by omega) (by omega)]; exact hz
  have hp2 := q5.pl
  obtain ⟨t, f, y0, ht, s, c, p, l, hE, hI, hs72, hpk⟩ := q5.now.ex
  have hpp := hI.ordP.pn
  have hll := hI.ordL.pn
  unfold qX11_setFuse qX10_setFuse
  rw [bs_e, hzz, isIn_1_9999, bd_s, range_e, bd_s]
  by_cases hx : 1 ≤ x ∧ x ≤ 9999
  · rw [if_pos hx, if_pos hx, may1 hz, bd2_s, if_pos rfl, if_neg (show ¬ (1 : Int32) = 0 by decide), q1, bd2_s, q2, bd_s, bs_e, bs_e]
    obtain ⟨k, k1', k9, kb, ek⟩ := one_of (m := 9999) rfl hx
    subst ek
    exact ⟨0, _, _, _, _, _, rfl, rfl, Or.inl ⟨rfl, by rw [va_n (by omega)]; exact hz2, hE.fuse.trans hE.fuser.symm⟩, n, smn_n q5 ⟨t, k, y0, ht, s, c, p, l, fz_ev hE hn (by omega) (by omega), fz_iv hI ⟨k1', k9⟩, hs72, hpk⟩⟩
  · rw [if_neg hx, if_neg hx, may0 hz (by decide), bd2_s, if_neg (show ¬ (3 : Nat) = 0 by decide), if_pos rfl]
    exact ⟨3, 0, hs, ww, 0, va_up (z0 z) 0 (fun _ => 1), rfl, rfl, Or.inr ⟨rfl, by rw [va_s]⟩, n, smn_e h0 _⟩
theorem st_setPriority : St_setPriority Sim := by
  intro tx ps nm v vn hs ww z ⟨n, h⟩ x y
  have h0 := smn_0 h
  have hz := z0_0 z
  have hp := h0.pl
  have hn := hp.hn
  have hzz : va_up z 0 (fun _ => 0) = z0 z := rfl
  obtain ⟨hs2, ww2, z2, q1, q2, q3, q4, q5⟩ := keep_e h0
  have hz2 : z2 0 0 = 0 := by rw [q3 0 (by omega) (by omega)]; exact hz
  have hp2 := q5.pl
  obtain ⟨t, f, y0, ht, s, c, p, l, hE, hI, hs72, hpk⟩ := q5.now.ex
  have hpp := hI.ordP.pn
  have hll := hI.ordL.pn
  unfold qX11_setPriority qX10_setPriority
  rw [bs_e, hzz]
  rcases outl_e (tx := tx) (ps := ps) (nm := nm) (vn := vn) (hs := hs) (ww := ww) x hp with ⟨a1, a2, o, ho, ex⟩ | ⟨a1, a2⟩
  · subst ex
    rw [a1, a2, bd_s, bd_s, may1 hz, bd2_s, if_pos rfl, if_neg (show ¬ (1 : Int32) = 0 by decide), isIn_0_9, bd_s, range_e, bd_s]
    by_cases hy : 0 ≤ y ∧ y ≤ 9
    · rw [if_pos hy, if_pos hy, may1 hz, bd2_s, if_pos rfl, if_neg (show ¬ (1 : Int32) = 0 by decide), q1, bd2_s, q2, bd_s, ag0, bd_s, bd_s]
      rw [gdn (i := o) (by omega) (by omega), gdn (i := o) (by omega) (by omega), cl (i := o) (by omega), bs_e, gdn (i := 51 + 12 * o) (by omega) (by omega), gdn (i := 51 + 12 * o) (by omega) (by omega), cl (i := 51 + 12 * o) (by omega), bs_e]
      exact ⟨0, _, _, _, _, _, rfl, rfl, Or.inl ⟨rfl, by rw [va_n (by omega)]; exact hz2, hE.prio o ho⟩, n, smn_n q5 ⟨t, f, y0, ht, s, c, p, l, pr_ev hE ho hn (by omega) (by omega), pr_iv hI, hs72, hpk⟩⟩
    · rw [if_neg hy, if_neg hy, may0 hz (by decide), bd2_s, if_neg (show ¬ (3 : Nat) = 0 by decide), if_pos rfl]
      exact ⟨3, 0, hs, ww, 0, va_up (z0 z) 0 (fun _ => 2), rfl, rfl, Or.inr (Or.inr ⟨rfl, by rw [va_s]⟩), n, smn_e h0 _⟩
  · rw [a1, a2, bd_s, bd_s, may0 hz (by decide), bd2_s, if_neg (show ¬ (2 : Nat) = 0 by decide), if_pos rfl]
    exact ⟨2, 0, hs, ww, 0, va_up (z0 z) 0 (fun _ => 1), rfl, rfl, Or.inr (Or.inl ⟨rfl, by rw [va_s]⟩), n, smn_e h0 _⟩
