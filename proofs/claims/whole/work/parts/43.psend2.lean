-- a message is sent: the relation stays
theorem sum_up  (u : Nat → Int32) (m : Nat) (hm : m < 6) : upd u m (u m + 1) 0 + upd u m (u m + 1) 1 + upd u m (u m + 1) 2 + upd u m (u m + 1) 3 + upd u m (u m + 1) 4 + upd u m (u m + 1) 5 = u 0 + u 1 + u 2 + u 3 + u 4 + u 5 + 1 := by
  rcases (show m = 0 ∨ m = 1 ∨ m = 2 ∨ m = 3 ∨ m = 4 ∨ m = 5 by omega) with h | h | h | h | h | h <;> subst h <;> simp (disch := omega) only [upd_s, upd_n] <;> ac_rfl
theorem lost_ev {v : Nat → Nat → Int32} {w : Nat → Nat → Int32} {r : Nat → Int32} {n : Nat} {t : Nat} {s : Nat} {c : Nat} {p : Nat} {l : Nat} {f : Nat} {kd : Nat} {pk : Int32 × Int32} (h : Ev v n t s c p l f pk w r) (hi : Iv n t s c p l f w) (hk : kd < 6) : Ev v n t (s + 1) c p l f pk (lostW w s kd) (lostR r s kd) := by
  have h12 := hi.n12
  have hpp := hi.ordP.pn
  have hll := hi.ordL.pn
  have hcb := hi.cb
  exact ⟨(by first | exact h.tick | (simp (disch := omega) only [lostW, lostR, va_n, va_s, upd_n, upd_s]; exact h.tick) | (simp (disch := omega) only [lostW, lostR, va_n, va_s, upd_n, upd_s]; done)),
    (by first | exact h.tickr | (simp (disch := omega) only [lostW, lostR, va_n, va_s, upd_n, upd_s]; exact h.tickr) | (simp (disch := omega) only [lostW, lostR, va_n, va_s, upd_n, upd_s]; done)),
    (by first | exact h.dark | (simp (disch := omega) only [lostW, lostR, va_n, va_s, upd_n, upd_s]; exact h.dark) | (simp (disch := omega) only [lostW, lostR, va_n, va_s, upd_n, upd_s]; done)),
    (by first | exact h.fuse | (simp (disch := omega) only [lostW, lostR, va_n, va_s, upd_n, upd_s]; exact h.fuse) | (simp (disch := omega) only [lostW, lostR, va_n, va_s, upd_n, upd_s]; done)),
    (by first | exact h.fuser | (simp (disch := omega) only [lostW, lostR, va_n, va_s, upd_n, upd_s]; exact h.fuser) | (simp (disch := omega) only [lostW, lostR, va_n, va_s, upd_n, upd_s]; done)),
    (by first | exact h.retry | (simp (disch := omega) only [lostW, lostR, va_n, va_s, upd_n, upd_s]; exact h.retry) | (simp (disch := omega) only [lostW, lostR, va_n, va_s, upd_n, upd_s]; done)),
    (by first | exact h.strict | (simp (disch := omega) only [lostW, lostR, va_n, va_s, upd_n, upd_s]; exact h.strict) | (simp (disch := omega) only [lostW, lostR, va_n, va_s, upd_n, upd_s]; done)),
    (by first | exact h.blk | (simp (disch := omega) only [lostW, lostR, va_n, va_s, upd_n, upd_s]; exact h.blk) | (simp (disch := omega) only [lostW, lostR, va_n, va_s, upd_n, upd_s]; done)),
    (by first | exact h.trips | (simp (disch := omega) only [lostW, lostR, va_n, va_s, upd_n, upd_s]; exact h.trips) | (simp (disch := omega) only [lostW, lostR, va_n, va_s, upd_n, upd_s]; done)),
    (by first | exact h.peak | (simp (disch := omega) only [lostW, lostR, va_n, va_s, upd_n, upd_s]; exact h.peak) | (simp (disch := omega) only [lostW, lostR, va_n, va_s, upd_n, upd_s]; done)),
    (by first | exact h.peakr | (simp (disch := omega) only [lostW, lostR, va_n, va_s, upd_n, upd_s]; exact h.peakr) | (simp (disch := omega) only [lostW, lostR, va_n, va_s, upd_n, upd_s]; done)),
    (by first | exact h.pat | (simp (disch := omega) only [lostW, lostR, va_n, va_s, upd_n, upd_s]; exact h.pat) | (simp (disch := omega) only [lostW, lostR, va_n, va_s, upd_n, upd_s]; done)),
    (by first | exact h.wait | (simp (disch := omega) only [lostW, lostR, va_n, va_s, upd_n, upd_s]; exact h.wait) | (simp (disch := omega) only [lostW, lostR, va_n, va_s, upd_n, upd_s]; done)),
    (by first | exact h.waitr | (simp (disch := omega) only [lostW, lostR, va_n, va_s, upd_n, upd_s]; exact h.waitr) | (simp (disch := omega) only [lostW, lostR, va_n, va_s, upd_n, upd_s]; done)),
    (by simp (disch := omega) only [lostW, va_n, va_s]),
    (by simp (disch := omega) only [lostR, upd_n, upd_s]),
    (by first | exact h.clear | (simp (disch := omega) only [lostW, lostR, va_n, va_s, upd_n, upd_s]; exact h.clear) | (simp (disch := omega) only [lostW, lostR, va_n, va_s, upd_n, upd_s]; done)),
    (by first | exact h.pm | (simp (disch := omega) only [lostW, lostR, va_n, va_s, upd_n, upd_s]; exact h.pm) | (simp (disch := omega) only [lostW, lostR, va_n, va_s, upd_n, upd_s]; done)),
    (by first | exact h.pmr | (simp (disch := omega) only [lostW, lostR, va_n, va_s, upd_n, upd_s]; exact h.pmr) | (simp (disch := omega) only [lostW, lostR, va_n, va_s, upd_n, upd_s]; done)),
    (by first | exact h.lm | (simp (disch := omega) only [lostW, lostR, va_n, va_s, upd_n, upd_s]; exact h.lm) | (simp (disch := omega) only [lostW, lostR, va_n, va_s, upd_n, upd_s]; done)),
    (by first | exact h.lmr | (simp (disch := omega) only [lostW, lostR, va_n, va_s, upd_n, upd_s]; exact h.lmr) | (simp (disch := omega) only [lostW, lostR, va_n, va_s, upd_n, upd_s]; done)),
    (by
      simp (disch := omega) only [lostW, lostR, va_n, va_s, upd_n, upd_s]
      rw [sum_up _ _ hk, h.lost]),
    (fun k hk => by
      by_cases e : k = kd
      · subst e
        simp (disch := omega) only [lostW, lostR, va_n, va_s, upd_n, upd_s]
        rw [h.sby k hk]
      · simp (disch := omega) only [lostW, lostR, va_n, va_s, upd_n, upd_s]
        exact h.sby k hk),
    (fun k hk => by
      by_cases e : k = kd
      · subst e
        simp (disch := omega) only [lostW, lostR, va_n, va_s, upd_n, upd_s]
        rw [h.lby k hk]
      · simp (disch := omega) only [lostW, lostR, va_n, va_s, upd_n, upd_s]
        exact h.lby k hk),
    (fun o ho => by first | exact h.prio o ho | (simp (disch := omega) only [lostW, lostR, va_n, va_s, upd_n, upd_s]; exact h.prio o ho)),
    (fun o ho => by first | exact h.wants o ho | (simp (disch := omega) only [lostW, lostR, va_n, va_s, upd_n, upd_s]; exact h.wants o ho)),
    (fun o ho => by first | exact h.how o ho | (simp (disch := omega) only [lostW, lostR, va_n, va_s, upd_n, upd_s]; exact h.how o ho)),
    (fun o ho => by first | exact h.left o ho | (simp (disch := omega) only [lostW, lostR, va_n, va_s, upd_n, upd_s]; exact h.left o ho)),
    (fun o ho => by first | exact h.starts o ho | (simp (disch := omega) only [lostW, lostR, va_n, va_s, upd_n, upd_s]; exact h.starts o ho)),
    (fun o ho => by first | exact h.ran o ho | (simp (disch := omega) only [lostW, lostR, va_n, va_s, upd_n, upd_s]; exact h.ran o ho)),
    (fun o ho hw => by first | exact h.asked o ho hw | (simp (disch := omega) only [lostW, lostR, va_n, va_s, upd_n, upd_s] at hw ⊢; exact h.asked o ho hw) | (simp (disch := omega) only [lostW, lostR, va_n, va_s, upd_n, upd_s]; exact h.asked o ho hw)),
    (fun o ho => by first | exact h.stop o ho | (simp (disch := omega) only [lostW, lostR, va_n, va_s, upd_n, upd_s]; exact h.stop o ho)),
    (fun o ho => by first | exact h.poll o ho | (simp (disch := omega) only [lostW, lostR, va_n, va_s, upd_n, upd_s]; exact h.poll o ho)),
    (fun o ho => by first | exact h.mark o ho | (simp (disch := omega) only [lostW, lostR, va_n, va_s, upd_n, upd_s]; exact h.mark o ho)),
    (fun o ho => by first | exact h.time o ho | (simp (disch := omega) only [lostW, lostR, va_n, va_s, upd_n, upd_s]; exact h.time o ho)),
    (fun o ho => by first | exact h.known o ho | (simp (disch := omega) only [lostW, lostR, va_n, va_s, upd_n, upd_s]; exact h.known o ho)),
    (fun o ho => by first | exact h.exp o ho | (simp (disch := omega) only [lostW, lostR, va_n, va_s, upd_n, upd_s]; exact h.exp o ho)),
    (fun o ho1 ho2 => by first | exact h.knz o ho1 ho2 | (simp (disch := omega) only [lostW, lostR, va_n, va_s, upd_n, upd_s]; exact h.knz o ho1 ho2)),
    (fun k hk => by first | exact h.msg k hk | (simp (disch := omega) only [lostW, lostR, va_n, va_s, upd_n, upd_s]; exact h.msg k (by omega))),
    (fun k hk => by first | exact h.pres k hk | (simp (disch := omega) only [lostW, lostR, va_n, va_s, upd_n, upd_s]; exact h.pres k (by omega))),
    (fun k hk => by first | exact h.lear k hk | (simp (disch := omega) only [lostW, lostR, va_n, va_s, upd_n, upd_s]; exact h.lear k (by omega)))⟩
theorem kept_ev {v : Nat → Nat → Int32} {w : Nat → Nat → Int32} {r : Nat → Int32} {n : Nat} {t : Nat} {s : Nat} {c : Nat} {p : Nat} {l : Nat} {f : Nat} {o : Nat} {kd : Nat} {x : Int32} {pk : Int32 × Int32} (h : Ev v n t s c p l f pk w r) (hi : Iv n t s c p l f w) (hk : kd < 6) (hc : c < 72) : Ev v n t (s + 1) (c + 1) p l f pk (keptW w s c kd o x) (keptR r s c kd o x) := by
  have h12 := hi.n12
  have hpp := hi.ordP.pn
  have hll := hi.ordL.pn
  exact ⟨(by first | exact h.tick | (simp (disch := omega) only [keptW, keptR, va_n, va_s, upd_n, upd_s]; exact h.tick) | (simp (disch := omega) only [keptW, keptR, va_n, va_s, upd_n, upd_s]; done)),
    (by first | exact h.tickr | (simp (disch := omega) only [keptW, keptR, va_n, va_s, upd_n, upd_s]; exact h.tickr) | (simp (disch := omega) only [keptW, keptR, va_n, va_s, upd_n, upd_s]; done)),
    (by first | exact h.dark | (simp (disch := omega) only [keptW, keptR, va_n, va_s, upd_n, upd_s]; exact h.dark) | (simp (disch := omega) only [keptW, keptR, va_n, va_s, upd_n, upd_s]; done)),
    (by first | exact h.fuse | (simp (disch := omega) only [keptW, keptR, va_n, va_s, upd_n, upd_s]; exact h.fuse) | (simp (disch := omega) only [keptW, keptR, va_n, va_s, upd_n, upd_s]; done)),
    (by first | exact h.fuser | (simp (disch := omega) only [keptW, keptR, va_n, va_s, upd_n, upd_s]; exact h.fuser) | (simp (disch := omega) only [keptW, keptR, va_n, va_s, upd_n, upd_s]; done)),
    (by first | exact h.retry | (simp (disch := omega) only [keptW, keptR, va_n, va_s, upd_n, upd_s]; exact h.retry) | (simp (disch := omega) only [keptW, keptR, va_n, va_s, upd_n, upd_s]; done)),
    (by first | exact h.strict | (simp (disch := omega) only [keptW, keptR, va_n, va_s, upd_n, upd_s]; exact h.strict) | (simp (disch := omega) only [keptW, keptR, va_n, va_s, upd_n, upd_s]; done)),
    (by first | exact h.blk | (simp (disch := omega) only [keptW, keptR, va_n, va_s, upd_n, upd_s]; exact h.blk) | (simp (disch := omega) only [keptW, keptR, va_n, va_s, upd_n, upd_s]; done)),
    (by first | exact h.trips | (simp (disch := omega) only [keptW, keptR, va_n, va_s, upd_n, upd_s]; exact h.trips) | (simp (disch := omega) only [keptW, keptR, va_n, va_s, upd_n, upd_s]; done)),
    (by first | exact h.peak | (simp (disch := omega) only [keptW, keptR, va_n, va_s, upd_n, upd_s]; exact h.peak) | (simp (disch := omega) only [keptW, keptR, va_n, va_s, upd_n, upd_s]; done)),
    (by first | exact h.peakr | (simp (disch := omega) only [keptW, keptR, va_n, va_s, upd_n, upd_s]; exact h.peakr) | (simp (disch := omega) only [keptW, keptR, va_n, va_s, upd_n, upd_s]; done)),
    (by first | exact h.pat | (simp (disch := omega) only [keptW, keptR, va_n, va_s, upd_n, upd_s]; exact h.pat) | (simp (disch := omega) only [keptW, keptR, va_n, va_s, upd_n, upd_s]; done)),
    (by simp (disch := omega) only [keptW, va_n, va_s]),
    (by simp (disch := omega) only [keptR, upd_n, upd_s]),
    (by simp (disch := omega) only [keptW, va_n, va_s]),
    (by simp (disch := omega) only [keptR, upd_n, upd_s]),
    (by first | exact h.clear | (simp (disch := omega) only [keptW, keptR, va_n, va_s, upd_n, upd_s]; exact h.clear) | (simp (disch := omega) only [keptW, keptR, va_n, va_s, upd_n, upd_s]; done)),
    (by first | exact h.pm | (simp (disch := omega) only [keptW, keptR, va_n, va_s, upd_n, upd_s]; exact h.pm) | (simp (disch := omega) only [keptW, keptR, va_n, va_s, upd_n, upd_s]; done)),
    (by first | exact h.pmr | (simp (disch := omega) only [keptW, keptR, va_n, va_s, upd_n, upd_s]; exact h.pmr) | (simp (disch := omega) only [keptW, keptR, va_n, va_s, upd_n, upd_s]; done)),
    (by first | exact h.lm | (simp (disch := omega) only [keptW, keptR, va_n, va_s, upd_n, upd_s]; exact h.lm) | (simp (disch := omega) only [keptW, keptR, va_n, va_s, upd_n, upd_s]; done)),
    (by first | exact h.lmr | (simp (disch := omega) only [keptW, keptR, va_n, va_s, upd_n, upd_s]; exact h.lmr) | (simp (disch := omega) only [keptW, keptR, va_n, va_s, upd_n, upd_s]; done)),
    (by first | exact h.lost | (simp (disch := omega) only [keptW, keptR, va_n, va_s, upd_n, upd_s]; exact h.lost) | (simp (disch := omega) only [keptW, keptR, va_n, va_s, upd_n, upd_s]; done)),
    (fun k hk => by
      by_cases e : k = kd
      · subst e
        simp (disch := omega) only [keptW, keptR, va_n, va_s, upd_n, upd_s]
        rw [h.sby k hk]
      · simp (disch := omega) only [keptW, keptR, va_n, va_s, upd_n, upd_s]
        exact h.sby k hk),
    (fun k hk => by first | exact h.lby k hk | (simp (disch := omega) only [keptW, keptR, va_n, va_s, upd_n, upd_s]; exact h.lby k (by omega))),
    (fun o ho => by first | exact h.prio o ho | (simp (disch := omega) only [keptW, keptR, va_n, va_s, upd_n, upd_s]; exact h.prio o ho)),
    (fun o ho => by first | exact h.wants o ho | (simp (disch := omega) only [keptW, keptR, va_n, va_s, upd_n, upd_s]; exact h.wants o ho)),
    (fun o ho => by first | exact h.how o ho | (simp (disch := omega) only [keptW, keptR, va_n, va_s, upd_n, upd_s]; exact h.how o ho)),
    (fun o ho => by first | exact h.left o ho | (simp (disch := omega) only [keptW, keptR, va_n, va_s, upd_n, upd_s]; exact h.left o ho)),
    (fun o ho => by first | exact h.starts o ho | (simp (disch := omega) only [keptW, keptR, va_n, va_s, upd_n, upd_s]; exact h.starts o ho)),
    (fun o ho => by first | exact h.ran o ho | (simp (disch := omega) only [keptW, keptR, va_n, va_s, upd_n, upd_s]; exact h.ran o ho)),
    (fun o ho hw => by first | exact h.asked o ho hw | (simp (disch := omega) only [keptW, keptR, va_n, va_s, upd_n, upd_s] at hw ⊢; exact h.asked o ho hw) | (simp (disch := omega) only [keptW, keptR, va_n, va_s, upd_n, upd_s]; exact h.asked o ho hw)),
    (fun o ho => by first | exact h.stop o ho | (simp (disch := omega) only [keptW, keptR, va_n, va_s, upd_n, upd_s]; exact h.stop o ho)),
    (fun o ho => by first | exact h.poll o ho | (simp (disch := omega) only [keptW, keptR, va_n, va_s, upd_n, upd_s]; exact h.poll o ho)),
    (fun o ho => by first | exact h.mark o ho | (simp (disch := omega) only [keptW, keptR, va_n, va_s, upd_n, upd_s]; exact h.mark o ho)),
    (fun o ho => by first | exact h.time o ho | (simp (disch := omega) only [keptW, keptR, va_n, va_s, upd_n, upd_s]; exact h.time o ho)),
    (fun o ho => by first | exact h.known o ho | (simp (disch := omega) only [keptW, keptR, va_n, va_s, upd_n, upd_s]; exact h.known o ho)),
    (fun o ho => by first | exact h.exp o ho | (simp (disch := omega) only [keptW, keptR, va_n, va_s, upd_n, upd_s]; exact h.exp o ho)),
    (fun o ho1 ho2 => by first | exact h.knz o ho1 ho2 | (simp (disch := omega) only [keptW, keptR, va_n, va_s, upd_n, upd_s]; exact h.knz o ho1 ho2)),
    (fun k hk => by
      by_cases e : k = c
      · subst e
        simp (disch := omega) only [keptW, keptR, va_n, va_s, upd_n, upd_s]
        exact ⟨trivial, trivial, trivial⟩
      · simp (disch := omega) only [keptW, keptR, va_n, va_s, upd_n, upd_s]
        exact h.msg k (by omega)),
    (fun k hk => by first | exact h.pres k hk | (simp (disch := omega) only [keptW, keptR, va_n, va_s, upd_n, upd_s]; exact h.pres k (by omega))),
    (fun k hk => by first | exact h.lear k hk | (simp (disch := omega) only [keptW, keptR, va_n, va_s, upd_n, upd_s]; exact h.lear k (by omega)))⟩
theorem lost_iv {w : Nat → Nat → Int32} {n : Nat} {t : Nat} {s : Nat} {c : Nat} {p : Nat} {l : Nat} {f : Nat} {kd : Nat} (hi : Iv n t s c p l f w) (hs : s + 1 ≤ 72 * t + 72) : Iv n t (s + 1) c p l f (lostW w s kd) :=
  ⟨(by first | exact hi.n12 | (simp (disch := omega) only [lostW, lostR, va_n, va_s, upd_n, upd_s]; exact hi.n12) | (have := hi.n12; omega)),
    (by first | exact hi.tb | (simp (disch := omega) only [lostW, lostR, va_n, va_s, upd_n, upd_s]; exact hi.tb) | (have := hi.tb; omega)),
    hs,
    (by first | exact hi.cb | (simp (disch := omega) only [lostW, lostR, va_n, va_s, upd_n, upd_s]; exact hi.cb) | (have := hi.cb; omega)),
    (by first | exact hi.fb | (simp (disch := omega) only [lostW, lostR, va_n, va_s, upd_n, upd_s]; exact hi.fb) | (have := hi.fb; omega)),
    (fun o ho => by first | exact hi.st o ho | (simp (disch := omega) only [lostW, lostR, va_n, va_s, upd_n, upd_s]; exact hi.st o ho)),
    (fun o ho => by first | exact hi.mk o ho | (simp (disch := omega) only [lostW, lostR, va_n, va_s, upd_n, upd_s]; exact hi.mk o ho)),
    (fun o ho hw => by first | exact hi.idle o ho hw | (simp (disch := omega) only [lostW, lostR, va_n, va_s, upd_n, upd_s] at hw ⊢; exact hi.idle o ho hw) | (simp (disch := omega) only [lostW, lostR, va_n, va_s, upd_n, upd_s]; exact hi.idle o ho hw)),
    (by first | exact hi.s01 | (simp (disch := omega) only [lostW, lostR, va_n, va_s, upd_n, upd_s]; exact hi.s01) | (have := hi.s01; omega)),
    (by first | exact hi.c01 | (simp (disch := omega) only [lostW, lostR, va_n, va_s, upd_n, upd_s]; exact hi.c01) | (have := hi.c01; omega)),
    (fun k hk => by first | exact hi.msg k hk | (simp (disch := omega) only [lostW, lostR, va_n, va_s, upd_n, upd_s]; exact hi.msg k hk)),
    (by first | exact hi.ordP | (simp (disch := omega) only [lostW, lostR, va_n, va_s, upd_n, upd_s]; exact hi.ordP)),
    (by first | exact hi.ordL | (simp (disch := omega) only [lostW, lostR, va_n, va_s, upd_n, upd_s]; exact hi.ordL)),
    (fun i h1 h2 => by first | exact hi.kn i h1 h2 | (simp (disch := omega) only [lostW, lostR, va_n, va_s, upd_n, upd_s]; exact hi.kn i h1 h2))⟩
theorem kept_iv {w : Nat → Nat → Int32} {n : Nat} {t : Nat} {s : Nat} {c : Nat} {p : Nat} {l : Nat} {f : Nat} {o : Nat} {kd : Nat} {x : Int32} (hi : Iv n t s c p l f w) (hs : s + 1 ≤ 72 * t + 72) (hk6 : kd < 6) (ho6 : o < n) (hc : c < 72) (hx : kd = 3 → x = 0 ∨ x = 1 ∨ x = 2 ∨ x = 3) : Iv n t (s + 1) (c + 1) p l f (keptW w s c kd o x) :=
  ⟨(by first | exact hi.n12 | (simp (disch := omega) only [keptW, keptR, va_n, va_s, upd_n, upd_s]; exact hi.n12) | (have := hi.n12; omega)),
    (by first | exact hi.tb | (simp (disch := omega) only [keptW, keptR, va_n, va_s, upd_n, upd_s]; exact hi.tb) | (have := hi.tb; omega)),
    hs,
    (by omega),
    (by first | exact hi.fb | (simp (disch := omega) only [keptW, keptR, va_n, va_s, upd_n, upd_s]; exact hi.fb) | (have := hi.fb; omega)),
    (fun o ho => by first | exact hi.st o ho | (simp (disch := omega) only [keptW, keptR, va_n, va_s, upd_n, upd_s]; exact hi.st o ho)),
    (fun o ho => by first | exact hi.mk o ho | (simp (disch := omega) only [keptW, keptR, va_n, va_s, upd_n, upd_s]; exact hi.mk o ho)),
    (fun o ho hw => by first | exact hi.idle o ho hw | (simp (disch := omega) only [keptW, keptR, va_n, va_s, upd_n, upd_s] at hw ⊢; exact hi.idle o ho hw) | (simp (disch := omega) only [keptW, keptR, va_n, va_s, upd_n, upd_s]; exact hi.idle o ho hw)),
    (by first | exact hi.s01 | (simp (disch := omega) only [keptW, keptR, va_n, va_s, upd_n, upd_s]; exact hi.s01) | (have := hi.s01; omega)),
    (by first | exact hi.c01 | (simp (disch := omega) only [keptW, keptR, va_n, va_s, upd_n, upd_s]; exact hi.c01) | (have := hi.c01; omega)),
    (fun k hk => by
      by_cases e : k = c
      · subst e
        refine ⟨kd, o, hk6, ho6, ?_, ?_, ?_⟩
        · simp (disch := omega) only [keptW, va_n, va_s, upd_n, upd_s]
        · simp (disch := omega) only [keptW, va_n, va_s, upd_n, upd_s]
        · intro e
          simp (disch := omega) only [keptW, va_n, va_s, upd_n, upd_s]
          exact hx e
      · simp (disch := omega) only [keptW, va_n, va_s, upd_n, upd_s]
        exact hi.msg k (by omega)),
    (by first | exact hi.ordP | (simp (disch := omega) only [keptW, keptR, va_n, va_s, upd_n, upd_s]; exact hi.ordP)),
    (by first | exact hi.ordL | (simp (disch := omega) only [keptW, keptR, va_n, va_s, upd_n, upd_s]; exact hi.ordL)),
    (fun i h1 h2 => by first | exact hi.kn i h1 h2 | (simp (disch := omega) only [keptW, keptR, va_n, va_s, upd_n, upd_s]; exact hi.kn i h1 h2))⟩
/-- the outlets of u, the rest of r -/
def mix (u r : Nat → Int32) : Nat → Int32 := fun i => if 51 ≤ i ∧ i < 195 then u i else r i
theorem upd_apply' (u : Nat → Int32) (i j : Nat) (y : Int32) : upd u i y j = if j = i then y else u j := rfl
theorem send_e {v : Nat → Nat → Int32} {z : Nat → Nat → Int32} {w : Nat → Nat → Int32} {r : Nat → Int32} {n : Nat} {t : Nat} {s : Nat} {c : Nat} {p : Nat} {l : Nat} {f : Nat} {o : Nat} {kd : Nat} {x : Int32} {pk : Int32 × Int32} (hp : Pl v z n) (h : Ev v n t s c p l f pk w r) (hi : Iv n t s c p l f w) (hk : kd < 6) (ho : o < n) (hc : c < 72) (hs : s + 1 ≤ 72 * t + 72) (hx : kd = 3 → x = 0 ∨ x = 1 ∨ x = 2 ∨ x = 3) :
    ∃ w2 r2 c2, qX8_send v w (nI kd) (nI o) x = some w2 ∧ qX11_sends z r (nI kd) (nI o) x = some r2 ∧ Ev v n t (s + 1) c2 p l f pk w2 r2 ∧ Iv n t (s + 1) c2 p l f w2 ∧ c ≤ c2 ∧ c2 ≤ c + 1 ∧
      (∀ i, i < 28 → w2 i = w i) ∧ (∀ i, 51 ≤ i → i < 195 → r2 i = r i) ∧ (r2 0 = r 0 ∧ r2 7 = r 7) ∧ (∀ rr : Nat → Int32, (∀ i, i < 51 ∨ 195 ≤ i → rr i = r i) → qX11_sends z rr (nI kd) (nI o) x = some (mix rr r2)) := by
  obtain ⟨bb, e1, e2⟩ := loses_e hp h hi
  have hcm : ∀ rr : Nat → Int32, (∀ i, i < 51 ∨ 195 ≤ i → rr i = r i) → qX11_sends z rr (nI kd) (nI o) x = some (if bb = true then lostR rr s kd else keptR rr s c kd o x) := by
    intro rr h1
    exact e2 _ kd o x (by rw [h1 _ (by omega), h.sentr]) (by rw [h1 _ (by omega), h.waitr]) (by rw [h1 _ (by omega)]) hk hc
  have hw : qX8_send v w (nI kd) (nI o) x = some (if bb = true then lostW w s kd else keptW w s c kd o x) := by
    unfold qX8_send
    rw [e1, bd_s]
    simp (disch := omega) only [bs_e, gdn, cl, va_n, va_s, h.wait, h.sent, p1]
    cases bb
    · rw [if_pos (show (if false = true then (1 : Int32) else 0) = 0 from rfl), if_neg (show ¬ (72 : Int32) ≤ nI c from nle (a := 72) hc (by omega))]
      rfl
    · rw [if_neg (show ¬ (if true = true then (1 : Int32) else 0) = 0 by decide)]
      rfl
  cases bb
  · refine ⟨keptW w s c kd o x, keptR r s c kd o x, c + 1, hw, e2 r kd o x h.sentr h.waitr rfl hk hc, kept_ev h hi hk hc, kept_iv hi hs hk ho hc hx, by omega, by omega, ?_, ?_, ⟨?_, ?_⟩, ?_⟩
    · intro i h1
      simp (disch := omega) only [keptW, va_n]
    · intro i h1 h2
      simp (disch := omega) only [keptR, upd_n]
    · simp (disch := omega) only [keptR, upd_n]
    · simp (disch := omega) only [keptR, upd_n]
    · intro rr h1
      rw [hcm rr h1]
      refine congrArg some (funext fun i => ?_)
      show keptR rr s c kd o x i = if 51 ≤ i ∧ i < 195 then rr i else keptR r s c kd o x i
      by_cases e : 51 ≤ i ∧ i < 195
      · rw [if_pos e]
        simp (disch := omega) only [keptR, upd_n]
      · rw [if_neg e]
        simp only [keptR, upd_apply', h1 i (by omega), h1 (15 + kd) (by omega), h1 5 (by omega), h1 (21 + kd) (by omega)]
  · refine ⟨lostW w s kd, lostR r s kd, c, hw, e2 r kd o x h.sentr h.waitr rfl hk hc, lost_ev h hi hk, lost_iv hi hs, by omega, by omega, ?_, ?_, ⟨?_, ?_⟩, ?_⟩
    · intro i h1
      simp (disch := omega) only [lostW, va_n]
    · intro i h1 h2
      simp (disch := omega) only [lostR, upd_n]
    · simp (disch := omega) only [lostR, upd_n]
    · simp (disch := omega) only [lostR, upd_n]
    · intro rr h1
      rw [hcm rr h1]
      refine congrArg some (funext fun i => ?_)
      show lostR rr s kd i = if 51 ≤ i ∧ i < 195 then rr i else lostR r s kd i
      by_cases e : 51 ≤ i ∧ i < 195
      · rw [if_pos e]
        simp (disch := omega) only [lostR, upd_n]
      · rw [if_neg e]
        simp only [lostR, upd_apply', h1 i (by omega), h1 (15 + kd) (by omega), h1 5 (by omega), h1 (21 + kd) (by omega)]
