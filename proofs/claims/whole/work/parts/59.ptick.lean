-- a tick, on both sides
def spW (w : Nat → Nat → Int32) (o : Nat) : Nat → Nat → Int32 := va_up w 12 (upd (w 12) o (w 12 o - 1))
def spR (r : Nat → Int32) (o : Nat) : Nat → Int32 := upd r (51 + 12 * o + 3) (r (51 + 12 * o + 3) - 1)
theorem sp_ev {v : Nat → Nat → Int32} {w : Nat → Nat → Int32} {r : Nat → Int32} {n : Nat} {t : Nat} {s : Nat} {c : Nat} {p : Nat} {l : Nat} {f : Nat} {o : Nat} {pk : Int32 × Int32} (h : Ev v n t s c p l f pk w r) (ho6 : o < n) (h12 : n ≤ 12) (hpp : p ≤ 12) (hll : l ≤ 12) : Ev v n t s c p l f pk (spW w o) (spR r o) :=
  ⟨(by first | exact h.tick | (simp (disch := omega) only [spW, spR, va_n, va_s, upd_n, upd_s]; exact h.tick) | (simp (disch := omega) only [spW, spR, va_n, va_s, upd_n, upd_s]; done)),
    (by first | exact h.tickr | (simp (disch := omega) only [spW, spR, va_n, va_s, upd_n, upd_s]; exact h.tickr) | (simp (disch := omega) only [spW, spR, va_n, va_s, upd_n, upd_s]; done)),
    (by first | exact h.dark | (simp (disch := omega) only [spW, spR, va_n, va_s, upd_n, upd_s]; exact h.dark) | (simp (disch := omega) only [spW, spR, va_n, va_s, upd_n, upd_s]; done)),
    (by first | exact h.fuse | (simp (disch := omega) only [spW, spR, va_n, va_s, upd_n, upd_s]; exact h.fuse) | (simp (disch := omega) only [spW, spR, va_n, va_s, upd_n, upd_s]; done)),
    (by first | exact h.fuser | (simp (disch := omega) only [spW, spR, va_n, va_s, upd_n, upd_s]; exact h.fuser) | (simp (disch := omega) only [spW, spR, va_n, va_s, upd_n, upd_s]; done)),
    (by first | exact h.retry | (simp (disch := omega) only [spW, spR, va_n, va_s, upd_n, upd_s]; exact h.retry) | (simp (disch := omega) only [spW, spR, va_n, va_s, upd_n, upd_s]; done)),
    (by first | exact h.strict | (simp (disch := omega) only [spW, spR, va_n, va_s, upd_n, upd_s]; exact h.strict) | (simp (disch := omega) only [spW, spR, va_n, va_s, upd_n, upd_s]; done)),
    (by first | exact h.blk | (simp (disch := omega) only [spW, spR, va_n, va_s, upd_n, upd_s]; exact h.blk) | (simp (disch := omega) only [spW, spR, va_n, va_s, upd_n, upd_s]; done)),
    (by first | exact h.trips | (simp (disch := omega) only [spW, spR, va_n, va_s, upd_n, upd_s]; exact h.trips) | (simp (disch := omega) only [spW, spR, va_n, va_s, upd_n, upd_s]; done)),
    (by first | exact h.peak | (simp (disch := omega) only [spW, spR, va_n, va_s, upd_n, upd_s]; exact h.peak) | (simp (disch := omega) only [spW, spR, va_n, va_s, upd_n, upd_s]; done)),
    (by first | exact h.peakr | (simp (disch := omega) only [spW, spR, va_n, va_s, upd_n, upd_s]; exact h.peakr) | (simp (disch := omega) only [spW, spR, va_n, va_s, upd_n, upd_s]; done)),
    (by first | exact h.pat | (simp (disch := omega) only [spW, spR, va_n, va_s, upd_n, upd_s]; exact h.pat) | (simp (disch := omega) only [spW, spR, va_n, va_s, upd_n, upd_s]; done)),
    (by first | exact h.wait | (simp (disch := omega) only [spW, spR, va_n, va_s, upd_n, upd_s]; exact h.wait) | (simp (disch := omega) only [spW, spR, va_n, va_s, upd_n, upd_s]; done)),
    (by first | exact h.waitr | (simp (disch := omega) only [spW, spR, va_n, va_s, upd_n, upd_s]; exact h.waitr) | (simp (disch := omega) only [spW, spR, va_n, va_s, upd_n, upd_s]; done)),
    (by first | exact h.sent | (simp (disch := omega) only [spW, spR, va_n, va_s, upd_n, upd_s]; exact h.sent) | (simp (disch := omega) only [spW, spR, va_n, va_s, upd_n, upd_s]; done)),
    (by first | exact h.sentr | (simp (disch := omega) only [spW, spR, va_n, va_s, upd_n, upd_s]; exact h.sentr) | (simp (disch := omega) only [spW, spR, va_n, va_s, upd_n, upd_s]; done)),
    (by first | exact h.clear | (simp (disch := omega) only [spW, spR, va_n, va_s, upd_n, upd_s]; exact h.clear) | (simp (disch := omega) only [spW, spR, va_n, va_s, upd_n, upd_s]; done)),
    (by first | exact h.pm | (simp (disch := omega) only [spW, spR, va_n, va_s, upd_n, upd_s]; exact h.pm) | (simp (disch := omega) only [spW, spR, va_n, va_s, upd_n, upd_s]; done)),
    (by first | exact h.pmr | (simp (disch := omega) only [spW, spR, va_n, va_s, upd_n, upd_s]; exact h.pmr) | (simp (disch := omega) only [spW, spR, va_n, va_s, upd_n, upd_s]; done)),
    (by first | exact h.lm | (simp (disch := omega) only [spW, spR, va_n, va_s, upd_n, upd_s]; exact h.lm) | (simp (disch := omega) only [spW, spR, va_n, va_s, upd_n, upd_s]; done)),
    (by first | exact h.lmr | (simp (disch := omega) only [spW, spR, va_n, va_s, upd_n, upd_s]; exact h.lmr) | (simp (disch := omega) only [spW, spR, va_n, va_s, upd_n, upd_s]; done)),
    (by first | exact h.lost | (simp (disch := omega) only [spW, spR, va_n, va_s, upd_n, upd_s]; exact h.lost) | (simp (disch := omega) only [spW, spR, va_n, va_s, upd_n, upd_s]; done)),
    (fun k hk => by first | exact h.sby k hk | (simp (disch := omega) only [spW, spR, va_n, va_s, upd_n, upd_s]; exact h.sby k (by omega))),
    (fun k hk => by first | exact h.lby k hk | (simp (disch := omega) only [spW, spR, va_n, va_s, upd_n, upd_s]; exact h.lby k (by omega))),
    (fun o ho => by first | exact h.prio o ho | (simp (disch := omega) only [spW, spR, va_n, va_s, upd_n, upd_s]; exact h.prio o ho)),
    (fun o ho => by first | exact h.wants o ho | (simp (disch := omega) only [spW, spR, va_n, va_s, upd_n, upd_s]; exact h.wants o ho)),
    (fun o ho => by first | exact h.how o ho | (simp (disch := omega) only [spW, spR, va_n, va_s, upd_n, upd_s]; exact h.how o ho)),
    (fun k hk => by
      by_cases e : k = o
      · subst e
        simp (disch := omega) only [spW, spR, va_n, va_s, upd_n, upd_s]
        rw [h.left _ hk]
      · simp (disch := omega) only [spW, spR, va_n, va_s, upd_n, upd_s]
        exact h.left k hk),
    (fun o ho => by first | exact h.starts o ho | (simp (disch := omega) only [spW, spR, va_n, va_s, upd_n, upd_s]; exact h.starts o ho)),
    (fun o ho => by first | exact h.ran o ho | (simp (disch := omega) only [spW, spR, va_n, va_s, upd_n, upd_s]; exact h.ran o ho)),
    (fun o ho hw => by first | exact h.asked o ho hw | (simp (disch := omega) only [spW, spR, va_n, va_s, upd_n, upd_s] at hw ⊢; exact h.asked o ho hw) | (simp (disch := omega) only [spW, spR, va_n, va_s, upd_n, upd_s]; exact h.asked o ho hw)),
    (fun o ho => by first | exact h.stop o ho | (simp (disch := omega) only [spW, spR, va_n, va_s, upd_n, upd_s]; exact h.stop o ho)),
    (fun o ho => by first | exact h.poll o ho | (simp (disch := omega) only [spW, spR, va_n, va_s, upd_n, upd_s]; exact h.poll o ho)),
    (fun o ho => by first | exact h.mark o ho | (simp (disch := omega) only [spW, spR, va_n, va_s, upd_n, upd_s]; exact h.mark o ho)),
    (fun o ho => by first | exact h.time o ho | (simp (disch := omega) only [spW, spR, va_n, va_s, upd_n, upd_s]; exact h.time o ho)),
    (fun o ho => by first | exact h.known o ho | (simp (disch := omega) only [spW, spR, va_n, va_s, upd_n, upd_s]; exact h.known o ho)),
    (fun o ho => by first | exact h.exp o ho | (simp (disch := omega) only [spW, spR, va_n, va_s, upd_n, upd_s]; exact h.exp o ho)),
    (fun o ho1 ho2 => by first | exact h.knz o ho1 ho2 | (simp (disch := omega) only [spW, spR, va_n, va_s, upd_n, upd_s]; exact h.knz o ho1 ho2)),
    (fun k hk => by first | exact h.msg k hk | (simp (disch := omega) only [spW, spR, va_n, va_s, upd_n, upd_s]; exact h.msg k (by omega))),
    (fun k hk => by first | exact h.pres k hk | (simp (disch := omega) only [spW, spR, va_n, va_s, upd_n, upd_s]; exact h.pres k (by omega))),
    (fun k hk => by first | exact h.lear k hk | (simp (disch := omega) only [spW, spR, va_n, va_s, upd_n, upd_s]; exact h.lear k (by omega)))⟩
theorem sp_iv {w : Nat → Nat → Int32} {n : Nat} {t : Nat} {s : Nat} {c : Nat} {p : Nat} {l : Nat} {f : Nat} {o : Nat} (hi : Iv n t s c p l f w) (h2 : w 11 o = 2) : Iv n t s c p l f (spW w o) := by
  have h12 := hi.n12
  exact ⟨(by first | exact hi.n12 | (simp (disch := omega) only [spW, spR, va_n, va_s, upd_n, upd_s]; exact hi.n12) | (have := hi.n12; omega)),
    (by first | exact hi.tb | (simp (disch := omega) only [spW, spR, va_n, va_s, upd_n, upd_s]; exact hi.tb) | (have := hi.tb; omega)),
    (by first | exact hi.sb | (simp (disch := omega) only [spW, spR, va_n, va_s, upd_n, upd_s]; exact hi.sb) | (have := hi.sb; omega)),
    (by first | exact hi.cb | (simp (disch := omega) only [spW, spR, va_n, va_s, upd_n, upd_s]; exact hi.cb) | (have := hi.cb; omega)),
    (by first | exact hi.fb | (simp (disch := omega) only [spW, spR, va_n, va_s, upd_n, upd_s]; exact hi.fb) | (have := hi.fb; omega)),
    (fun o ho => by first | exact hi.st o ho | (simp (disch := omega) only [spW, spR, va_n, va_s, upd_n, upd_s]; exact hi.st o ho)),
    (fun o ho => by first | exact hi.mk o ho | (simp (disch := omega) only [spW, spR, va_n, va_s, upd_n, upd_s]; exact hi.mk o ho)),
    (fun k hk hw => by
      by_cases e : k = o
      · subst e
        simp (disch := omega) only [spW, spR, va_n, va_s, upd_n, upd_s] at hw
        rw [h2] at hw
        exact absurd hw (by decide)
      · simp (disch := omega) only [spW, spR, va_n, va_s, upd_n, upd_s] at hw ⊢
        exact hi.idle k hk hw),
    (by first | exact hi.s01 | (simp (disch := omega) only [spW, spR, va_n, va_s, upd_n, upd_s]; exact hi.s01) | (have := hi.s01; omega)),
    (by first | exact hi.c01 | (simp (disch := omega) only [spW, spR, va_n, va_s, upd_n, upd_s]; exact hi.c01) | (have := hi.c01; omega)),
    (fun k hk => by first | exact hi.msg k hk | (simp (disch := omega) only [spW, spR, va_n, va_s, upd_n, upd_s]; exact hi.msg k hk)),
    (by first | exact hi.ordP | (simp (disch := omega) only [spW, spR, va_n, va_s, upd_n, upd_s]; exact hi.ordP)),
    (by first | exact hi.ordL | (simp (disch := omega) only [spW, spR, va_n, va_s, upd_n, upd_s]; exact hi.ordL)),
    (fun i h1 h2 => by first | exact hi.kn i h1 h2 | (simp (disch := omega) only [spW, spR, va_n, va_s, upd_n, upd_s]; exact hi.kn i h1 h2))⟩
theorem pk_ev {v : Nat → Nat → Int32} {w : Nat → Nat → Int32} {r : Nat → Int32} {n : Nat} {t : Nat} {s : Nat} {c : Nat} {p : Nat} {l : Nat} {f : Nat} {pk : Int32 × Int32} {pk2 : Int32 × Int32} (h : Ev v n t s c p l f pk w r) (h12 : n ≤ 12) (hpp : p ≤ 12) (hll : l ≤ 12) : Ev v n t s c p l f pk2 (va_up w 7 (fun _ => pk2.1)) (upd r 10 pk2.2) :=
  ⟨(by first | exact h.tick | (simp (disch := omega) only [va_n, va_s, upd_n, upd_s]; exact h.tick) | (simp (disch := omega) only [va_n, va_s, upd_n, upd_s]; done)),
    (by first | exact h.tickr | (simp (disch := omega) only [va_n, va_s, upd_n, upd_s]; exact h.tickr) | (simp (disch := omega) only [va_n, va_s, upd_n, upd_s]; done)),
    (by first | exact h.dark | (simp (disch := omega) only [va_n, va_s, upd_n, upd_s]; exact h.dark) | (simp (disch := omega) only [va_n, va_s, upd_n, upd_s]; done)),
    (by first | exact h.fuse | (simp (disch := omega) only [va_n, va_s, upd_n, upd_s]; exact h.fuse) | (simp (disch := omega) only [va_n, va_s, upd_n, upd_s]; done)),
    (by first | exact h.fuser | (simp (disch := omega) only [va_n, va_s, upd_n, upd_s]; exact h.fuser) | (simp (disch := omega) only [va_n, va_s, upd_n, upd_s]; done)),
    (by first | exact h.retry | (simp (disch := omega) only [va_n, va_s, upd_n, upd_s]; exact h.retry) | (simp (disch := omega) only [va_n, va_s, upd_n, upd_s]; done)),
    (by first | exact h.strict | (simp (disch := omega) only [va_n, va_s, upd_n, upd_s]; exact h.strict) | (simp (disch := omega) only [va_n, va_s, upd_n, upd_s]; done)),
    (by first | exact h.blk | (simp (disch := omega) only [va_n, va_s, upd_n, upd_s]; exact h.blk) | (simp (disch := omega) only [va_n, va_s, upd_n, upd_s]; done)),
    (by first | exact h.trips | (simp (disch := omega) only [va_n, va_s, upd_n, upd_s]; exact h.trips) | (simp (disch := omega) only [va_n, va_s, upd_n, upd_s]; done)),
    (by simp (disch := omega) only [va_n, va_s, upd_n, upd_s]),
    (by simp (disch := omega) only [va_n, va_s, upd_n, upd_s]),
    (by first | exact h.pat | (simp (disch := omega) only [va_n, va_s, upd_n, upd_s]; exact h.pat) | (simp (disch := omega) only [va_n, va_s, upd_n, upd_s]; done)),
    (by first | exact h.wait | (simp (disch := omega) only [va_n, va_s, upd_n, upd_s]; exact h.wait) | (simp (disch := omega) only [va_n, va_s, upd_n, upd_s]; done)),
    (by first | exact h.waitr | (simp (disch := omega) only [va_n, va_s, upd_n, upd_s]; exact h.waitr) | (simp (disch := omega) only [va_n, va_s, upd_n, upd_s]; done)),
    (by first | exact h.sent | (simp (disch := omega) only [va_n, va_s, upd_n, upd_s]; exact h.sent) | (simp (disch := omega) only [va_n, va_s, upd_n, upd_s]; done)),
    (by first | exact h.sentr | (simp (disch := omega) only [va_n, va_s, upd_n, upd_s]; exact h.sentr) | (simp (disch := omega) only [va_n, va_s, upd_n, upd_s]; done)),
    (by first | exact h.clear | (simp (disch := omega) only [va_n, va_s, upd_n, upd_s]; exact h.clear) | (simp (disch := omega) only [va_n, va_s, upd_n, upd_s]; done)),
    (by first | exact h.pm | (simp (disch := omega) only [va_n, va_s, upd_n, upd_s]; exact h.pm) | (simp (disch := omega) only [va_n, va_s, upd_n, upd_s]; done)),
    (by first | exact h.pmr | (simp (disch := omega) only [va_n, va_s, upd_n, upd_s]; exact h.pmr) | (simp (disch := omega) only [va_n, va_s, upd_n, upd_s]; done)),
    (by first | exact h.lm | (simp (disch := omega) only [va_n, va_s, upd_n, upd_s]; exact h.lm) | (simp (disch := omega) only [va_n, va_s, upd_n, upd_s]; done)),
    (by first | exact h.lmr | (simp (disch := omega) only [va_n, va_s, upd_n, upd_s]; exact h.lmr) | (simp (disch := omega) only [va_n, va_s, upd_n, upd_s]; done)),
    (by first | exact h.lost | (simp (disch := omega) only [va_n, va_s, upd_n, upd_s]; exact h.lost) | (simp (disch := omega) only [va_n, va_s, upd_n, upd_s]; done)),
    (fun k hk => by first | exact h.sby k hk | (simp (disch := omega) only [va_n, va_s, upd_n, upd_s]; exact h.sby k (by omega))),
    (fun k hk => by first | exact h.lby k hk | (simp (disch := omega) only [va_n, va_s, upd_n, upd_s]; exact h.lby k (by omega))),
    (fun o ho => by first | exact h.prio o ho | (simp (disch := omega) only [va_n, va_s, upd_n, upd_s]; exact h.prio o ho)),
    (fun o ho => by first | exact h.wants o ho | (simp (disch := omega) only [va_n, va_s, upd_n, upd_s]; exact h.wants o ho)),
    (fun o ho => by first | exact h.how o ho | (simp (disch := omega) only [va_n, va_s, upd_n, upd_s]; exact h.how o ho)),
    (fun o ho => by first | exact h.left o ho | (simp (disch := omega) only [va_n, va_s, upd_n, upd_s]; exact h.left o ho)),
    (fun o ho => by first | exact h.starts o ho | (simp (disch := omega) only [va_n, va_s, upd_n, upd_s]; exact h.starts o ho)),
    (fun o ho => by first | exact h.ran o ho | (simp (disch := omega) only [va_n, va_s, upd_n, upd_s]; exact h.ran o ho)),
    (fun o ho hw => by first | exact h.asked o ho hw | (simp (disch := omega) only [va_n, va_s, upd_n, upd_s] at hw ⊢; exact h.asked o ho hw) | (simp (disch := omega) only [va_n, va_s, upd_n, upd_s]; exact h.asked o ho hw)),
    (fun o ho => by first | exact h.stop o ho | (simp (disch := omega) only [va_n, va_s, upd_n, upd_s]; exact h.stop o ho)),
    (fun o ho => by first | exact h.poll o ho | (simp (disch := omega) only [va_n, va_s, upd_n, upd_s]; exact h.poll o ho)),
    (fun o ho => by first | exact h.mark o ho | (simp (disch := omega) only [va_n, va_s, upd_n, upd_s]; exact h.mark o ho)),
    (fun o ho => by first | exact h.time o ho | (simp (disch := omega) only [va_n, va_s, upd_n, upd_s]; exact h.time o ho)),
    (fun o ho => by first | exact h.known o ho | (simp (disch := omega) only [va_n, va_s, upd_n, upd_s]; exact h.known o ho)),
    (fun o ho => by first | exact h.exp o ho | (simp (disch := omega) only [va_n, va_s, upd_n, upd_s]; exact h.exp o ho)),
    (fun o ho1 ho2 => by first | exact h.knz o ho1 ho2 | (simp (disch := omega) only [va_n, va_s, upd_n, upd_s]; exact h.knz o ho1 ho2)),
    (fun k hk => by first | exact h.msg k hk | (simp (disch := omega) only [va_n, va_s, upd_n, upd_s]; exact h.msg k (by omega))),
    (fun k hk => by first | exact h.pres k hk | (simp (disch := omega) only [va_n, va_s, upd_n, upd_s]; exact h.pres k (by omega))),
    (fun k hk => by first | exact h.lear k hk | (simp (disch := omega) only [va_n, va_s, upd_n, upd_s]; exact h.lear k (by omega)))⟩
theorem pk_iv {w : Nat → Nat → Int32} {n : Nat} {t : Nat} {s : Nat} {c : Nat} {p : Nat} {l : Nat} {f : Nat} {pk2 : Int32 × Int32} (hi : Iv n t s c p l f w) : Iv n t s c p l f (va_up w 7 (fun _ => pk2.1)) :=
  ⟨(by first | exact hi.n12 | (simp (disch := omega) only [va_n, va_s, upd_n, upd_s]; exact hi.n12) | (have := hi.n12; omega)),
    (by first | exact hi.tb | (simp (disch := omega) only [va_n, va_s, upd_n, upd_s]; exact hi.tb) | (have := hi.tb; omega)),
    (by first | exact hi.sb | (simp (disch := omega) only [va_n, va_s, upd_n, upd_s]; exact hi.sb) | (have := hi.sb; omega)),
    (by first | exact hi.cb | (simp (disch := omega) only [va_n, va_s, upd_n, upd_s]; exact hi.cb) | (have := hi.cb; omega)),
    (by first | exact hi.fb | (simp (disch := omega) only [va_n, va_s, upd_n, upd_s]; exact hi.fb) | (have := hi.fb; omega)),
    (fun o ho => by first | exact hi.st o ho | (simp (disch := omega) only [va_n, va_s, upd_n, upd_s]; exact hi.st o ho)),
    (fun o ho => by first | exact hi.mk o ho | (simp (disch := omega) only [va_n, va_s, upd_n, upd_s]; exact hi.mk o ho)),
    (fun o ho hw => by first | exact hi.idle o ho hw | (simp (disch := omega) only [va_n, va_s, upd_n, upd_s] at hw ⊢; exact hi.idle o ho hw) | (simp (disch := omega) only [va_n, va_s, upd_n, upd_s]; exact hi.idle o ho hw)),
    (by first | exact hi.s01 | (simp (disch := omega) only [va_n, va_s, upd_n, upd_s]; exact hi.s01) | (have := hi.s01; omega)),
    (by first | exact hi.c01 | (simp (disch := omega) only [va_n, va_s, upd_n, upd_s]; exact hi.c01) | (have := hi.c01; omega)),
    (fun k hk => by first | exact hi.msg k hk | (simp (disch := omega) only [va_n, va_s, upd_n, upd_s]; exact hi.msg k hk)),
    (by first | exact hi.ordP | (simp (disch := omega) only [va_n, va_s, upd_n, upd_s]; exact hi.ordP)),
    (by first | exact hi.ordL | (simp (disch := omega) only [va_n, va_s, upd_n, upd_s]; exact hi.ordL)),
    (fun i h1 h2 => by first | exact hi.kn i h1 h2 | (simp (disch := omega) only [va_n, va_s, upd_n, upd_s]; exact hi.kn i h1 h2))⟩
theorem tk_ev {v : Nat → Nat → Int32} {w : Nat → Nat → Int32} {r : Nat → Int32} {n : Nat} {t : Nat} {s : Nat} {c : Nat} {p : Nat} {l : Nat} {f : Nat} {pk : Int32 × Int32} (h : Ev v n t s c p l f pk w r) (h12 : n ≤ 12) (hpp : p ≤ 12) (hll : l ≤ 12) : Ev v n (t + 1) s c p l f pk (va_up w 0 (fun _ => nI (t + 1))) (upd r 0 (nI (t + 1))) :=
  ⟨(by simp (disch := omega) only [va_n, va_s, upd_n, upd_s]),
    (by simp (disch := omega) only [va_n, va_s, upd_n, upd_s]),
    (by first | exact h.dark | (simp (disch := omega) only [va_n, va_s, upd_n, upd_s]; exact h.dark) | (simp (disch := omega) only [va_n, va_s, upd_n, upd_s]; done)),
    (by first | exact h.fuse | (simp (disch := omega) only [va_n, va_s, upd_n, upd_s]; exact h.fuse) | (simp (disch := omega) only [va_n, va_s, upd_n, upd_s]; done)),
    (by first | exact h.fuser | (simp (disch := omega) only [va_n, va_s, upd_n, upd_s]; exact h.fuser) | (simp (disch := omega) only [va_n, va_s, upd_n, upd_s]; done)),
    (by first | exact h.retry | (simp (disch := omega) only [va_n, va_s, upd_n, upd_s]; exact h.retry) | (simp (disch := omega) only [va_n, va_s, upd_n, upd_s]; done)),
    (by first | exact h.strict | (simp (disch := omega) only [va_n, va_s, upd_n, upd_s]; exact h.strict) | (simp (disch := omega) only [va_n, va_s, upd_n, upd_s]; done)),
    (by first | exact h.blk | (simp (disch := omega) only [va_n, va_s, upd_n, upd_s]; exact h.blk) | (simp (disch := omega) only [va_n, va_s, upd_n, upd_s]; done)),
    (by first | exact h.trips | (simp (disch := omega) only [va_n, va_s, upd_n, upd_s]; exact h.trips) | (simp (disch := omega) only [va_n, va_s, upd_n, upd_s]; done)),
    (by first | exact h.peak | (simp (disch := omega) only [va_n, va_s, upd_n, upd_s]; exact h.peak) | (simp (disch := omega) only [va_n, va_s, upd_n, upd_s]; done)),
    (by first | exact h.peakr | (simp (disch := omega) only [va_n, va_s, upd_n, upd_s]; exact h.peakr) | (simp (disch := omega) only [va_n, va_s, upd_n, upd_s]; done)),
    (by first | exact h.pat | (simp (disch := omega) only [va_n, va_s, upd_n, upd_s]; exact h.pat) | (simp (disch := omega) only [va_n, va_s, upd_n, upd_s]; done)),
    (by first | exact h.wait | (simp (disch := omega) only [va_n, va_s, upd_n, upd_s]; exact h.wait) | (simp (disch := omega) only [va_n, va_s, upd_n, upd_s]; done)),
    (by first | exact h.waitr | (simp (disch := omega) only [va_n, va_s, upd_n, upd_s]; exact h.waitr) | (simp (disch := omega) only [va_n, va_s, upd_n, upd_s]; done)),
    (by first | exact h.sent | (simp (disch := omega) only [va_n, va_s, upd_n, upd_s]; exact h.sent) | (simp (disch := omega) only [va_n, va_s, upd_n, upd_s]; done)),
    (by first | exact h.sentr | (simp (disch := omega) only [va_n, va_s, upd_n, upd_s]; exact h.sentr) | (simp (disch := omega) only [va_n, va_s, upd_n, upd_s]; done)),
    (by first | exact h.clear | (simp (disch := omega) only [va_n, va_s, upd_n, upd_s]; exact h.clear) | (simp (disch := omega) only [va_n, va_s, upd_n, upd_s]; done)),
    (by first | exact h.pm | (simp (disch := omega) only [va_n, va_s, upd_n, upd_s]; exact h.pm) | (simp (disch := omega) only [va_n, va_s, upd_n, upd_s]; done)),
    (by first | exact h.pmr | (simp (disch := omega) only [va_n, va_s, upd_n, upd_s]; exact h.pmr) | (simp (disch := omega) only [va_n, va_s, upd_n, upd_s]; done)),
    (by first | exact h.lm | (simp (disch := omega) only [va_n, va_s, upd_n, upd_s]; exact h.lm) | (simp (disch := omega) only [va_n, va_s, upd_n, upd_s]; done)),
    (by first | exact h.lmr | (simp (disch := omega) only [va_n, va_s, upd_n, upd_s]; exact h.lmr) | (simp (disch := omega) only [va_n, va_s, upd_n, upd_s]; done)),
    (by first | exact h.lost | (simp (disch := omega) only [va_n, va_s, upd_n, upd_s]; exact h.lost) | (simp (disch := omega) only [va_n, va_s, upd_n, upd_s]; done)),
    (fun k hk => by first | exact h.sby k hk | (simp (disch := omega) only [va_n, va_s, upd_n, upd_s]; exact h.sby k (by omega))),
    (fun k hk => by first | exact h.lby k hk | (simp (disch := omega) only [va_n, va_s, upd_n, upd_s]; exact h.lby k (by omega))),
    (fun o ho => by first | exact h.prio o ho | (simp (disch := omega) only [va_n, va_s, upd_n, upd_s]; exact h.prio o ho)),
    (fun o ho => by first | exact h.wants o ho | (simp (disch := omega) only [va_n, va_s, upd_n, upd_s]; exact h.wants o ho)),
    (fun o ho => by first | exact h.how o ho | (simp (disch := omega) only [va_n, va_s, upd_n, upd_s]; exact h.how o ho)),
    (fun o ho => by first | exact h.left o ho | (simp (disch := omega) only [va_n, va_s, upd_n, upd_s]; exact h.left o ho)),
    (fun o ho => by first | exact h.starts o ho | (simp (disch := omega) only [va_n, va_s, upd_n, upd_s]; exact h.starts o ho)),
    (fun o ho => by first | exact h.ran o ho | (simp (disch := omega) only [va_n, va_s, upd_n, upd_s]; exact h.ran o ho)),
    (fun o ho hw => by first | exact h.asked o ho hw | (simp (disch := omega) only [va_n, va_s, upd_n, upd_s] at hw ⊢; exact h.asked o ho hw) | (simp (disch := omega) only [va_n, va_s, upd_n, upd_s]; exact h.asked o ho hw)),
    (fun o ho => by first | exact h.stop o ho | (simp (disch := omega) only [va_n, va_s, upd_n, upd_s]; exact h.stop o ho)),
    (fun o ho => by first | exact h.poll o ho | (simp (disch := omega) only [va_n, va_s, upd_n, upd_s]; exact h.poll o ho)),
    (fun o ho => by first | exact h.mark o ho | (simp (disch := omega) only [va_n, va_s, upd_n, upd_s]; exact h.mark o ho)),
    (fun o ho => by first | exact h.time o ho | (simp (disch := omega) only [va_n, va_s, upd_n, upd_s]; exact h.time o ho)),
    (fun o ho => by first | exact h.known o ho | (simp (disch := omega) only [va_n, va_s, upd_n, upd_s]; exact h.known o ho)),
    (fun o ho => by first | exact h.exp o ho | (simp (disch := omega) only [va_n, va_s, upd_n, upd_s]; exact h.exp o ho)),
    (fun o ho1 ho2 => by first | exact h.knz o ho1 ho2 | (simp (disch := omega) only [va_n, va_s, upd_n, upd_s]; exact h.knz o ho1 ho2)),
    (fun k hk => by first | exact h.msg k hk | (simp (disch := omega) only [va_n, va_s, upd_n, upd_s]; exact h.msg k (by omega))),
    (fun k hk => by first | exact h.pres k hk | (simp (disch := omega) only [va_n, va_s, upd_n, upd_s]; exact h.pres k (by omega))),
    (fun k hk => by first | exact h.lear k hk | (simp (disch := omega) only [va_n, va_s, upd_n, upd_s]; exact h.lear k (by omega)))⟩
theorem tk_iv {w : Nat → Nat → Int32} {n : Nat} {t : Nat} {s : Nat} {c : Nat} {p : Nat} {l : Nat} {f : Nat} (hi : Iv n t s c p l f w) (ht : t + 1 ≤ 6000) : Iv n (t + 1) s c p l f (va_up w 0 (fun _ => nI (t + 1))) :=
  ⟨(by first | exact hi.n12 | (simp (disch := omega) only [va_n, va_s, upd_n, upd_s]; exact hi.n12) | (have := hi.n12; omega)),
    ht,
    (by first | exact hi.sb | (simp (disch := omega) only [va_n, va_s, upd_n, upd_s]; exact hi.sb) | (have := hi.sb; omega)),
    (by first | exact hi.cb | (simp (disch := omega) only [va_n, va_s, upd_n, upd_s]; exact hi.cb) | (have := hi.cb; omega)),
    (by first | exact hi.fb | (simp (disch := omega) only [va_n, va_s, upd_n, upd_s]; exact hi.fb) | (have := hi.fb; omega)),
    (fun o ho => by first | exact hi.st o ho | (simp (disch := omega) only [va_n, va_s, upd_n, upd_s]; exact hi.st o ho)),
    (fun o ho => by first | exact hi.mk o ho | (simp (disch := omega) only [va_n, va_s, upd_n, upd_s]; exact hi.mk o ho)),
    (fun o ho hw => by first | exact hi.idle o ho hw | (simp (disch := omega) only [va_n, va_s, upd_n, upd_s] at hw ⊢; exact hi.idle o ho hw) | (simp (disch := omega) only [va_n, va_s, upd_n, upd_s]; exact hi.idle o ho hw)),
    (by first | exact hi.s01 | (simp (disch := omega) only [va_n, va_s, upd_n, upd_s]; exact hi.s01) | (have := hi.s01; omega)),
    (by first | exact hi.c01 | (simp (disch := omega) only [va_n, va_s, upd_n, upd_s]; exact hi.c01) | (have := hi.c01; omega)),
    (fun k hk => by first | exact hi.msg k hk | (simp (disch := omega) only [va_n, va_s, upd_n, upd_s]; exact hi.msg k hk)),
    (by first | exact hi.ordP | (simp (disch := omega) only [va_n, va_s, upd_n, upd_s]; exact hi.ordP)),
    (by first | exact hi.ordL | (simp (disch := omega) only [va_n, va_s, upd_n, upd_s]; exact hi.ordL)),
    (fun i h1 h2 => by first | exact hi.kn i h1 h2 | (simp (disch := omega) only [va_n, va_s, upd_n, upd_s]; exact hi.kn i h1 h2))⟩
theorem tr_ev {v : Nat → Nat → Int32} {w : Nat → Nat → Int32} {r : Nat → Int32} {n : Nat} {t : Nat} {s : Nat} {c : Nat} {p : Nat} {l : Nat} {f : Nat} {pk : Int32 × Int32} (h : Ev v n t s c p l f pk w r) (h12 : n ≤ 12) (hpp : p ≤ 12) (hll : l ≤ 12) : Ev v n t s c p l f pk (va_up w 6 (fun _ => w 6 0 + 1)) (upd r 3 (r 3 + 1)) :=
  ⟨(by first | exact h.tick | (simp (disch := omega) only [va_n, va_s, upd_n, upd_s]; exact h.tick) | (simp (disch := omega) only [va_n, va_s, upd_n, upd_s]; done)),
    (by first | exact h.tickr | (simp (disch := omega) only [va_n, va_s, upd_n, upd_s]; exact h.tickr) | (simp (disch := omega) only [va_n, va_s, upd_n, upd_s]; done)),
    (by first | exact h.dark | (simp (disch := omega) only [va_n, va_s, upd_n, upd_s]; exact h.dark) | (simp (disch := omega) only [va_n, va_s, upd_n, upd_s]; done)),
    (by first | exact h.fuse | (simp (disch := omega) only [va_n, va_s, upd_n, upd_s]; exact h.fuse) | (simp (disch := omega) only [va_n, va_s, upd_n, upd_s]; done)),
    (by first | exact h.fuser | (simp (disch := omega) only [va_n, va_s, upd_n, upd_s]; exact h.fuser) | (simp (disch := omega) only [va_n, va_s, upd_n, upd_s]; done)),
    (by first | exact h.retry | (simp (disch := omega) only [va_n, va_s, upd_n, upd_s]; exact h.retry) | (simp (disch := omega) only [va_n, va_s, upd_n, upd_s]; done)),
    (by first | exact h.strict | (simp (disch := omega) only [va_n, va_s, upd_n, upd_s]; exact h.strict) | (simp (disch := omega) only [va_n, va_s, upd_n, upd_s]; done)),
    (by first | exact h.blk | (simp (disch := omega) only [va_n, va_s, upd_n, upd_s]; exact h.blk) | (simp (disch := omega) only [va_n, va_s, upd_n, upd_s]; done)),
    (by
      simp (disch := omega) only [va_n, va_s, upd_n, upd_s]
      rw [h.trips]),
    (by first | exact h.peak | (simp (disch := omega) only [va_n, va_s, upd_n, upd_s]; exact h.peak) | (simp (disch := omega) only [va_n, va_s, upd_n, upd_s]; done)),
    (by first | exact h.peakr | (simp (disch := omega) only [va_n, va_s, upd_n, upd_s]; exact h.peakr) | (simp (disch := omega) only [va_n, va_s, upd_n, upd_s]; done)),
    (by first | exact h.pat | (simp (disch := omega) only [va_n, va_s, upd_n, upd_s]; exact h.pat) | (simp (disch := omega) only [va_n, va_s, upd_n, upd_s]; done)),
    (by first | exact h.wait | (simp (disch := omega) only [va_n, va_s, upd_n, upd_s]; exact h.wait) | (simp (disch := omega) only [va_n, va_s, upd_n, upd_s]; done)),
    (by first | exact h.waitr | (simp (disch := omega) only [va_n, va_s, upd_n, upd_s]; exact h.waitr) | (simp (disch := omega) only [va_n, va_s, upd_n, upd_s]; done)),
    (by first | exact h.sent | (simp (disch := omega) only [va_n, va_s, upd_n, upd_s]; exact h.sent) | (simp (disch := omega) only [va_n, va_s, upd_n, upd_s]; done)),
    (by first | exact h.sentr | (simp (disch := omega) only [va_n, va_s, upd_n, upd_s]; exact h.sentr) | (simp (disch := omega) only [va_n, va_s, upd_n, upd_s]; done)),
    (by first | exact h.clear | (simp (disch := omega) only [va_n, va_s, upd_n, upd_s]; exact h.clear) | (simp (disch := omega) only [va_n, va_s, upd_n, upd_s]; done)),
    (by first | exact h.pm | (simp (disch := omega) only [va_n, va_s, upd_n, upd_s]; exact h.pm) | (simp (disch := omega) only [va_n, va_s, upd_n, upd_s]; done)),
    (by first | exact h.pmr | (simp (disch := omega) only [va_n, va_s, upd_n, upd_s]; exact h.pmr) | (simp (disch := omega) only [va_n, va_s, upd_n, upd_s]; done)),
    (by first | exact h.lm | (simp (disch := omega) only [va_n, va_s, upd_n, upd_s]; exact h.lm) | (simp (disch := omega) only [va_n, va_s, upd_n, upd_s]; done)),
    (by first | exact h.lmr | (simp (disch := omega) only [va_n, va_s, upd_n, upd_s]; exact h.lmr) | (simp (disch := omega) only [va_n, va_s, upd_n, upd_s]; done)),
    (by first | exact h.lost | (simp (disch := omega) only [va_n, va_s, upd_n, upd_s]; exact h.lost) | (simp (disch := omega) only [va_n, va_s, upd_n, upd_s]; done)),
    (fun k hk => by first | exact h.sby k hk | (simp (disch := omega) only [va_n, va_s, upd_n, upd_s]; exact h.sby k (by omega))),
    (fun k hk => by first | exact h.lby k hk | (simp (disch := omega) only [va_n, va_s, upd_n, upd_s]; exact h.lby k (by omega))),
    (fun o ho => by first | exact h.prio o ho | (simp (disch := omega) only [va_n, va_s, upd_n, upd_s]; exact h.prio o ho)),
    (fun o ho => by first | exact h.wants o ho | (simp (disch := omega) only [va_n, va_s, upd_n, upd_s]; exact h.wants o ho)),
    (fun o ho => by first | exact h.how o ho | (simp (disch := omega) only [va_n, va_s, upd_n, upd_s]; exact h.how o ho)),
    (fun o ho => by first | exact h.left o ho | (simp (disch := omega) only [va_n, va_s, upd_n, upd_s]; exact h.left o ho)),
    (fun o ho => by first | exact h.starts o ho | (simp (disch := omega) only [va_n, va_s, upd_n, upd_s]; exact h.starts o ho)),
    (fun o ho => by first | exact h.ran o ho | (simp (disch := omega) only [va_n, va_s, upd_n, upd_s]; exact h.ran o ho)),
    (fun o ho hw => by first | exact h.asked o ho hw | (simp (disch := omega) only [va_n, va_s, upd_n, upd_s] at hw ⊢; exact h.asked o ho hw) | (simp (disch := omega) only [va_n, va_s, upd_n, upd_s]; exact h.asked o ho hw)),
    (fun o ho => by first | exact h.stop o ho | (simp (disch := omega) only [va_n, va_s, upd_n, upd_s]; exact h.stop o ho)),
    (fun o ho => by first | exact h.poll o ho | (simp (disch := omega) only [va_n, va_s, upd_n, upd_s]; exact h.poll o ho)),
    (fun o ho => by first | exact h.mark o ho | (simp (disch := omega) only [va_n, va_s, upd_n, upd_s]; exact h.mark o ho)),
    (fun o ho => by first | exact h.time o ho | (simp (disch := omega) only [va_n, va_s, upd_n, upd_s]; exact h.time o ho)),
    (fun o ho => by first | exact h.known o ho | (simp (disch := omega) only [va_n, va_s, upd_n, upd_s]; exact h.known o ho)),
    (fun o ho => by first | exact h.exp o ho | (simp (disch := omega) only [va_n, va_s, upd_n, upd_s]; exact h.exp o ho)),
    (fun o ho1 ho2 => by first | exact h.knz o ho1 ho2 | (simp (disch := omega) only [va_n, va_s, upd_n, upd_s]; exact h.knz o ho1 ho2)),
    (fun k hk => by first | exact h.msg k hk | (simp (disch := omega) only [va_n, va_s, upd_n, upd_s]; exact h.msg k (by omega))),
    (fun k hk => by first | exact h.pres k hk | (simp (disch := omega) only [va_n, va_s, upd_n, upd_s]; exact h.pres k (by omega))),
    (fun k hk => by first | exact h.lear k hk | (simp (disch := omega) only [va_n, va_s, upd_n, upd_s]; exact h.lear k (by omega)))⟩
theorem tr_iv {w : Nat → Nat → Int32} {n : Nat} {t : Nat} {s : Nat} {c : Nat} {p : Nat} {l : Nat} {f : Nat} (hi : Iv n t s c p l f w) : Iv n t s c p l f (va_up w 6 (fun _ => w 6 0 + 1)) :=
  ⟨(by first | exact hi.n12 | (simp (disch := omega) only [va_n, va_s, upd_n, upd_s]; exact hi.n12) | (have := hi.n12; omega)),
    (by first | exact hi.tb | (simp (disch := omega) only [va_n, va_s, upd_n, upd_s]; exact hi.tb) | (have := hi.tb; omega)),
    (by first | exact hi.sb | (simp (disch := omega) only [va_n, va_s, upd_n, upd_s]; exact hi.sb) | (have := hi.sb; omega)),
    (by first | exact hi.cb | (simp (disch := omega) only [va_n, va_s, upd_n, upd_s]; exact hi.cb) | (have := hi.cb; omega)),
    (by first | exact hi.fb | (simp (disch := omega) only [va_n, va_s, upd_n, upd_s]; exact hi.fb) | (have := hi.fb; omega)),
    (fun o ho => by first | exact hi.st o ho | (simp (disch := omega) only [va_n, va_s, upd_n, upd_s]; exact hi.st o ho)),
    (fun o ho => by first | exact hi.mk o ho | (simp (disch := omega) only [va_n, va_s, upd_n, upd_s]; exact hi.mk o ho)),
    (fun o ho hw => by first | exact hi.idle o ho hw | (simp (disch := omega) only [va_n, va_s, upd_n, upd_s] at hw ⊢; exact hi.idle o ho hw) | (simp (disch := omega) only [va_n, va_s, upd_n, upd_s]; exact hi.idle o ho hw)),
    (by first | exact hi.s01 | (simp (disch := omega) only [va_n, va_s, upd_n, upd_s]; exact hi.s01) | (have := hi.s01; omega)),
    (by first | exact hi.c01 | (simp (disch := omega) only [va_n, va_s, upd_n, upd_s]; exact hi.c01) | (have := hi.c01; omega)),
    (fun k hk => by first | exact hi.msg k hk | (simp (disch := omega) only [va_n, va_s, upd_n, upd_s]; exact hi.msg k hk)),
    (by first | exact hi.ordP | (simp (disch := omega) only [va_n, va_s, upd_n, upd_s]; exact hi.ordP)),
    (by first | exact hi.ordL | (simp (disch := omega) only [va_n, va_s, upd_n, upd_s]; exact hi.ordL)),
    (fun i h1 h2 => by first | exact hi.kn i h1 h2 | (simp (disch := omega) only [va_n, va_s, upd_n, upd_s]; exact hi.kn i h1 h2))⟩
theorem cl_ev {v : Nat → Nat → Int32} {w : Nat → Nat → Int32} {r : Nat → Int32} {n : Nat} {t : Nat} {s : Nat} {c : Nat} {p : Nat} {l : Nat} {f : Nat} {pk : Int32 × Int32} (h : Ev v n t s c p l f pk w r) (h12 : n ≤ 12) (hpp : p ≤ 12) (hll : l ≤ 12) : Ev v n t s 0 p l f pk (va_up w 31 (fun _ => 0)) (upd r 11 0) :=
  ⟨(by first | exact h.tick | (simp (disch := omega) only [va_n, va_s, upd_n, upd_s]; exact h.tick) | (simp (disch := omega) only [va_n, va_s, upd_n, upd_s]; done)),
    (by first | exact h.tickr | (simp (disch := omega) only [va_n, va_s, upd_n, upd_s]; exact h.tickr) | (simp (disch := omega) only [va_n, va_s, upd_n, upd_s]; done)),
    (by first | exact h.dark | (simp (disch := omega) only [va_n, va_s, upd_n, upd_s]; exact h.dark) | (simp (disch := omega) only [va_n, va_s, upd_n, upd_s]; done)),
    (by first | exact h.fuse | (simp (disch := omega) only [va_n, va_s, upd_n, upd_s]; exact h.fuse) | (simp (disch := omega) only [va_n, va_s, upd_n, upd_s]; done)),
    (by first | exact h.fuser | (simp (disch := omega) only [va_n, va_s, upd_n, upd_s]; exact h.fuser) | (simp (disch := omega) only [va_n, va_s, upd_n, upd_s]; done)),
    (by first | exact h.retry | (simp (disch := omega) only [va_n, va_s, upd_n, upd_s]; exact h.retry) | (simp (disch := omega) only [va_n, va_s, upd_n, upd_s]; done)),
    (by first | exact h.strict | (simp (disch := omega) only [va_n, va_s, upd_n, upd_s]; exact h.strict) | (simp (disch := omega) only [va_n, va_s, upd_n, upd_s]; done)),
    (by first | exact h.blk | (simp (disch := omega) only [va_n, va_s, upd_n, upd_s]; exact h.blk) | (simp (disch := omega) only [va_n, va_s, upd_n, upd_s]; done)),
    (by first | exact h.trips | (simp (disch := omega) only [va_n, va_s, upd_n, upd_s]; exact h.trips) | (simp (disch := omega) only [va_n, va_s, upd_n, upd_s]; done)),
    (by first | exact h.peak | (simp (disch := omega) only [va_n, va_s, upd_n, upd_s]; exact h.peak) | (simp (disch := omega) only [va_n, va_s, upd_n, upd_s]; done)),
    (by first | exact h.peakr | (simp (disch := omega) only [va_n, va_s, upd_n, upd_s]; exact h.peakr) | (simp (disch := omega) only [va_n, va_s, upd_n, upd_s]; done)),
    (by first | exact h.pat | (simp (disch := omega) only [va_n, va_s, upd_n, upd_s]; exact h.pat) | (simp (disch := omega) only [va_n, va_s, upd_n, upd_s]; done)),
    (by simp (disch := omega) only [va_n, va_s]; rfl),
    (by simp (disch := omega) only [upd_n, upd_s]; rfl),
    (by first | exact h.sent | (simp (disch := omega) only [va_n, va_s, upd_n, upd_s]; exact h.sent) | (simp (disch := omega) only [va_n, va_s, upd_n, upd_s]; done)),
    (by first | exact h.sentr | (simp (disch := omega) only [va_n, va_s, upd_n, upd_s]; exact h.sentr) | (simp (disch := omega) only [va_n, va_s, upd_n, upd_s]; done)),
    (by first | exact h.clear | (simp (disch := omega) only [va_n, va_s, upd_n, upd_s]; exact h.clear) | (simp (disch := omega) only [va_n, va_s, upd_n, upd_s]; done)),
    (by first | exact h.pm | (simp (disch := omega) only [va_n, va_s, upd_n, upd_s]; exact h.pm) | (simp (disch := omega) only [va_n, va_s, upd_n, upd_s]; done)),
    (by first | exact h.pmr | (simp (disch := omega) only [va_n, va_s, upd_n, upd_s]; exact h.pmr) | (simp (disch := omega) only [va_n, va_s, upd_n, upd_s]; done)),
    (by first | exact h.lm | (simp (disch := omega) only [va_n, va_s, upd_n, upd_s]; exact h.lm) | (simp (disch := omega) only [va_n, va_s, upd_n, upd_s]; done)),
    (by first | exact h.lmr | (simp (disch := omega) only [va_n, va_s, upd_n, upd_s]; exact h.lmr) | (simp (disch := omega) only [va_n, va_s, upd_n, upd_s]; done)),
    (by first | exact h.lost | (simp (disch := omega) only [va_n, va_s, upd_n, upd_s]; exact h.lost) | (simp (disch := omega) only [va_n, va_s, upd_n, upd_s]; done)),
    (fun k hk => by first | exact h.sby k hk | (simp (disch := omega) only [va_n, va_s, upd_n, upd_s]; exact h.sby k (by omega))),
    (fun k hk => by first | exact h.lby k hk | (simp (disch := omega) only [va_n, va_s, upd_n, upd_s]; exact h.lby k (by omega))),
    (fun o ho => by first | exact h.prio o ho | (simp (disch := omega) only [va_n, va_s, upd_n, upd_s]; exact h.prio o ho)),
    (fun o ho => by first | exact h.wants o ho | (simp (disch := omega) only [va_n, va_s, upd_n, upd_s]; exact h.wants o ho)),
    (fun o ho => by first | exact h.how o ho | (simp (disch := omega) only [va_n, va_s, upd_n, upd_s]; exact h.how o ho)),
    (fun o ho => by first | exact h.left o ho | (simp (disch := omega) only [va_n, va_s, upd_n, upd_s]; exact h.left o ho)),
    (fun o ho => by first | exact h.starts o ho | (simp (disch := omega) only [va_n, va_s, upd_n, upd_s]; exact h.starts o ho)),
    (fun o ho => by first | exact h.ran o ho | (simp (disch := omega) only [va_n, va_s, upd_n, upd_s]; exact h.ran o ho)),
    (fun o ho hw => by first | exact h.asked o ho hw | (simp (disch := omega) only [va_n, va_s, upd_n, upd_s] at hw ⊢; exact h.asked o ho hw) | (simp (disch := omega) only [va_n, va_s, upd_n, upd_s]; exact h.asked o ho hw)),
    (fun o ho => by first | exact h.stop o ho | (simp (disch := omega) only [va_n, va_s, upd_n, upd_s]; exact h.stop o ho)),
    (fun o ho => by first | exact h.poll o ho | (simp (disch := omega) only [va_n, va_s, upd_n, upd_s]; exact h.poll o ho)),
    (fun o ho => by first | exact h.mark o ho | (simp (disch := omega) only [va_n, va_s, upd_n, upd_s]; exact h.mark o ho)),
    (fun o ho => by first | exact h.time o ho | (simp (disch := omega) only [va_n, va_s, upd_n, upd_s]; exact h.time o ho)),
    (fun o ho => by first | exact h.known o ho | (simp (disch := omega) only [va_n, va_s, upd_n, upd_s]; exact h.known o ho)),
    (fun o ho => by first | exact h.exp o ho | (simp (disch := omega) only [va_n, va_s, upd_n, upd_s]; exact h.exp o ho)),
    (fun o ho1 ho2 => by first | exact h.knz o ho1 ho2 | (simp (disch := omega) only [va_n, va_s, upd_n, upd_s]; exact h.knz o ho1 ho2)),
    (fun k hk => by omega),
    (fun k hk => by first | exact h.pres k hk | (simp (disch := omega) only [va_n, va_s, upd_n, upd_s]; exact h.pres k (by omega))),
    (fun k hk => by first | exact h.lear k hk | (simp (disch := omega) only [va_n, va_s, upd_n, upd_s]; exact h.lear k (by omega)))⟩
theorem cl_iv {w : Nat → Nat → Int32} {n : Nat} {t : Nat} {s : Nat} {c : Nat} {p : Nat} {l : Nat} {f : Nat} (hi : Iv n t s c p l f w) : Iv n t s 0 p l f (va_up w 31 (fun _ => 0)) :=
  ⟨(by first | exact hi.n12 | (simp (disch := omega) only [va_n, va_s, upd_n, upd_s]; exact hi.n12) | (have := hi.n12; omega)),
    (by first | exact hi.tb | (simp (disch := omega) only [va_n, va_s, upd_n, upd_s]; exact hi.tb) | (have := hi.tb; omega)),
    (by first | exact hi.sb | (simp (disch := omega) only [va_n, va_s, upd_n, upd_s]; exact hi.sb) | (have := hi.sb; omega)),
    (by omega),
    (by first | exact hi.fb | (simp (disch := omega) only [va_n, va_s, upd_n, upd_s]; exact hi.fb) | (have := hi.fb; omega)),
    (fun o ho => by first | exact hi.st o ho | (simp (disch := omega) only [va_n, va_s, upd_n, upd_s]; exact hi.st o ho)),
    (fun o ho => by first | exact hi.mk o ho | (simp (disch := omega) only [va_n, va_s, upd_n, upd_s]; exact hi.mk o ho)),
    (fun o ho hw => by first | exact hi.idle o ho hw | (simp (disch := omega) only [va_n, va_s, upd_n, upd_s] at hw ⊢; exact hi.idle o ho hw) | (simp (disch := omega) only [va_n, va_s, upd_n, upd_s]; exact hi.idle o ho hw)),
    (by first | exact hi.s01 | (simp (disch := omega) only [va_n, va_s, upd_n, upd_s]; exact hi.s01) | (have := hi.s01; omega)),
    (by first | exact hi.c01 | (simp (disch := omega) only [va_n, va_s, upd_n, upd_s]; exact hi.c01) | (have := hi.c01; omega)),
    (fun k hk => by omega),
    (by first | exact hi.ordP | (simp (disch := omega) only [va_n, va_s, upd_n, upd_s]; exact hi.ordP)),
    (by first | exact hi.ordL | (simp (disch := omega) only [va_n, va_s, upd_n, upd_s]; exact hi.ordL)),
    (fun i h1 h2 => by first | exact hi.kn i h1 h2 | (simp (disch := omega) only [va_n, va_s, upd_n, upd_s]; exact hi.kn i h1 h2))⟩
theorem spend_all {v : Nat → Nat → Int32} {z : Nat → Nat → Int32} {w : Nat → Nat → Int32} {r : Nat → Int32} {n : Nat} {t : Nat} {s : Nat} {c : Nat} {p : Nat} {l : Nat} {f : Nat} {pk : Int32 × Int32} (K1 : (Nat → Nat → Int32) → Option (Nat → Nat → Int32)) (K2 : (Nat → Int32) → Option (Int32 × (Nat → Int32))) (y : Int32) (hp : Pl v z n) (h : Ev v n t s c p l f pk w r) (hi : Iv n t s c p l f w) : ∃ w2 r2, qX2_spendTick_L2 v K1 fu 0 w = K1 w2 ∧
    qX11_ticks_L168 z y K2 fu 0 r = K2 r2 ∧ Ev v n t s c p l f pk w2 r2 ∧ Iv n t s c p l f w2 := by
  have h12 := hi.n12
  have := lpp (L1 := fun g i w => qX2_spendTick_L2 v K1 g i w) (L2 := fun g i r => qX11_ticks_L168 z y K2 g i r) (K1 := K1) (K2 := K2) (N := n)
    (fun _ w r => Ev v n t s c p l f pk w r ∧ Iv n t s c p l f w) (by
      intro k w r hk ⟨h1, h2⟩
      have hpp := h2.ordP.pn
      have hll := h2.ordL.pn
      by_cases e : w 11 k = 2
      · refine ⟨spW w k, spR r k, fun g => ?_, fun g => ?_, sp_ev h1 hk h12 (by omega) (by omega), sp_iv h2 e⟩
        · show qX2_spendTick_L2 v K1 (g + 1) (nI k) w = _
          rw [qX2_spendTick_L2, hp.v0, if_neg (nle hk (by omega))]
          simp (disch := omega) only [gdn, cl, jn_e, bs_e, p1]
          rw [if_pos e]
          rfl
        · show qX11_ticks_L168 z y K2 (g + 1) (nI k) r = _
          rw [qX11_ticks_L168, hp.z1, if_neg (nle hk (by omega))]
          simp (disch := omega) only [gdn, cl, jn_e, bs_e, p1, ag2, ag3, bd_s, ← h1.how]
          rw [if_pos e]
          rfl
      · refine ⟨w, r, fun g => ?_, fun g => ?_, h1, h2⟩
        · show qX2_spendTick_L2 v K1 (g + 1) (nI k) w = _
          rw [qX2_spendTick_L2, hp.v0, if_neg (nle hk (by omega))]
          simp (disch := omega) only [gdn, cl, jn_e, bs_e, p1]
          rw [if_neg e]
        · show qX11_ticks_L168 z y K2 (g + 1) (nI k) r = _
          rw [qX11_ticks_L168, hp.z1, if_neg (nle hk (by omega))]
          simp (disch := omega) only [gdn, cl, jn_e, bs_e, p1, ag2, ag3, bd_s, ← h1.how]
          rw [if_neg e]) (by
      intro g w r _
      constructor
      · show qX2_spendTick_L2 v K1 (g + 1) (nI n) w = _
        rw [qX2_spendTick_L2, hp.v0, if_pos (Int32.le_refl _)]
      · show qX11_ticks_L168 z y K2 (g + 1) (nI n) r = _
        rw [qX11_ticks_L168, hp.z1, if_pos (Int32.le_refl _)]) n fu fu 0 w r (by omega) (by unfold fu; omega) (by unfold fu; omega) ⟨h, hi⟩
  obtain ⟨w2, r2, a1, a2, a3, a4⟩ := this
  exact ⟨w2, r2, a1, a2, a3, a4⟩
def up2 (pk : Int32 × Int32) (x : Int32) : Int32 × Int32 := ((if pk.1 < x then x else pk.1), (if pk.2 < x then x else pk.2))
/-- the meter -/
theorem meter_e {v : Nat → Nat → Int32} {z : Nat → Nat → Int32} {w : Nat → Nat → Int32} {r : Nat → Int32} {n : Nat} {t : Nat} {s : Nat} {c : Nat} {p : Nat} {l : Nat} {f : Nat} {pk : Int32 × Int32} (hp : Pl v z n) (h : Ev v n t s c p l f pk w r) (hi : Iv n t s c p l f w) (ht : t + 1 ≤ 6000) : ∃ w2 r2 c2 p2, qX9_readMeter v w = some w2 ∧
    bd (qX11_drawn z r) (fun r_21 => (jn (fun (y_22 : Int32) => (bs (upd r 10 y_22) fun rw_23 => (qX11_ticks_L168 z r_21 (fun (rw_27 : Nat → Int32) => (bs (upd rw_27 0 ((rw_27 0) + 1)) fun rw_32 => if r_21 ≤ (rw_32 6) then some (r_21, rw_32) else (bs (upd rw_32 3 ((rw_32 3) + 1)) fun rw_33 => bd (qX11_darkens z rw_33 5) fun rw_34 => some (r_21, rw_34)))) fu 0 rw_23))) fun j164 => if r_21 ≤ (r 10) then (j164 (r 10)) else (j164 r_21))) = some (sumf n (drw v (w 11)), r2) ∧
    Ev v n (t + 1) s c2 p2 l f (up2 pk (sumf n (drw v (w 11)))) w2 r2 ∧ Iv n (t + 1) s c2 p2 l f w2 := by
  have h12 := hi.n12
  have hpp := hi.ordP.pn
  have hll := hi.ordL.pn
  generalize hx : sumf n (drw v (w 11)) = x
  generalize hy : up2 pk x = pk2
  have hy1 : (if pk.1 < x then x else pk.1) = pk2.1 := by rw [← hy]; rfl
  have hy2 : (if pk.2 < x then x else pk.2) = pk2.2 := by rw [← hy]; rfl
  have e1 := pk_ev (pk2 := pk2) h h12 (by omega) (by omega)
  have i1 := pk_iv (pk2 := pk2) hi
  obtain ⟨w3, r3, a1, a2, a3, a4⟩ := spend_all (fun w => some w) (fun (rw_27 : Nat → Int32) => (bs (upd rw_27 0 ((rw_27 0) + 1)) fun rw_32 => if x ≤ (rw_32 6) then some (x, rw_32) else (bs (upd rw_32 3 ((rw_32 3) + 1)) fun rw_33 => bd (qX11_darkens z rw_33 5) fun rw_34 => some (x, rw_34)))) x hp e1 i1
  have e2 := tk_ev a3 h12 (by omega) (by omega)
  have i2 := tk_iv a4 ht
  have hW : qX9_readMeter v w = if x ≤ nI f then some (va_up w3 0 (fun _ => nI (t + 1))) else bd (qX9_beginBlackout v (va_up (va_up w3 0 (fun _ => nI (t + 1))) 6 (fun _ => (va_up w3 0 (fun _ => nI (t + 1))) 6 0 + 1)) 5) fun w_6 => some w_6 := by
    unfold qX9_readMeter qX2_spendTick
    rw [drawOfAll_e hp, bd_s, hx, bs_e, h.peak, hy1, a1, bd_s, bs_e, a3.tick, p1, e2.fuse]
    rfl
  have hR : bd (qX11_drawn z r) (fun r_21 => (jn (fun (y_22 : Int32) => (bs (upd r 10 y_22) fun rw_23 => (qX11_ticks_L168 z r_21 (fun (rw_27 : Nat → Int32) => (bs (upd rw_27 0 ((rw_27 0) + 1)) fun rw_32 => if r_21 ≤ (rw_32 6) then some (r_21, rw_32) else (bs (upd rw_32 3 ((rw_32 3) + 1)) fun rw_33 => bd (qX11_darkens z rw_33 5) fun rw_34 => some (r_21, rw_34)))) fu 0 rw_23))) fun j164 => if r_21 ≤ (r 10) then (j164 (r 10)) else (j164 r_21))) =
      if x ≤ nI f then some (x, upd r3 0 (nI (t + 1))) else bd (qX11_darkens z (upd (upd r3 0 (nI (t + 1))) 3 ((upd r3 0 (nI (t + 1))) 3 + 1)) 5) fun rw_34 => some (x, rw_34) := by
    rw [drawn_e hp h, bd_s, hx]
    have hj : ∀ F : Int32 → Option (Int32 × (Nat → Int32)), (jn F fun j164 => if x ≤ (r 10) then (j164 (r 10)) else (j164 x)) = F pk2.2 := by
      intro F
      rw [jn_e]
      rw [h.peakr, ← hy2]
      by_cases g : x ≤ pk.2
      · rw [if_pos g, if_neg (Int32.not_lt.mpr g)]
      · rw [if_neg g, if_pos (Int32.not_le.mp g)]
    refine (hj _).trans ?_
    rw [bs_e, a2, bs_e, a3.tickr, p1, e2.fuser]
    rfl
  rw [hW, hR]
  by_cases g : x ≤ nI f
  · rw [if_pos g, if_pos g]
    exact ⟨_, _, c, p, rfl, rfl, e2, i2⟩
  · rw [if_neg g, if_neg g]
    obtain ⟨w4, r4, b1, b2, b3, b4⟩ := dark_e hp (tr_ev e2 h12 (by omega) (by omega)) (tr_iv i2) 5
    exact ⟨w4, r4, 0, 0, by rw [b1, bd_s], by rw [b2, bd_s], b3, b4⟩
/-- blackouts that the plan tells -/
theorem darks_all {v : Nat → Nat → Int32} {z : Nat → Nat → Int32} {w : Nat → Nat → Int32} {r : Nat → Int32} {n : Nat} {t : Nat} {s : Nat} {c : Nat} {p : Nat} {l : Nat} {f : Nat} {pk : Int32 × Int32} (K1 : (Nat → Nat → Int32) → Option (Nat → Nat → Int32)) (K2 : (Nat → Int32) → Option (Int32 × (Nat → Int32))) (hp : Pl v z n) (h : Ev v n t s c p l f pk w r) (hi : Iv n t s c p l f w) : ∃ w2 r2 c2 p2, qX9_passTick_L2 v K1 fu 0 w = K1 w2 ∧
    qX11_ticks_L2 z K2 fu 0 r = K2 r2 ∧ Ev v n t s c2 p2 l f pk w2 r2 ∧ Iv n t s c2 p2 l f w2 := by
  obtain ⟨d, hd, hv, hz, hdk⟩ := hp.darks
  have := lpp (L1 := fun g i w => qX9_passTick_L2 v K1 g i w) (L2 := fun g i r => qX11_ticks_L2 z K2 g i r) (K1 := K1) (K2 := K2) (N := d)
    (fun _ w r => ∃ c2 p2, Ev v n t s c2 p2 l f pk w r ∧ Iv n t s c2 p2 l f w) (by
      intro k w r hk ⟨c2, p2, h1, h2⟩
      obtain ⟨k1, k2⟩ := hdk k hk
      have hW : ∀ g, qX9_passTick_L2 v K1 (g + 1) (nI k) w = if v 15 k = nI t then bd (qX9_beginBlackout v w (v 16 k)) (fun w_5 => qX9_passTick_L2 v K1 g (nI (k + 1)) w_5) else qX9_passTick_L2 v K1 g (nI (k + 1)) w := by
        intro g
        rw [qX9_passTick_L2, hv, if_neg (nle hk (by omega))]
        simp (disch := omega) only [gdn, cl, jn_e, p1, h1.tick]
      have hR : ∀ g, qX11_ticks_L2 z K2 (g + 1) (nI k) r = if v 15 k = nI t then bd (qX11_darkens z r (v 16 k)) (fun w_5 => qX11_ticks_L2 z K2 g (nI (k + 1)) w_5) else qX11_ticks_L2 z K2 g (nI (k + 1)) r := by
        intro g
        rw [qX11_ticks_L2, hz, if_neg (nle hk (by omega))]
        simp (disch := omega) only [gdn, cl, jn_e, p1, m2, h1.tickr, k1, k2]
      by_cases e : v 15 k = nI t
      · obtain ⟨w3, r3, b1, b2, b3, b4⟩ := dark_e hp h1 h2 (v 16 k)
        exact ⟨w3, r3, fun g => by show qX9_passTick_L2 v K1 (g + 1) (nI k) w = _; rw [hW, if_pos e, b1, bd_s], fun g => by show qX11_ticks_L2 z K2 (g + 1) (nI k) r = _; rw [hR, if_pos e, b2, bd_s], 0, 0, b3, b4⟩
      · exact ⟨w, r, fun g => by show qX9_passTick_L2 v K1 (g + 1) (nI k) w = _; rw [hW, if_neg e], fun g => by show qX11_ticks_L2 z K2 (g + 1) (nI k) r = _; rw [hR, if_neg e], c2, p2, h1, h2⟩) (by
      intro g w r _
      constructor
      · show qX9_passTick_L2 v K1 (g + 1) (nI d) w = _
        rw [qX9_passTick_L2, hv, if_pos (Int32.le_refl _)]
      · show qX11_ticks_L2 z K2 (g + 1) (nI d) r = _
        rw [qX11_ticks_L2, hz, if_pos (Int32.le_refl _)]) d fu fu 0 w r (by omega) (by unfold fu; omega) (by unfold fu; omega) ⟨c, p, h, hi⟩
  obtain ⟨w2, r2, a1, a2, c2, p2, a3, a4⟩ := this
  exact ⟨w2, r2, c2, p2, a1, a2, a3, a4⟩
