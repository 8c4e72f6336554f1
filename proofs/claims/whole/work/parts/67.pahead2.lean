-- what will be
theorem fz_ev {v : Nat → Nat → Int32} {w : Nat → Nat → Int32} {r : Nat → Int32} {n : Nat} {t : Nat} {s : Nat} {c : Nat} {p : Nat} {l : Nat} {f : Nat} {m : Nat} {pk : Int32 × Int32} (h : Ev v n t s c p l f pk w r) (h12 : n ≤ 12) (hpp : p ≤ 12) (hll : l ≤ 12) : Ev v n t s c p l m pk (va_up w 2 (fun _ => nI m)) (upd r 6 (nI m)) :=
  ⟨(by first | exact h.tick | (simp (disch := omega) only [va_n, va_s, upd_n, upd_s]; exact h.tick) | (simp (disch := omega) only [va_n, va_s, upd_n, upd_s]; done)),
    (by first | exact h.tickr | (simp (disch := omega) only [va_n, va_s, upd_n, upd_s]; exact h.tickr) | (simp (disch := omega) only [va_n, va_s, upd_n, upd_s]; done)),
    (by first | exact h.dark | (simp (disch := omega) only [va_n, va_s, upd_n, upd_s]; exact h.dark) | (simp (disch := omega) only [va_n, va_s, upd_n, upd_s]; done)),
    (by simp (disch := omega) only [va_n, va_s, upd_n, upd_s]),
    (by simp (disch := omega) only [va_n, va_s, upd_n, upd_s]),
    (by first | exact h.retry | (simp (disch := omega) only [va_n, va_s, upd_n, upd_s]; exact h.retry) | (simp (disch := omega) only [va_n, va_s, upd_n, upd_s]; done)),
    (by first | exact h.strict | (simp (disch := omega) only [va_n, va_s, upd_n, upd_s]; exact h.strict) | (simp (disch := omega) only [va_n, va_s, upd_n, upd_s]; done)),
    (by first | exact h.blk | (simp (disch := omega) only [va_n, va_s, upd_n, upd_s]; exact h.blk) | (simp (disch := omega) only [va_n, va_s, upd_n, upd_s]; done)),
    (by first | exact h.trips | (simp (disch := omega) only [va_n, va_s, upd_n, upd_s]; exact h.trips) | (simp (disch := omega) only [va_n, va_s, upd_n, upd_s]; done)),
    (by first | exact h.peak | (simp (disch := omega) only [va_n, va_s, upd_n, upd_s]; exact h.peak) | (simp (disch := omega) only [va_n, va_s, upd_n, upd_s]; done)),
    (by first | exact h.peakr | (simp (disch := omega) only [va_n, va_s, upd_n, upd_s]; exact h.peakr) | (simp (disch := omega) only [va_n, va_s, upd_n, upd_s]; done)),
    (by first | exact h.pat | (simp (disch := omega) only [va_n, va_s, upd_n, upd_s]; exact h.pat) | (simp (disch := omega) only [va_n, va_s, upd_n, upd_s]; done)),
    (by first | exact h.wait | (simp (disch := omega) only [va_n, va_s, upd_n, upd_s]; exact h.wait) | (simp (disch := omega) only [va_n, va_s, upd_n, upd_s]; done)),
    (by first | exact h.waitr | (simp (disch := omega) only [va_n, va_s, upd_n, upd_s]; exact h.waitr) | (simp (disch := omega) only [va_n, va_s, upd_n, upd_s]; done)),
    (by first | exact h.sent | (simp (disch := omega) only [va_n, va_s, upd_n, upd_s]; exact h.sent) | (simp (disch := omega) only [va_n, va_s, upd_n, upd_s]; done)),
    (by first | exact h.sentr | (simp (disch := omega) only [va_n, va_s, upd_n, upd_s]; exact h.sentr) | (simp (disch := omega) only [va_n, va_s, upd_n, upd_s]; done)),
    (by first | exact h.clear | (simp (disch := omega) only [va_n, va_s, upd_n, upd_s]; exact h.clear) | (simp (disch := omega) only [va_n, va_s, upd_n, upd_s]; done)),
    (by first | exact h.pm | (simp (disch := omega) only [va_n, va_s, upd_n, upd_s]; exact h.pm) | (simp (disch := omega) only [va_n, va_s, upd_n, upd_s]; done)),
    (by first | exact h.pmr | (simp (disch := omega) only [va_n, va_s, upd_n, upd_s]; exact h.pmr) | (simp (disch := omega) only [va_n, va_s, upd_n, upd_s]; done)),
    (by first | exact h.lm | (simp (disch := omega) only [va_n, va_s, upd_n, upd_s]; exact h.lm) | (simp (disch := omega) only [va_n, va_s, upd_n, upd_s]; done)),
    (by first | exact h.lmr | (simp (disch := omega) only [va_n, va_s, upd_n, upd_s]; exact h.lmr) | (simp (disch := omega) only [va_n, va_s, upd_n, upd_s]; done)),
    (by first | exact h.lost | (simp (disch := omega) only [va_n, va_s, upd_n, upd_s]; exact h.lost) | (simp (disch := omega) only [va_n, va_s, upd_n, upd_s]; done)),
    (fun k hk => by first | exact h.sby k hk | (simp (disch := omega) only [va_n, va_s, upd_n, upd_s]; exact h.sby k (by omega))),
    (fun k hk => by first | exact h.lby k hk | (simp (disch := omega) only [va_n, va_s, upd_n, upd_s]; exact h.lby k (by omega))),
    (fun o ho => by first | exact h.prio o ho | (simp (disch := omega) only [va_n, va_s, upd_n, upd_s]; exact h.prio o ho)),
    (fun o ho => by first | exact h.wants o ho | (simp (disch := omega) only [va_n, va_s, upd_n, upd_s]; exact h.wants o ho)),
    (fun o ho => by first | exact h.how o ho | (simp (disch := omega) only [va_n, va_s, upd_n, upd_s]; exact h.how o ho)),
    (fun o ho => by first | exact h.left o ho | (simp (disch := omega) only [va_n, va_s, upd_n, upd_s]; exact h.left o ho)),
    (fun o ho => by first | exact h.starts o ho | (simp (disch := omega) only [va_n, va_s, upd_n, upd_s]; exact h.starts o ho)),
    (fun o ho => by first | exact h.ran o ho | (simp (disch := omega) only [va_n, va_s, upd_n, upd_s]; exact h.ran o ho)),
    (fun o ho hw => by first | exact h.asked o ho hw | (simp (disch := omega) only [va_n, va_s, upd_n, upd_s] at hw ⊢; exact h.asked o ho hw) | (simp (disch := omega) only [va_n, va_s, upd_n, upd_s]; exact h.asked o ho hw)),
    (fun o ho => by first | exact h.stop o ho | (simp (disch := omega) only [va_n, va_s, upd_n, upd_s]; exact h.stop o ho)),
    (fun o ho => by first | exact h.poll o ho | (simp (disch := omega) only [va_n, va_s, upd_n, upd_s]; exact h.poll o ho)),
    (fun o ho => by first | exact h.mark o ho | (simp (disch := omega) only [va_n, va_s, upd_n, upd_s]; exact h.mark o ho)),
    (fun o ho => by first | exact h.time o ho | (simp (disch := omega) only [va_n, va_s, upd_n, upd_s]; exact h.time o ho)),
    (fun o ho => by first | exact h.known o ho | (simp (disch := omega) only [va_n, va_s, upd_n, upd_s]; exact h.known o ho)),
    (fun o ho => by first | exact h.exp o ho | (simp (disch := omega) only [va_n, va_s, upd_n, upd_s]; exact h.exp o ho)),
    (fun o ho1 ho2 => by first | exact h.knz o ho1 ho2 | (simp (disch := omega) only [va_n, va_s, upd_n, upd_s]; exact h.knz o ho1 ho2)),
    (fun k hk => by first | exact h.msg k hk | (simp (disch := omega) only [va_n, va_s, upd_n, upd_s]; exact h.msg k (by omega))),
    (fun k hk => by first | exact h.pres k hk | (simp (disch := omega) only [va_n, va_s, upd_n, upd_s]; exact h.pres k (by omega))),
    (fun k hk => by first | exact h.lear k hk | (simp (disch := omega) only [va_n, va_s, upd_n, upd_s]; exact h.lear k (by omega)))⟩
theorem fz_iv {w : Nat → Nat → Int32} {n : Nat} {t : Nat} {s : Nat} {c : Nat} {p : Nat} {l : Nat} {f : Nat} {m : Nat} (hi : Iv n t s c p l f w) (hm : 1 ≤ m ∧ m ≤ 9999) : Iv n t s c p l m (va_up w 2 (fun _ => nI m)) :=
  ⟨(by first | exact hi.n12 | (simp (disch := omega) only [va_n, va_s, upd_n, upd_s]; exact hi.n12) | (have := hi.n12; omega)),
    (by first | exact hi.tb | (simp (disch := omega) only [va_n, va_s, upd_n, upd_s]; exact hi.tb) | (have := hi.tb; omega)),
    (by first | exact hi.sb | (simp (disch := omega) only [va_n, va_s, upd_n, upd_s]; exact hi.sb) | (have := hi.sb; omega)),
    (by first | exact hi.cb | (simp (disch := omega) only [va_n, va_s, upd_n, upd_s]; exact hi.cb) | (have := hi.cb; omega)),
    hm,
    (fun o ho => by first | exact hi.st o ho | (simp (disch := omega) only [va_n, va_s, upd_n, upd_s]; exact hi.st o ho)),
    (fun o ho => by first | exact hi.mk o ho | (simp (disch := omega) only [va_n, va_s, upd_n, upd_s]; exact hi.mk o ho)),
    (fun o ho hw => by first | exact hi.idle o ho hw | (simp (disch := omega) only [va_n, va_s, upd_n, upd_s] at hw ⊢; exact hi.idle o ho hw) | (simp (disch := omega) only [va_n, va_s, upd_n, upd_s]; exact hi.idle o ho hw)),
    (by first | exact hi.s01 | (simp (disch := omega) only [va_n, va_s, upd_n, upd_s]; exact hi.s01) | (have := hi.s01; omega)),
    (by first | exact hi.c01 | (simp (disch := omega) only [va_n, va_s, upd_n, upd_s]; exact hi.c01) | (have := hi.c01; omega)),
    (fun k hk => by first | exact hi.msg k hk | (simp (disch := omega) only [va_n, va_s, upd_n, upd_s]; exact hi.msg k hk)),
    (by first | exact hi.ordP | (simp (disch := omega) only [va_n, va_s, upd_n, upd_s]; exact hi.ordP)),
    (by first | exact hi.ordL | (simp (disch := omega) only [va_n, va_s, upd_n, upd_s]; exact hi.ordL)),
    (fun i h1 h2 => by first | exact hi.kn i h1 h2 | (simp (disch := omega) only [va_n, va_s, upd_n, upd_s]; exact hi.kn i h1 h2))⟩
theorem rt_ev {v : Nat → Nat → Int32} {w : Nat → Nat → Int32} {r : Nat → Int32} {n : Nat} {t : Nat} {s : Nat} {c : Nat} {p : Nat} {l : Nat} {f : Nat} {x : Int32} {pk : Int32 × Int32} (h : Ev v n t s c p l f pk w r) (h12 : n ≤ 12) (hpp : p ≤ 12) (hll : l ≤ 12) : Ev v n t s c p l f pk (va_up w 3 (fun _ => x)) (upd r 7 x) :=
  ⟨(by first | exact h.tick | (simp (disch := omega) only [va_n, va_s, upd_n, upd_s]; exact h.tick) | (simp (disch := omega) only [va_n, va_s, upd_n, upd_s]; done)),
    (by first | exact h.tickr | (simp (disch := omega) only [va_n, va_s, upd_n, upd_s]; exact h.tickr) | (simp (disch := omega) only [va_n, va_s, upd_n, upd_s]; done)),
    (by first | exact h.dark | (simp (disch := omega) only [va_n, va_s, upd_n, upd_s]; exact h.dark) | (simp (disch := omega) only [va_n, va_s, upd_n, upd_s]; done)),
    (by first | exact h.fuse | (simp (disch := omega) only [va_n, va_s, upd_n, upd_s]; exact h.fuse) | (simp (disch := omega) only [va_n, va_s, upd_n, upd_s]; done)),
    (by first | exact h.fuser | (simp (disch := omega) only [va_n, va_s, upd_n, upd_s]; exact h.fuser) | (simp (disch := omega) only [va_n, va_s, upd_n, upd_s]; done)),
    (by simp (disch := omega) only [va_n, va_s, upd_n, upd_s]),
    (by first | exact h.strict | (simp (disch := omega) only [va_n, va_s, upd_n, upd_s]; exact h.strict) | (simp (disch := omega) only [va_n, va_s, upd_n, upd_s]; done)),
    (by first | exact h.blk | (simp (disch := omega) only [va_n, va_s, upd_n, upd_s]; exact h.blk) | (simp (disch := omega) only [va_n, va_s, upd_n, upd_s]; done)),
    (by first | exact h.trips | (simp (disch := omega) only [va_n, va_s, upd_n, upd_s]; exact h.trips) | (simp (disch := omega) only [va_n, va_s, upd_n, upd_s]; done)),
    (by first | exact h.peak | (simp (disch := omega) only [va_n, va_s, upd_n, upd_s]; exact h.peak) | (simp (disch := omega) only [va_n, va_s, upd_n, upd_s]; done)),
    (by first | exact h.peakr | (simp (disch := omega) only [va_n, va_s, upd_n, upd_s]; exact h.peakr) | (simp (disch := omega) only [va_n, va_s, upd_n, upd_s]; done)),
    (by first | exact h.pat | (simp (disch := omega) only [va_n, va_s, upd_n, upd_s]; exact h.pat) | (simp (disch := omega) only [va_n, va_s, upd_n, upd_s]; done)),
    (by first | exact h.wait | (simp (disch := omega) only [va_n, va_s, upd_n, upd_s]; exact h.wait) | (simp (disch := omega) only [va_n, va_s, upd_n, upd_s]; done)),
    (by first | exact h.waitr | (simp (disch := omega) only [va_n, va_s, upd_n, upd_s]; exact h.waitr) | (simp (disch := omega) only [va_n, va_s, upd_n, upd_s]; done)),
    (by first | exact h.sent | (simp (disch := omega) only [va_n, va_s, upd_n, upd_s]; exact h.sent) | (simp (disch := omega) only [va_n, va_s, upd_n, upd_s]; done)),
    (by first | exact h.sentr | (simp (disch := omega) only [va_n, va_s, upd_n, upd_s]; exact h.sentr) | (simp (disch := omega) only [va_n, va_s, upd_n, upd_s]; done)),
    (by first | exact h.clear | (simp (disch := omega) only [va_n, va_s, upd_n, upd_s]; exact h.clear) | (simp (disch := omega) only [va_n, va_s, upd_n, upd_s]; done)),
    (by first | exact h.pm | (simp (disch := omega) only [va_n, va_s, upd_n, upd_s]; exact h.pm) | (simp (disch := omega) only [va_n, va_s, upd_n, upd_s]; done)),
    (by first | exact h.pmr | (simp (disch := omega) only [va_n, va_s, upd_n, upd_s]; exact h.pmr) | (simp (disch := omega) only [va_n, va_s, upd_n, upd_s]; done)),
    (by first | exact h.lm | (simp (disch := omega) only [va_n, va_s, upd_n, upd_s]; exact h.lm) | (simp (disch := omega) only [va_n, va_s, upd_n, upd_s]; done)),
    (by first | exact h.lmr | (simp (disch := omega) only [va_n, va_s, upd_n, upd_s]; exact h.lmr) | (simp (disch := omega) only [va_n, va_s, upd_n, upd_s]; done)),
    (by first | exact h.lost | (simp (disch := omega) only [va_n, va_s, upd_n, upd_s]; exact h.lost) | (simp (disch := omega) only [va_n, va_s, upd_n, upd_s]; done)),
    (fun k hk => by first | exact h.sby k hk | (simp (disch := omega) only [va_n, va_s, upd_n, upd_s]; exact h.sby k (by omega))),
    (fun k hk => by first | exact h.lby k hk | (simp (disch := omega) only [va_n, va_s, upd_n, upd_s]; exact h.lby k (by omega))),
    (fun o ho => by first | exact h.prio o ho | (simp (disch := omega) only [va_n, va_s, upd_n, upd_s]; exact h.prio o ho)),
    (fun o ho => by first | exact h.wants o ho | (simp (disch := omega) only [va_n, va_s, upd_n, upd_s]; exact h.wants o ho)),
    (fun o ho => by first | exact h.how o ho | (simp (disch := omega) only [va_n, va_s, upd_n, upd_s]; exact h.how o ho)),
    (fun o ho => by first | exact h.left o ho | (simp (disch := omega) only [va_n, va_s, upd_n, upd_s]; exact h.left o ho)),
    (fun o ho => by first | exact h.starts o ho | (simp (disch := omega) only [va_n, va_s, upd_n, upd_s]; exact h.starts o ho)),
    (fun o ho => by first | exact h.ran o ho | (simp (disch := omega) only [va_n, va_s, upd_n, upd_s]; exact h.ran o ho)),
    (fun o ho hw => by first | exact h.asked o ho hw | (simp (disch := omega) only [va_n, va_s, upd_n, upd_s] at hw ⊢; exact h.asked o ho hw) | (simp (disch := omega) only [va_n, va_s, upd_n, upd_s]; exact h.asked o ho hw)),
    (fun o ho => by first | exact h.stop o ho | (simp (disch := omega) only [va_n, va_s, upd_n, upd_s]; exact h.stop o ho)),
    (fun o ho => by first | exact h.poll o ho | (simp (disch := omega) only [va_n, va_s, upd_n, upd_s]; exact h.poll o ho)),
    (fun o ho => by first | exact h.mark o ho | (simp (disch := omega) only [va_n, va_s, upd_n, upd_s]; exact h.mark o ho)),
    (fun o ho => by first | exact h.time o ho | (simp (disch := omega) only [va_n, va_s, upd_n, upd_s]; exact h.time o ho)),
    (fun o ho => by first | exact h.known o ho | (simp (disch := omega) only [va_n, va_s, upd_n, upd_s]; exact h.known o ho)),
    (fun o ho => by first | exact h.exp o ho | (simp (disch := omega) only [va_n, va_s, upd_n, upd_s]; exact h.exp o ho)),
    (fun o ho1 ho2 => by first | exact h.knz o ho1 ho2 | (simp (disch := omega) only [va_n, va_s, upd_n, upd_s]; exact h.knz o ho1 ho2)),
    (fun k hk => by first | exact h.msg k hk | (simp (disch := omega) only [va_n, va_s, upd_n, upd_s]; exact h.msg k (by omega))),
    (fun k hk => by first | exact h.pres k hk | (simp (disch := omega) only [va_n, va_s, upd_n, upd_s]; exact h.pres k (by omega))),
    (fun k hk => by first | exact h.lear k hk | (simp (disch := omega) only [va_n, va_s, upd_n, upd_s]; exact h.lear k (by omega)))⟩
theorem rt_iv {w : Nat → Nat → Int32} {n : Nat} {t : Nat} {s : Nat} {c : Nat} {p : Nat} {l : Nat} {f : Nat} {x : Int32} (hi : Iv n t s c p l f w) : Iv n t s c p l f (va_up w 3 (fun _ => x)) :=
  ⟨(by first | exact hi.n12 | (simp (disch := omega) only [va_n, va_s, upd_n, upd_s]; exact hi.n12) | (have := hi.n12; omega)),
    (by first | exact hi.tb | (simp (disch := omega) only [va_n, va_s, upd_n, upd_s]; exact hi.tb) | (have := hi.tb; omega)),
    (by first | exact hi.sb | (simp (disch := omega) only [va_n, va_s, upd_n, upd_s]; exact hi.sb) | (have := hi.sb; omega)),
    (by first | exact hi.cb | (simp (disch := omega) only [va_n, va_s, upd_n, upd_s]; exact hi.cb) | (have := hi.cb; omega)),
    (by first | exact hi.fb | (simp (disch := omega) only [va_n, va_s, upd_n, upd_s]; exact hi.fb) | (have := hi.fb; omega)),
    (fun o ho => by first | exact hi.st o ho | (simp (disch := omega) only [va_n, va_s, upd_n, upd_s]; exact hi.st o ho)),
    (fun o ho => by first | exact hi.mk o ho | (simp (disch := omega) only [va_n, va_s, upd_n, upd_s]; exact hi.mk o ho)),
    (fun o ho hw => by first | exact hi.idle o ho hw | (simp (disch := omega) only [va_n, va_s, upd_n, upd_s] at hw ⊢; exact hi.idle o ho hw) | (simp (disch := omega) only [va_n, va_s, upd_n, upd_s]; exact hi.idle o ho hw)),
    (by first | exact hi.s01 | (simp (disch := omega) only [va_n, va_s, upd_n, upd_s]; exact hi.s01) | (have := hi.s01; omega)),
    (by first | exact hi.c01 | (simp (disch := omega) only [va_n, va_s, upd_n, upd_s]; exact hi.c01) | (have := hi.c01; omega)),
    (fun k hk => by first | exact hi.msg k hk | (simp (disch := omega) only [va_n, va_s, upd_n, upd_s]; exact hi.msg k hk)),
    (by first | exact hi.ordP | (simp (disch := omega) only [va_n, va_s, upd_n, upd_s]; exact hi.ordP)),
    (by first | exact hi.ordL | (simp (disch := omega) only [va_n, va_s, upd_n, upd_s]; exact hi.ordL)),
    (fun i h1 h2 => by first | exact hi.kn i h1 h2 | (simp (disch := omega) only [va_n, va_s, upd_n, upd_s]; exact hi.kn i h1 h2))⟩
theorem ls_ev {v : Nat → Nat → Int32} {w : Nat → Nat → Int32} {r : Nat → Int32} {n : Nat} {t : Nat} {s : Nat} {c : Nat} {p : Nat} {l : Nat} {f : Nat} {x : Int32} {pk : Int32 × Int32} (h : Ev v n t s c p l f pk w r) (h12 : n ≤ 12) (hpp : p ≤ 12) (hll : l ≤ 12) : Ev v n t s c p l f pk (va_up w 35 (fun _ => x)) (upd r 14 x) :=
  ⟨(by first | exact h.tick | (simp (disch := omega) only [va_n, va_s, upd_n, upd_s]; exact h.tick) | (simp (disch := omega) only [va_n, va_s, upd_n, upd_s]; done)),
    (by first | exact h.tickr | (simp (disch := omega) only [va_n, va_s, upd_n, upd_s]; exact h.tickr) | (simp (disch := omega) only [va_n, va_s, upd_n, upd_s]; done)),
    (by first | exact h.dark | (simp (disch := omega) only [va_n, va_s, upd_n, upd_s]; exact h.dark) | (simp (disch := omega) only [va_n, va_s, upd_n, upd_s]; done)),
    (by first | exact h.fuse | (simp (disch := omega) only [va_n, va_s, upd_n, upd_s]; exact h.fuse) | (simp (disch := omega) only [va_n, va_s, upd_n, upd_s]; done)),
    (by first | exact h.fuser | (simp (disch := omega) only [va_n, va_s, upd_n, upd_s]; exact h.fuser) | (simp (disch := omega) only [va_n, va_s, upd_n, upd_s]; done)),
    (by first | exact h.retry | (simp (disch := omega) only [va_n, va_s, upd_n, upd_s]; exact h.retry) | (simp (disch := omega) only [va_n, va_s, upd_n, upd_s]; done)),
    (by first | exact h.strict | (simp (disch := omega) only [va_n, va_s, upd_n, upd_s]; exact h.strict) | (simp (disch := omega) only [va_n, va_s, upd_n, upd_s]; done)),
    (by first | exact h.blk | (simp (disch := omega) only [va_n, va_s, upd_n, upd_s]; exact h.blk) | (simp (disch := omega) only [va_n, va_s, upd_n, upd_s]; done)),
    (by first | exact h.trips | (simp (disch := omega) only [va_n, va_s, upd_n, upd_s]; exact h.trips) | (simp (disch := omega) only [va_n, va_s, upd_n, upd_s]; done)),
    (by first | exact h.peak | (simp (disch := omega) only [va_n, va_s, upd_n, upd_s]; exact h.peak) | (simp (disch := omega) only [va_n, va_s, upd_n, upd_s]; done)),
    (by first | exact h.peakr | (simp (disch := omega) only [va_n, va_s, upd_n, upd_s]; exact h.peakr) | (simp (disch := omega) only [va_n, va_s, upd_n, upd_s]; done)),
    (by first | exact h.pat | (simp (disch := omega) only [va_n, va_s, upd_n, upd_s]; exact h.pat) | (simp (disch := omega) only [va_n, va_s, upd_n, upd_s]; done)),
    (by first | exact h.wait | (simp (disch := omega) only [va_n, va_s, upd_n, upd_s]; exact h.wait) | (simp (disch := omega) only [va_n, va_s, upd_n, upd_s]; done)),
    (by first | exact h.waitr | (simp (disch := omega) only [va_n, va_s, upd_n, upd_s]; exact h.waitr) | (simp (disch := omega) only [va_n, va_s, upd_n, upd_s]; done)),
    (by first | exact h.sent | (simp (disch := omega) only [va_n, va_s, upd_n, upd_s]; exact h.sent) | (simp (disch := omega) only [va_n, va_s, upd_n, upd_s]; done)),
    (by first | exact h.sentr | (simp (disch := omega) only [va_n, va_s, upd_n, upd_s]; exact h.sentr) | (simp (disch := omega) only [va_n, va_s, upd_n, upd_s]; done)),
    (by simp (disch := omega) only [va_n, va_s, upd_n, upd_s]),
    (by first | exact h.pm | (simp (disch := omega) only [va_n, va_s, upd_n, upd_s]; exact h.pm) | (simp (disch := omega) only [va_n, va_s, upd_n, upd_s]; done)),
    (by first | exact h.pmr | (simp (disch := omega) only [va_n, va_s, upd_n, upd_s]; exact h.pmr) | (simp (disch := omega) only [va_n, va_s, upd_n, upd_s]; done)),
    (by first | exact h.lm | (simp (disch := omega) only [va_n, va_s, upd_n, upd_s]; exact h.lm) | (simp (disch := omega) only [va_n, va_s, upd_n, upd_s]; done)),
    (by first | exact h.lmr | (simp (disch := omega) only [va_n, va_s, upd_n, upd_s]; exact h.lmr) | (simp (disch := omega) only [va_n, va_s, upd_n, upd_s]; done)),
    (by first | exact h.lost | (simp (disch := omega) only [va_n, va_s, upd_n, upd_s]; exact h.lost) | (simp (disch := omega) only [va_n, va_s, upd_n, upd_s]; done)),
    (fun k hk => by first | exact h.sby k hk | (simp (disch := omega) only [va_n, va_s, upd_n, upd_s]; exact h.sby k (by omega))),
    (fun k hk => by first | exact h.lby k hk | (simp (disch := omega) only [va_n, va_s, upd_n, upd_s]; exact h.lby k (by omega))),
    (fun o ho => by first | exact h.prio o ho | (simp (disch := omega) only [va_n, va_s, upd_n, upd_s]; exact h.prio o ho)),
    (fun o ho => by first | exact h.wants o ho | (simp (disch := omega) only [va_n, va_s, upd_n, upd_s]; exact h.wants o ho)),
    (fun o ho => by first | exact h.how o ho | (simp (disch := omega) only [va_n, va_s, upd_n, upd_s]; exact h.how o ho)),
    (fun o ho => by first | exact h.left o ho | (simp (disch := omega) only [va_n, va_s, upd_n, upd_s]; exact h.left o ho)),
    (fun o ho => by first | exact h.starts o ho | (simp (disch := omega) only [va_n, va_s, upd_n, upd_s]; exact h.starts o ho)),
    (fun o ho => by first | exact h.ran o ho | (simp (disch := omega) only [va_n, va_s, upd_n, upd_s]; exact h.ran o ho)),
    (fun o ho hw => by first | exact h.asked o ho hw | (simp (disch := omega) only [va_n, va_s, upd_n, upd_s] at hw ⊢; exact h.asked o ho hw) | (simp (disch := omega) only [va_n, va_s, upd_n, upd_s]; exact h.asked o ho hw)),
    (fun o ho => by first | exact h.stop o ho | (simp (disch := omega) only [va_n, va_s, upd_n, upd_s]; exact h.stop o ho)),
    (fun o ho => by first | exact h.poll o ho | (simp (disch := omega) only [va_n, va_s, upd_n, upd_s]; exact h.poll o ho)),
    (fun o ho => by first | exact h.mark o ho | (simp (disch := omega) only [va_n, va_s, upd_n, upd_s]; exact h.mark o ho)),
    (fun o ho => by first | exact h.time o ho | (simp (disch := omega) only [va_n, va_s, upd_n, upd_s]; exact h.time o ho)),
    (fun o ho => by first | exact h.known o ho | (simp (disch := omega) only [va_n, va_s, upd_n, upd_s]; exact h.known o ho)),
    (fun o ho => by first | exact h.exp o ho | (simp (disch := omega) only [va_n, va_s, upd_n, upd_s]; exact h.exp o ho)),
    (fun o ho1 ho2 => by first | exact h.knz o ho1 ho2 | (simp (disch := omega) only [va_n, va_s, upd_n, upd_s]; exact h.knz o ho1 ho2)),
    (fun k hk => by first | exact h.msg k hk | (simp (disch := omega) only [va_n, va_s, upd_n, upd_s]; exact h.msg k (by omega))),
    (fun k hk => by first | exact h.pres k hk | (simp (disch := omega) only [va_n, va_s, upd_n, upd_s]; exact h.pres k (by omega))),
    (fun k hk => by first | exact h.lear k hk | (simp (disch := omega) only [va_n, va_s, upd_n, upd_s]; exact h.lear k (by omega)))⟩
theorem ls_iv {w : Nat → Nat → Int32} {n : Nat} {t : Nat} {s : Nat} {c : Nat} {p : Nat} {l : Nat} {f : Nat} {x : Int32} (hi : Iv n t s c p l f w) (hx : x = 0 ∨ x = 1) : Iv n t s c p l f (va_up w 35 (fun _ => x)) :=
  ⟨(by first | exact hi.n12 | (simp (disch := omega) only [va_n, va_s, upd_n, upd_s]; exact hi.n12) | (have := hi.n12; omega)),
    (by first | exact hi.tb | (simp (disch := omega) only [va_n, va_s, upd_n, upd_s]; exact hi.tb) | (have := hi.tb; omega)),
    (by first | exact hi.sb | (simp (disch := omega) only [va_n, va_s, upd_n, upd_s]; exact hi.sb) | (have := hi.sb; omega)),
    (by first | exact hi.cb | (simp (disch := omega) only [va_n, va_s, upd_n, upd_s]; exact hi.cb) | (have := hi.cb; omega)),
    (by first | exact hi.fb | (simp (disch := omega) only [va_n, va_s, upd_n, upd_s]; exact hi.fb) | (have := hi.fb; omega)),
    (fun o ho => by first | exact hi.st o ho | (simp (disch := omega) only [va_n, va_s, upd_n, upd_s]; exact hi.st o ho)),
    (fun o ho => by first | exact hi.mk o ho | (simp (disch := omega) only [va_n, va_s, upd_n, upd_s]; exact hi.mk o ho)),
    (fun o ho hw => by first | exact hi.idle o ho hw | (simp (disch := omega) only [va_n, va_s, upd_n, upd_s] at hw ⊢; exact hi.idle o ho hw) | (simp (disch := omega) only [va_n, va_s, upd_n, upd_s]; exact hi.idle o ho hw)),
    (by first | exact hi.s01 | (simp (disch := omega) only [va_n, va_s, upd_n, upd_s]; exact hi.s01) | (have := hi.s01; omega)),
    (by simp (disch := omega) only [va_n, va_s, upd_n, upd_s]; exact hx),
    (fun k hk => by first | exact hi.msg k hk | (simp (disch := omega) only [va_n, va_s, upd_n, upd_s]; exact hi.msg k hk)),
    (by first | exact hi.ordP | (simp (disch := omega) only [va_n, va_s, upd_n, upd_s]; exact hi.ordP)),
    (by first | exact hi.ordL | (simp (disch := omega) only [va_n, va_s, upd_n, upd_s]; exact hi.ordL)),
    (fun i h1 h2 => by first | exact hi.kn i h1 h2 | (simp (disch := omega) only [va_n, va_s, upd_n, upd_s]; exact hi.kn i h1 h2))⟩
theorem sx_ev {v : Nat → Nat → Int32} {w : Nat → Nat → Int32} {r : Nat → Int32} {n : Nat} {t : Nat} {s : Nat} {c : Nat} {p : Nat} {l : Nat} {f : Nat} {x : Int32} {pk : Int32 × Int32} (h : Ev v n t s c p l f pk w r) (h12 : n ≤ 12) (hpp : p ≤ 12) (hll : l ≤ 12) : Ev v n t s c p l f pk (va_up w 4 (fun _ => x)) (upd r 9 x) :=
  ⟨(by first | exact h.tick | (simp (disch := omega) only [va_n, va_s, upd_n, upd_s]; exact h.tick) | (simp (disch := omega) only [va_n, va_s, upd_n, upd_s]; done)),
    (by first | exact h.tickr | (simp (disch := omega) only [va_n, va_s, upd_n, upd_s]; exact h.tickr) | (simp (disch := omega) only [va_n, va_s, upd_n, upd_s]; done)),
    (by first | exact h.dark | (simp (disch := omega) only [va_n, va_s, upd_n, upd_s]; exact h.dark) | (simp (disch := omega) only [va_n, va_s, upd_n, upd_s]; done)),
    (by first | exact h.fuse | (simp (disch := omega) only [va_n, va_s, upd_n, upd_s]; exact h.fuse) | (simp (disch := omega) only [va_n, va_s, upd_n, upd_s]; done)),
    (by first | exact h.fuser | (simp (disch := omega) only [va_n, va_s, upd_n, upd_s]; exact h.fuser) | (simp (disch := omega) only [va_n, va_s, upd_n, upd_s]; done)),
    (by first | exact h.retry | (simp (disch := omega) only [va_n, va_s, upd_n, upd_s]; exact h.retry) | (simp (disch := omega) only [va_n, va_s, upd_n, upd_s]; done)),
    (by simp (disch := omega) only [va_n, va_s, upd_n, upd_s]),
    (by first | exact h.blk | (simp (disch := omega) only [va_n, va_s, upd_n, upd_s]; exact h.blk) | (simp (disch := omega) only [va_n, va_s, upd_n, upd_s]; done)),
    (by first | exact h.trips | (simp (disch := omega) only [va_n, va_s, upd_n, upd_s]; exact h.trips) | (simp (disch := omega) only [va_n, va_s, upd_n, upd_s]; done)),
    (by first | exact h.peak | (simp (disch := omega) only [va_n, va_s, upd_n, upd_s]; exact h.peak) | (simp (disch := omega) only [va_n, va_s, upd_n, upd_s]; done)),
    (by first | exact h.peakr | (simp (disch := omega) only [va_n, va_s, upd_n, upd_s]; exact h.peakr) | (simp (disch := omega) only [va_n, va_s, upd_n, upd_s]; done)),
    (by first | exact h.pat | (simp (disch := omega) only [va_n, va_s, upd_n, upd_s]; exact h.pat) | (simp (disch := omega) only [va_n, va_s, upd_n, upd_s]; done)),
    (by first | exact h.wait | (simp (disch := omega) only [va_n, va_s, upd_n, upd_s]; exact h.wait) | (simp (disch := omega) only [va_n, va_s, upd_n, upd_s]; done)),
    (by first | exact h.waitr | (simp (disch := omega) only [va_n, va_s, upd_n, upd_s]; exact h.waitr) | (simp (disch := omega) only [va_n, va_s, upd_n, upd_s]; done)),
    (by first | exact h.sent | (simp (disch := omega) only [va_n, va_s, upd_n, upd_s]; exact h.sent) | (simp (disch := omega) only [va_n, va_s, upd_n, upd_s]; done)),
    (by first | exact h.sentr | (simp (disch := omega) only [va_n, va_s, upd_n, upd_s]; exact h.sentr) | (simp (disch := omega) only [va_n, va_s, upd_n, upd_s]; done)),
    (by first | exact h.clear | (simp (disch := omega) only [va_n, va_s, upd_n, upd_s]; exact h.clear) | (simp (disch := omega) only [va_n, va_s, upd_n, upd_s]; done)),
    (by first | exact h.pm | (simp (disch := omega) only [va_n, va_s, upd_n, upd_s]; exact h.pm) | (simp (disch := omega) only [va_n, va_s, upd_n, upd_s]; done)),
    (by first | exact h.pmr | (simp (disch := omega) only [va_n, va_s, upd_n, upd_s]; exact h.pmr) | (simp (disch := omega) only [va_n, va_s, upd_n, upd_s]; done)),
    (by first | exact h.lm | (simp (disch := omega) only [va_n, va_s, upd_n, upd_s]; exact h.lm) | (simp (disch := omega) only [va_n, va_s, upd_n, upd_s]; done)),
    (by first | exact h.lmr | (simp (disch := omega) only [va_n, va_s, upd_n, upd_s]; exact h.lmr) | (simp (disch := omega) only [va_n, va_s, upd_n, upd_s]; done)),
    (by first | exact h.lost | (simp (disch := omega) only [va_n, va_s, upd_n, upd_s]; exact h.lost) | (simp (disch := omega) only [va_n, va_s, upd_n, upd_s]; done)),
    (fun k hk => by first | exact h.sby k hk | (simp (disch := omega) only [va_n, va_s, upd_n, upd_s]; exact h.sby k (by omega))),
    (fun k hk => by first | exact h.lby k hk | (simp (disch := omega) only [va_n, va_s, upd_n, upd_s]; exact h.lby k (by omega))),
    (fun o ho => by first | exact h.prio o ho | (simp (disch := omega) only [va_n, va_s, upd_n, upd_s]; exact h.prio o ho)),
    (fun o ho => by first | exact h.wants o ho | (simp (disch := omega) only [va_n, va_s, upd_n, upd_s]; exact h.wants o ho)),
    (fun o ho => by first | exact h.how o ho | (simp (disch := omega) only [va_n, va_s, upd_n, upd_s]; exact h.how o ho)),
    (fun o ho => by first | exact h.left o ho | (simp (disch := omega) only [va_n, va_s, upd_n, upd_s]; exact h.left o ho)),
    (fun o ho => by first | exact h.starts o ho | (simp (disch := omega) only [va_n, va_s, upd_n, upd_s]; exact h.starts o ho)),
    (fun o ho => by first | exact h.ran o ho | (simp (disch := omega) only [va_n, va_s, upd_n, upd_s]; exact h.ran o ho)),
    (fun o ho hw => by first | exact h.asked o ho hw | (simp (disch := omega) only [va_n, va_s, upd_n, upd_s] at hw ⊢; exact h.asked o ho hw) | (simp (disch := omega) only [va_n, va_s, upd_n, upd_s]; exact h.asked o ho hw)),
    (fun o ho => by first | exact h.stop o ho | (simp (disch := omega) only [va_n, va_s, upd_n, upd_s]; exact h.stop o ho)),
    (fun o ho => by first | exact h.poll o ho | (simp (disch := omega) only [va_n, va_s, upd_n, upd_s]; exact h.poll o ho)),
    (fun o ho => by first | exact h.mark o ho | (simp (disch := omega) only [va_n, va_s, upd_n, upd_s]; exact h.mark o ho)),
    (fun o ho => by first | exact h.time o ho | (simp (disch := omega) only [va_n, va_s, upd_n, upd_s]; exact h.time o ho)),
    (fun o ho => by first | exact h.known o ho | (simp (disch := omega) only [va_n, va_s, upd_n, upd_s]; exact h.known o ho)),
    (fun o ho => by first | exact h.exp o ho | (simp (disch := omega) only [va_n, va_s, upd_n, upd_s]; exact h.exp o ho)),
    (fun o ho1 ho2 => by first | exact h.knz o ho1 ho2 | (simp (disch := omega) only [va_n, va_s, upd_n, upd_s]; exact h.knz o ho1 ho2)),
    (fun k hk => by first | exact h.msg k hk | (simp (disch := omega) only [va_n, va_s, upd_n, upd_s]; exact h.msg k (by omega))),
    (fun k hk => by first | exact h.pres k hk | (simp (disch := omega) only [va_n, va_s, upd_n, upd_s]; exact h.pres k (by omega))),
    (fun k hk => by first | exact h.lear k hk | (simp (disch := omega) only [va_n, va_s, upd_n, upd_s]; exact h.lear k (by omega)))⟩
theorem sx_iv {w : Nat → Nat → Int32} {n : Nat} {t : Nat} {s : Nat} {c : Nat} {p : Nat} {l : Nat} {f : Nat} {x : Int32} (hi : Iv n t s c p l f w) (hx : x = 0 ∨ x = 1) : Iv n t s c p l f (va_up w 4 (fun _ => x)) :=
  ⟨(by first | exact hi.n12 | (simp (disch := omega) only [va_n, va_s, upd_n, upd_s]; exact hi.n12) | (have := hi.n12; omega)),
    (by first | exact hi.tb | (simp (disch := omega) only [va_n, va_s, upd_n, upd_s]; exact hi.tb) | (have := hi.tb; omega)),
    (by first | exact hi.sb | (simp (disch := omega) only [va_n, va_s, upd_n, upd_s]; exact hi.sb) | (have := hi.sb; omega)),
    (by first | exact hi.cb | (simp (disch := omega) only [va_n, va_s, upd_n, upd_s]; exact hi.cb) | (have := hi.cb; omega)),
    (by first | exact hi.fb | (simp (disch := omega) only [va_n, va_s, upd_n, upd_s]; exact hi.fb) | (have := hi.fb; omega)),
    (fun o ho => by first | exact hi.st o ho | (simp (disch := omega) only [va_n, va_s, upd_n, upd_s]; exact hi.st o ho)),
    (fun o ho => by first | exact hi.mk o ho | (simp (disch := omega) only [va_n, va_s, upd_n, upd_s]; exact hi.mk o ho)),
    (fun o ho hw => by first | exact hi.idle o ho hw | (simp (disch := omega) only [va_n, va_s, upd_n, upd_s] at hw ⊢; exact hi.idle o ho hw) | (simp (disch := omega) only [va_n, va_s, upd_n, upd_s]; exact hi.idle o ho hw)),
    (by simp (disch := omega) only [va_n, va_s, upd_n, upd_s]; exact hx),
    (by first | exact hi.c01 | (simp (disch := omega) only [va_n, va_s, upd_n, upd_s]; exact hi.c01) | (have := hi.c01; omega)),
    (fun k hk => by first | exact hi.msg k hk | (simp (disch := omega) only [va_n, va_s, upd_n, upd_s]; exact hi.msg k hk)),
    (by first | exact hi.ordP | (simp (disch := omega) only [va_n, va_s, upd_n, upd_s]; exact hi.ordP)),
    (by first | exact hi.ordL | (simp (disch := omega) only [va_n, va_s, upd_n, upd_s]; exact hi.ordL)),
    (fun i h1 h2 => by first | exact hi.kn i h1 h2 | (simp (disch := omega) only [va_n, va_s, upd_n, upd_s]; exact hi.kn i h1 h2))⟩
theorem p0_ev {v : Nat → Nat → Int32} {w : Nat → Nat → Int32} {r : Nat → Int32} {n : Nat} {t : Nat} {s : Nat} {c : Nat} {p : Nat} {l : Nat} {f : Nat} {pk : Int32 × Int32} (h : Ev v n t s c p l f pk w r) (h12 : n ≤ 12) (hpp : p ≤ 12) (hll : l ≤ 12) : Ev v n t s c p l f (0, pk.2) (va_up w 7 (fun _ => 0)) r :=
  ⟨(by first | exact h.tick | (simp (disch := omega) only [va_n, va_s, upd_n, upd_s]; exact h.tick) | (simp (disch := omega) only [va_n, va_s, upd_n, upd_s]; done)),
    (by first | exact h.tickr | (simp (disch := omega) only [va_n, va_s, upd_n, upd_s]; exact h.tickr) | (simp (disch := omega) only [va_n, va_s, upd_n, upd_s]; done)),
    (by first | exact h.dark | (simp (disch := omega) only [va_n, va_s, upd_n, upd_s]; exact h.dark) | (simp (disch := omega) only [va_n, va_s, upd_n, upd_s]; done)),
    (by first | exact h.fuse | (simp (disch := omega) only [va_n, va_s, upd_n, upd_s]; exact h.fuse) | (simp (disch := omega) only [va_n, va_s, upd_n, upd_s]; done)),
    (by first | exact h.fuser | (simp (disch := omega) only [va_n, va_s, upd_n, upd_s]; exact h.fuser) | (simp (disch := omega) only [va_n, va_s, upd_n, upd_s]; done)),
    (by first | exact h.retry | (simp (disch := omega) only [va_n, va_s, upd_n, upd_s]; exact h.retry) | (simp (disch := omega) only [va_n, va_s, upd_n, upd_s]; done)),
    (by first | exact h.strict | (simp (disch := omega) only [va_n, va_s, upd_n, upd_s]; exact h.strict) | (simp (disch := omega) only [va_n, va_s, upd_n, upd_s]; done)),
    (by first | exact h.blk | (simp (disch := omega) only [va_n, va_s, upd_n, upd_s]; exact h.blk) | (simp (disch := omega) only [va_n, va_s, upd_n, upd_s]; done)),
    (by first | exact h.trips | (simp (disch := omega) only [va_n, va_s, upd_n, upd_s]; exact h.trips) | (simp (disch := omega) only [va_n, va_s, upd_n, upd_s]; done)),
    (by simp (disch := omega) only [va_n, va_s, upd_n, upd_s]),
    (by first | exact h.peakr | (simp (disch := omega) only [va_n, va_s, upd_n, upd_s]; exact h.peakr) | (simp (disch := omega) only [va_n, va_s, upd_n, upd_s]; done)),
    (by first | exact h.pat | (simp (disch := omega) only [va_n, va_s, upd_n, upd_s]; exact h.pat) | (simp (disch := omega) only [va_n, va_s, upd_n, upd_s]; done)),
    (by first | exact h.wait | (simp (disch := omega) only [va_n, va_s, upd_n, upd_s]; exact h.wait) | (simp (disch := omega) only [va_n, va_s, upd_n, upd_s]; done)),
    (by first | exact h.waitr | (simp (disch := omega) only [va_n, va_s, upd_n, upd_s]; exact h.waitr) | (simp (disch := omega) only [va_n, va_s, upd_n, upd_s]; done)),
    (by first | exact h.sent | (simp (disch := omega) only [va_n, va_s, upd_n, upd_s]; exact h.sent) | (simp (disch := omega) only [va_n, va_s, upd_n, upd_s]; done)),
    (by first | exact h.sentr | (simp (disch := omega) only [va_n, va_s, upd_n, upd_s]; exact h.sentr) | (simp (disch := omega) only [va_n, va_s, upd_n, upd_s]; done)),
    (by first | exact h.clear | (simp (disch := omega) only [va_n, va_s, upd_n, upd_s]; exact h.clear) | (simp (disch := omega) only [va_n, va_s, upd_n, upd_s]; done)),
    (by first | exact h.pm | (simp (disch := omega) only [va_n, va_s, upd_n, upd_s]; exact h.pm) | (simp (disch := omega) only [va_n, va_s, upd_n, upd_s]; done)),
    (by first | exact h.pmr | (simp (disch := omega) only [va_n, va_s, upd_n, upd_s]; exact h.pmr) | (simp (disch := omega) only [va_n, va_s, upd_n, upd_s]; done)),
    (by first | exact h.lm | (simp (disch := omega) only [va_n, va_s, upd_n, upd_s]; exact h.lm) | (simp (disch := omega) only [va_n, va_s, upd_n, upd_s]; done)),
    (by first | exact h.lmr | (simp (disch := omega) only [va_n, va_s, upd_n, upd_s]; exact h.lmr) | (simp (disch := omega) only [va_n, va_s, upd_n, upd_s]; done)),
    (by first | exact h.lost | (simp (disch := omega) only [va_n, va_s, upd_n, upd_s]; exact h.lost) | (simp (disch := omega) only [va_n, va_s, upd_n, upd_s]; done)),
    (fun k hk => by first | exact h.sby k hk | (simp (disch := omega) only [va_n, va_s, upd_n, upd_s]; exact h.sby k (by omega))),
    (fun k hk => by first | exact h.lby k hk | (simp (disch := omega) only [va_n, va_s, upd_n, upd_s]; exact h.lby k (by omega))),
    (fun o ho => by first | exact h.prio o ho | (simp (disch := omega) only [va_n, va_s, upd_n, upd_s]; exact h.prio o ho)),
    (fun o ho => by first | exact h.wants o ho | (simp (disch := omega) only [va_n, va_s, upd_n, upd_s]; exact h.wants o ho)),
    (fun o ho => by first | exact h.how o ho | (simp (disch := omega) only [va_n, va_s, upd_n, upd_s]; exact h.how o ho)),
    (fun o ho => by first | exact h.left o ho | (simp (disch := omega) only [va_n, va_s, upd_n, upd_s]; exact h.left o ho)),
    (fun o ho => by first | exact h.starts o ho | (simp (disch := omega) only [va_n, va_s, upd_n, upd_s]; exact h.starts o ho)),
    (fun o ho => by first | exact h.ran o ho | (simp (disch := omega) only [va_n, va_s, upd_n, upd_s]; exact h.ran o ho)),
    (fun o ho hw => by first | exact h.asked o ho hw | (simp (disch := omega) only [va_n, va_s, upd_n, upd_s] at hw ⊢; exact h.asked o ho hw) | (simp (disch := omega) only [va_n, va_s, upd_n, upd_s]; exact h.asked o ho hw)),
    (fun o ho => by first | exact h.stop o ho | (simp (disch := omega) only [va_n, va_s, upd_n, upd_s]; exact h.stop o ho)),
    (fun o ho => by first | exact h.poll o ho | (simp (disch := omega) only [va_n, va_s, upd_n, upd_s]; exact h.poll o ho)),
    (fun o ho => by first | exact h.mark o ho | (simp (disch := omega) only [va_n, va_s, upd_n, upd_s]; exact h.mark o ho)),
    (fun o ho => by first | exact h.time o ho | (simp (disch := omega) only [va_n, va_s, upd_n, upd_s]; exact h.time o ho)),
    (fun o ho => by first | exact h.known o ho | (simp (disch := omega) only [va_n, va_s, upd_n, upd_s]; exact h.known o ho)),
    (fun o ho => by first | exact h.exp o ho | (simp (disch := omega) only [va_n, va_s, upd_n, upd_s]; exact h.exp o ho)),
    (fun o ho1 ho2 => by first | exact h.knz o ho1 ho2 | (simp (disch := omega) only [va_n, va_s, upd_n, upd_s]; exact h.knz o ho1 ho2)),
    (fun k hk => by first | exact h.msg k hk | (simp (disch := omega) only [va_n, va_s, upd_n, upd_s]; exact h.msg k (by omega))),
    (fun k hk => by first | exact h.pres k hk | (simp (disch := omega) only [va_n, va_s, upd_n, upd_s]; exact h.pres k (by omega))),
    (fun k hk => by first | exact h.lear k hk | (simp (disch := omega) only [va_n, va_s, upd_n, upd_s]; exact h.lear k (by omega)))⟩
theorem p0_iv {w : Nat → Nat → Int32} {n : Nat} {t : Nat} {s : Nat} {c : Nat} {p : Nat} {l : Nat} {f : Nat} (hi : Iv n t s c p l f w) : Iv n t s c p l f (va_up w 7 (fun _ => 0)) :=
  ⟨(by first | exact hi.n12 | (simp (disch := omega) only [va_n, va_s, upd_n, upd_s]; exact hi.n12) | (have := hi.n12; omega)),
    (by first | exact hi.tb | (simp (disch := omega) only [va_n, va_s, upd_n, upd_s]; exact hi.tb) | (have := hi.tb; omega)),
    (by first | exact hi.sb | (simp (disch := omega) only [va_n, va_s, upd_n, upd_s]; exact hi.sb) | (have := hi.sb; omega)),
    (by first | exact hi.cb | (simp (disch := omega) only [va_n, va_s, upd_n, upd_s]; exact hi.cb) | (have := hi.cb; omega)),
    (by first | exact hi.fb | (simp (disch := omega) only [va_n, va_s, upd_n, upd_s]; exact hi.fb) | (have := hi.fb; omega)),
    (fun o ho => by first | exact hi.st o ho | (simp (disch := omega) only [va_n, va_s, upd_n, upd_s]; exact hi.st o ho)),
    (fun o ho => by first | exact hi.mk o ho | (simp (disch := omega) only [va_n, va_s, upd_n, upd_s]; exact hi.mk o ho)),
    (fun o ho hw => by first | exact hi.idle o ho hw | (simp (disch := omega) only [va_n, va_s, upd_n, upd_s] at hw ⊢; exact hi.idle o ho hw) | (simp (disch := omega) only [va_n, va_s, upd_n, upd_s]; exact hi.idle o ho hw)),
    (by first | exact hi.s01 | (simp (disch := omega) only [va_n, va_s, upd_n, upd_s]; exact hi.s01) | (have := hi.s01; omega)),
    (by first | exact hi.c01 | (simp (disch := omega) only [va_n, va_s, upd_n, upd_s]; exact hi.c01) | (have := hi.c01; omega)),
    (fun k hk => by first | exact hi.msg k hk | (simp (disch := omega) only [va_n, va_s, upd_n, upd_s]; exact hi.msg k hk)),
    (by first | exact hi.ordP | (simp (disch := omega) only [va_n, va_s, upd_n, upd_s]; exact hi.ordP)),
    (by first | exact hi.ordL | (simp (disch := omega) only [va_n, va_s, upd_n, upd_s]; exact hi.ordL)),
    (fun i h1 h2 => by first | exact hi.kn i h1 h2 | (simp (disch := omega) only [va_n, va_s, upd_n, upd_s]; exact hi.kn i h1 h2))⟩
def fgW (v w : Nat → Nat → Int32) : Nat → Nat → Int32 := va_up (va_up (va_up (va_up w 20 (kcpy 12 (v 10) (w 20))) 21 (fun _ => 0)) 23 (kfill 12 (-1) (w 23))) 24 (fun _ => 0)
theorem forgetL_e {v : Nat → Nat → Int32} {w : Nat → Nat → Int32} : qX3_forgetLearned v w = some (fgW v w) := by
  unfold qX3_forgetLearned qX1_clear_l fgW
  simp (disch := omega) only [bs_e, bd_s, va_n]
def fgR (r : Nat → Int32) : Nat → Int32 := upd (lfold (fun k u => upd u (51 + 12 * k + 11) 0) 0 12 r) 13 0
def fgN (r : Nat → Int32) : Int32 := lfold (fun k x => x + r (51 + 12 * k + 11)) 0 12 0
theorem fg_c (r : Nat → Int32) : (∀ i, (∀ k, k < 12 → i ≠ 51 + 12 * k + 11) → i ≠ 13 → fgR r i = r i) ∧ (∀ k, k < 12 → fgR r (51 + 12 * k + 11) = 0) ∧ fgR r 13 = 0 := by
  have := lfold_inv (f := fun k (u : Nat → Int32) => upd u (51 + 12 * k + 11) 0) (fun m u => (∀ i, (∀ k, k < 12 → i ≠ 51 + 12 * k + 11) → u i = r i) ∧ ∀ k, k < m → u (51 + 12 * k + 11) = 0) 12 0 r ⟨fun i _ => rfl, fun k hk => by omega⟩ (by
    intro m u _ hm ⟨h1, h2⟩
    refine ⟨fun i hi => ?_, fun k hk => ?_⟩
    · show upd u _ 0 i = _
      rw [upd_n (hi m (by omega)), h1 i hi]
    · show upd u _ 0 _ = _
      by_cases e : k = m
      · rw [e, upd_s]
      · rw [upd_n (by omega), h2 k (by omega)])
  rw [Nat.zero_add] at this
  obtain ⟨h1, h2⟩ := this
  refine ⟨fun i hi h13 => ?_, fun k hk => ?_, ?_⟩
  · unfold fgR
    rw [upd_n h13, h1 i hi]
  · unfold fgR
    rw [upd_n (by omega), h2 k hk]
  · unfold fgR
    rw [upd_s]
theorem forgets_e (r : Nat → Int32) : qX11_forgets r = some (fgN r, fgR r) := by
  unfold qX11_forgets
  have key : ∀ (d k g : Nat) (x : Int32) (u : Nat → Int32), k + d = 12 → d < g → (∀ i, k ≤ i → i < 12 → u (51 + 12 * i + 11) = r (51 + 12 * i + 11)) → qX11_forgets_L4 (fun (x1_4 : Int32) (rw_5 : Nat → Int32) => (bs (upd rw_5 13 0) fun rw_9 => some (x1_4, rw_9))) g x (nI k) u = some (lfold (fun k x => x + r (51 + 12 * k + 11)) k d x, upd (lfold (fun k u => upd u (51 + 12 * k + 11) 0) k d u) 13 0) := by
    intro d
    induction d with
    | zero =>
      intro k g x u hk hg hu
      obtain ⟨g, rfl⟩ : ∃ g', g = g' + 1 := ⟨g - 1, by omega⟩
      have : k = 12 := by omega
      subst this
      rw [qX11_forgets_L4, if_pos (show (12 : Int32) ≤ nI 12 from Int32.le_refl _), bs_e]
      rfl
    | succ d ih =>
      intro k g x u hk hg hu
      obtain ⟨g, rfl⟩ : ∃ g', g = g' + 1 := ⟨g - 1, by omega⟩
      rw [qX11_forgets_L4, if_neg (show ¬ (12 : Int32) ≤ nI k from nle (a := 12) (by omega) (by omega)), ag11, bd_s, gdn (by omega) (by omega), bd_s, gdn (by omega) (by omega), cl (by omega), bs_e, p1, hu k (Nat.le_refl _) (by omega)]
      exact ih (k + 1) g _ _ (by omega) (by omega) (fun i h1 h2 => by rw [upd_n (by omega), hu i (by omega) h2])
  exact key 12 0 fu 0 r (by omega) (by unfold fu; omega) (fun i _ _ => rfl)
theorem fg_ev {v : Nat → Nat → Int32} {z : Nat → Nat → Int32} {w : Nat → Nat → Int32} {r : Nat → Int32} {n : Nat} {t : Nat} {s : Nat} {c : Nat} {p : Nat} {l : Nat} {f : Nat} {pk : Int32 × Int32} (hp : Pl v z n) (h : Ev v n t s c p l f pk w r) (h12 : n ≤ 12) (hpp : p ≤ 12) (hll : l ≤ 12) : Ev v n t s c p 0 f pk (fgW v w) (fgR r) := by
  obtain ⟨hA0, hB, hC⟩ := fg_c r
  have hA : ∀ i, i < 13 ∨ (13 < i ∧ i < 51) ∨ 195 ≤ i → fgR r i = r i := fun i hi => hA0 i (fun k hk => by omega) (by omega)
  have hO : ∀ k j, k < 12 → j < 11 → fgR r (51 + 12 * k + j) = r (51 + 12 * k + j) := fun k j hk hj => hA0 _ (fun k2 hk2 => by omega) (by omega)
  have hO0 : ∀ k, k < 12 → fgR r (51 + 12 * k) = r (51 + 12 * k) := fun k hk => hA0 _ (fun k2 hk2 => by omega) (by omega)
  exact ⟨(by first | exact h.tick | (simp (disch := omega) only [fgW, va_n, va_s, hA]; exact h.tick) | (simp (disch := omega) only [fgW, va_n, va_s, hA]; done)),
    (by first | exact h.tickr | (simp (disch := omega) only [fgW, va_n, va_s, hA]; exact h.tickr) | (simp (disch := omega) only [fgW, va_n, va_s, hA]; done)),
    (by first | exact h.dark | (simp (disch := omega) only [fgW, va_n, va_s, hA]; exact h.dark) | (simp (disch := omega) only [fgW, va_n, va_s, hA]; done)),
    (by first | exact h.fuse | (simp (disch := omega) only [fgW, va_n, va_s, hA]; exact h.fuse) | (simp (disch := omega) only [fgW, va_n, va_s, hA]; done)),
    (by first | exact h.fuser | (simp (disch := omega) only [fgW, va_n, va_s, hA]; exact h.fuser) | (simp (disch := omega) only [fgW, va_n, va_s, hA]; done)),
    (by first | exact h.retry | (simp (disch := omega) only [fgW, va_n, va_s, hA]; exact h.retry) | (simp (disch := omega) only [fgW, va_n, va_s, hA]; done)),
    (by first | exact h.strict | (simp (disch := omega) only [fgW, va_n, va_s, hA]; exact h.strict) | (simp (disch := omega) only [fgW, va_n, va_s, hA]; done)),
    (by first | exact h.blk | (simp (disch := omega) only [fgW, va_n, va_s, hA]; exact h.blk) | (simp (disch := omega) only [fgW, va_n, va_s, hA]; done)),
    (by first | exact h.trips | (simp (disch := omega) only [fgW, va_n, va_s, hA]; exact h.trips) | (simp (disch := omega) only [fgW, va_n, va_s, hA]; done)),
    (by first | exact h.peak | (simp (disch := omega) only [fgW, va_n, va_s, hA]; exact h.peak) | (simp (disch := omega) only [fgW, va_n, va_s, hA]; done)),
    (by first | exact h.peakr | (simp (disch := omega) only [fgW, va_n, va_s, hA]; exact h.peakr) | (simp (disch := omega) only [fgW, va_n, va_s, hA]; done)),
    (by first | exact h.pat | (simp (disch := omega) only [fgW, va_n, va_s, hA]; exact h.pat) | (simp (disch := omega) only [fgW, va_n, va_s, hA]; done)),
    (by first | exact h.wait | (simp (disch := omega) only [fgW, va_n, va_s, hA]; exact h.wait) | (simp (disch := omega) only [fgW, va_n, va_s, hA]; done)),
    (by first | exact h.waitr | (simp (disch := omega) only [fgW, va_n, va_s, hA]; exact h.waitr) | (simp (disch := omega) only [fgW, va_n, va_s, hA]; done)),
    (by first | exact h.sent | (simp (disch := omega) only [fgW, va_n, va_s, hA]; exact h.sent) | (simp (disch := omega) only [fgW, va_n, va_s, hA]; done)),
    (by first | exact h.sentr | (simp (disch := omega) only [fgW, va_n, va_s, hA]; exact h.sentr) | (simp (disch := omega) only [fgW, va_n, va_s, hA]; done)),
    (by first | exact h.clear | (simp (disch := omega) only [fgW, va_n, va_s, hA]; exact h.clear) | (simp (disch := omega) only [fgW, va_n, va_s, hA]; done)),
    (by first | exact h.pm | (simp (disch := omega) only [fgW, va_n, va_s, hA]; exact h.pm) | (simp (disch := omega) only [fgW, va_n, va_s, hA]; done)),
    (by first | exact h.pmr | (simp (disch := omega) only [fgW, va_n, va_s, hA]; exact h.pmr) | (simp (disch := omega) only [fgW, va_n, va_s, hA]; done)),
    (by simp (disch := omega) only [fgW, va_n, va_s]; rfl),
    (by rw [hC]; rfl),
    (by first | exact h.lost | (simp (disch := omega) only [fgW, va_n, va_s, hA]; exact h.lost) | (simp (disch := omega) only [fgW, va_n, va_s, hA]; done)),
    (fun k hk => by first | exact h.sby k hk | (simp (disch := omega) only [fgW, va_n, va_s, hA]; exact h.sby k (by omega))),
    (fun k hk => by first | exact h.lby k hk | (simp (disch := omega) only [fgW, va_n, va_s, hA]; exact h.lby k (by omega))),
    (fun k hk => by
      rw [hO0 k (by omega)]
      simp (disch := omega) only [fgW, va_n, va_s]
      exact h.prio k hk),
    (fun k hk => by
      rw [hO k 1 (by omega) (by omega)]
      simp (disch := omega) only [fgW, va_n, va_s]
      exact h.wants k hk),
    (fun k hk => by
      rw [hO k 2 (by omega) (by omega)]
      simp (disch := omega) only [fgW, va_n, va_s]
      exact h.how k hk),
    (fun k hk => by
      rw [hO k 3 (by omega) (by omega)]
      simp (disch := omega) only [fgW, va_n, va_s]
      exact h.left k hk),
    (fun k hk => by
      rw [hO k 4 (by omega) (by omega)]
      simp (disch := omega) only [fgW, va_n, va_s]
      exact h.starts k hk),
    (fun k hk => by
      rw [hO k 5 (by omega) (by omega)]
      simp (disch := omega) only [fgW, va_n, va_s]
      exact h.ran k hk),
    (fun k hk hw => by
      simp (disch := omega) only [fgW, va_n, va_s] at hw ⊢
      rw [hO k 6 (by omega) (by omega)]
      exact h.asked k hk hw),
    (fun k hk => by
      rw [hO k 7 (by omega) (by omega)]
      simp (disch := omega) only [fgW, va_n, va_s]
      exact h.stop k hk),
    (fun k hk => by
      rw [hO k 8 (by omega) (by omega)]
      simp (disch := omega) only [fgW, va_n, va_s]
      exact h.poll k hk),
    (fun k hk => by
      rw [hO k 9 (by omega) (by omega)]
      simp (disch := omega) only [fgW, va_n, va_s]
      exact h.mark k hk),
    (fun k hk => by
      rw [hO k 10 (by omega) (by omega)]
      simp (disch := omega) only [fgW, va_n, va_s]
      exact h.time k hk),
    (fun k hk => by
      rw [hB k (by omega)]
      simp (disch := omega) only [fgW, va_n, va_s]
      rw [b01_z]),
    (fun k hk => by
      simp (disch := omega) only [fgW, va_n, va_s]
      rw [kcl (by omega), if_neg (show ¬ bt 0 k = true by rw [b_0]; exact Bool.false_ne_true)]),
    (fun o h1 h2 => hB o h2),
    (fun k hk => by first | exact h.msg k hk | (simp (disch := omega) only [fgW, va_n, va_s, hA]; exact h.msg k (by omega))),
    (fun k hk => by first | exact h.pres k hk | (simp (disch := omega) only [fgW, va_n, va_s, hA]; exact h.pres k (by omega))),
    (fun k hk => by omega)⟩
theorem fg_iv {v : Nat → Nat → Int32} {w : Nat → Nat → Int32} {n : Nat} {t : Nat} {s : Nat} {c : Nat} {p : Nat} {l : Nat} {f : Nat} (hi : Iv n t s c p l f w) : Iv n t s c p 0 f (fgW v w) := by
  have h12 := hi.n12
  exact ⟨(by first | exact hi.n12 | (simp (disch := omega) only [fgW, va_n, va_s]; exact hi.n12) | (have := hi.n12; omega)),
    (by first | exact hi.tb | (simp (disch := omega) only [fgW, va_n, va_s]; exact hi.tb) | (have := hi.tb; omega)),
    (by first | exact hi.sb | (simp (disch := omega) only [fgW, va_n, va_s]; exact hi.sb) | (have := hi.sb; omega)),
    (by first | exact hi.cb | (simp (disch := omega) only [fgW, va_n, va_s]; exact hi.cb) | (have := hi.cb; omega)),
    (by first | exact hi.fb | (simp (disch := omega) only [fgW, va_n, va_s]; exact hi.fb) | (have := hi.fb; omega)),
    (fun o ho => by first | exact hi.st o ho | (simp (disch := omega) only [fgW, va_n, va_s]; exact hi.st o ho)),
    (fun o ho => by first | exact hi.mk o ho | (simp (disch := omega) only [fgW, va_n, va_s]; exact hi.mk o ho)),
    (fun o ho hw => by first | exact hi.idle o ho hw | (simp (disch := omega) only [fgW, va_n, va_s] at hw ⊢; exact hi.idle o ho hw) | (simp (disch := omega) only [fgW, va_n, va_s]; exact hi.idle o ho hw)),
    (by first | exact hi.s01 | (simp (disch := omega) only [fgW, va_n, va_s]; exact hi.s01) | (have := hi.s01; omega)),
    (by first | exact hi.c01 | (simp (disch := omega) only [fgW, va_n, va_s]; exact hi.c01) | (have := hi.c01; omega)),
    (fun k hk => by first | exact hi.msg k hk | (simp (disch := omega) only [fgW, va_n, va_s]; exact hi.msg k hk)),
    (by first | exact hi.ordP | (simp (disch := omega) only [fgW, va_n, va_s]; exact hi.ordP)),
    (by
      simp (disch := omega) only [fgW, va_n, va_s]
      exact ord_0 (fun o ho => kfl (by omega))),
    (fun i h1 h2 => by
      simp (disch := omega) only [fgW, va_n, va_s]
      exact b_0 i)⟩
