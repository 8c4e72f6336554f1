-- want
def onR (r : Nat → Int32) (o : Nat) : Nat → Int32 := upd (upd (upd (upd r (51 + 12 * o + 1) 1) (51 + 12 * o + 2) 1) (51 + 12 * o + 3) 0) (51 + 12 * o + 6) (-1)
def ofR (r : Nat → Int32) (o : Nat) : Nat → Int32 := upd (upd (upd (upd r (51 + 12 * o + 1) 0) (51 + 12 * o + 2) 0) (51 + 12 * o + 3) 0) (51 + 12 * o + 6) (-1)
def ofW (w : Nat → Nat → Int32) (o : Nat) : Nat → Nat → Int32 := va_up (va_up w 11 (upd (w 11) o 0)) 12 (upd (w 12) o 0)
def snW (w : Nat → Nat → Int32) (o : Nat) : Nat → Nat → Int32 := va_up w 16 (fun _ => w 16 0 ||| (1 <<< (nI o &&& 31)))
theorem on_ev {v : Nat → Nat → Int32} {w : Nat → Nat → Int32} {r : Nat → Int32} {n : Nat} {t : Nat} {s : Nat} {c : Nat} {p : Nat} {l : Nat} {f : Nat} {o : Nat} {pk : Int32 × Int32} (h : Ev v n t s c p l f pk w r) (ho6 : o < n) (h12 : n ≤ 12) (hpp : p ≤ 12) (hll : l ≤ 12) : Ev v n t s c p l f pk (btW w o) (onR r o) :=
  ⟨(by first | exact h.tick | (simp (disch := omega) only [btW, onR, va_n, va_s, upd_n, upd_s]; exact h.tick) | (simp (disch := omega) only [btW, onR, va_n, va_s, upd_n, upd_s]; done)),
    (by first | exact h.tickr | (simp (disch := omega) only [btW, onR, va_n, va_s, upd_n, upd_s]; exact h.tickr) | (simp (disch := omega) only [btW, onR, va_n, va_s, upd_n, upd_s]; done)),
    (by first | exact h.dark | (simp (disch := omega) only [btW, onR, va_n, va_s, upd_n, upd_s]; exact h.dark) | (simp (disch := omega) only [btW, onR, va_n, va_s, upd_n, upd_s]; done)),
    (by first | exact h.fuse | (simp (disch := omega) only [btW, onR, va_n, va_s, upd_n, upd_s]; exact h.fuse) | (simp (disch := omega) only [btW, onR, va_n, va_s, upd_n, upd_s]; done)),
    (by first | exact h.fuser | (simp (disch := omega) only [btW, onR, va_n, va_s, upd_n, upd_s]; exact h.fuser) | (simp (disch := omega) only [btW, onR, va_n, va_s, upd_n, upd_s]; done)),
    (by first | exact h.retry | (simp (disch := omega) only [btW, onR, va_n, va_s, upd_n, upd_s]; exact h.retry) | (simp (disch := omega) only [btW, onR, va_n, va_s, upd_n, upd_s]; done)),
    (by first | exact h.strict | (simp (disch := omega) only [btW, onR, va_n, va_s, upd_n, upd_s]; exact h.strict) | (simp (disch := omega) only [btW, onR, va_n, va_s, upd_n, upd_s]; done)),
    (by first | exact h.blk | (simp (disch := omega) only [btW, onR, va_n, va_s, upd_n, upd_s]; exact h.blk) | (simp (disch := omega) only [btW, onR, va_n, va_s, upd_n, upd_s]; done)),
    (by first | exact h.trips | (simp (disch := omega) only [btW, onR, va_n, va_s, upd_n, upd_s]; exact h.trips) | (simp (disch := omega) only [btW, onR, va_n, va_s, upd_n, upd_s]; done)),
    (by first | exact h.peak | (simp (disch := omega) only [btW, onR, va_n, va_s, upd_n, upd_s]; exact h.peak) | (simp (disch := omega) only [btW, onR, va_n, va_s, upd_n, upd_s]; done)),
    (by first | exact h.peakr | (simp (disch := omega) only [btW, onR, va_n, va_s, upd_n, upd_s]; exact h.peakr) | (simp (disch := omega) only [btW, onR, va_n, va_s, upd_n, upd_s]; done)),
    (by first | exact h.pat | (simp (disch := omega) only [btW, onR, va_n, va_s, upd_n, upd_s]; exact h.pat) | (simp (disch := omega) only [btW, onR, va_n, va_s, upd_n, upd_s]; done)),
    (by first | exact h.wait | (simp (disch := omega) only [btW, onR, va_n, va_s, upd_n, upd_s]; exact h.wait) | (simp (disch := omega) only [btW, onR, va_n, va_s, upd_n, upd_s]; done)),
    (by first | exact h.waitr | (simp (disch := omega) only [btW, onR, va_n, va_s, upd_n, upd_s]; exact h.waitr) | (simp (disch := omega) only [btW, onR, va_n, va_s, upd_n, upd_s]; done)),
    (by first | exact h.sent | (simp (disch := omega) only [btW, onR, va_n, va_s, upd_n, upd_s]; exact h.sent) | (simp (disch := omega) only [btW, onR, va_n, va_s, upd_n, upd_s]; done)),
    (by first | exact h.sentr | (simp (disch := omega) only [btW, onR, va_n, va_s, upd_n, upd_s]; exact h.sentr) | (simp (disch := omega) only [btW, onR, va_n, va_s, upd_n, upd_s]; done)),
    (by first | exact h.clear | (simp (disch := omega) only [btW, onR, va_n, va_s, upd_n, upd_s]; exact h.clear) | (simp (disch := omega) only [btW, onR, va_n, va_s, upd_n, upd_s]; done)),
    (by first | exact h.pm | (simp (disch := omega) only [btW, onR, va_n, va_s, upd_n, upd_s]; exact h.pm) | (simp (disch := omega) only [btW, onR, va_n, va_s, upd_n, upd_s]; done)),
    (by first | exact h.pmr | (simp (disch := omega) only [btW, onR, va_n, va_s, upd_n, upd_s]; exact h.pmr) | (simp (disch := omega) only [btW, onR, va_n, va_s, upd_n, upd_s]; done)),
    (by first | exact h.lm | (simp (disch := omega) only [btW, onR, va_n, va_s, upd_n, upd_s]; exact h.lm) | (simp (disch := omega) only [btW, onR, va_n, va_s, upd_n, upd_s]; done)),
    (by first | exact h.lmr | (simp (disch := omega) only [btW, onR, va_n, va_s, upd_n, upd_s]; exact h.lmr) | (simp (disch := omega) only [btW, onR, va_n, va_s, upd_n, upd_s]; done)),
    (by first | exact h.lost | (simp (disch := omega) only [btW, onR, va_n, va_s, upd_n, upd_s]; exact h.lost) | (simp (disch := omega) only [btW, onR, va_n, va_s, upd_n, upd_s]; done)),
    (fun k hk => by first | exact h.sby k hk | (simp (disch := omega) only [btW, onR, va_n, va_s, upd_n, upd_s]; exact h.sby k (by omega))),
    (fun k hk => by first | exact h.lby k hk | (simp (disch := omega) only [btW, onR, va_n, va_s, upd_n, upd_s]; exact h.lby k (by omega))),
    (fun o ho => by first | exact h.prio o ho | (simp (disch := omega) only [btW, onR, va_n, va_s, upd_n, upd_s]; exact h.prio o ho)),
    (fun k hk => by
      by_cases e : k = o
      · subst e
        simp (disch := omega) only [btW, onR, va_n, va_s, upd_n, upd_s]
        rw [if_neg (show ¬ (1 : Int32) = 0 by decide)]
      · simp (disch := omega) only [btW, onR, va_n, va_s, upd_n, upd_s]
        exact h.wants k hk),
    (fun k hk => by
      by_cases e : k = o
      · subst e
        simp (disch := omega) only [btW, onR, va_n, va_s, upd_n, upd_s]
      · simp (disch := omega) only [btW, onR, va_n, va_s, upd_n, upd_s]
        exact h.how k hk),
    (fun k hk => by
      by_cases e : k = o
      · subst e
        simp (disch := omega) only [btW, onR, va_n, va_s, upd_n, upd_s]
      · simp (disch := omega) only [btW, onR, va_n, va_s, upd_n, upd_s]
        exact h.left k hk),
    (fun o ho => by first | exact h.starts o ho | (simp (disch := omega) only [btW, onR, va_n, va_s, upd_n, upd_s]; exact h.starts o ho)),
    (fun o ho => by first | exact h.ran o ho | (simp (disch := omega) only [btW, onR, va_n, va_s, upd_n, upd_s]; exact h.ran o ho)),
    (fun k hk hw => by
      by_cases e : k = o
      · subst e
        simp (disch := omega) only [btW, onR, va_n, va_s, upd_n, upd_s]
      · simp (disch := omega) only [btW, onR, va_n, va_s, upd_n, upd_s] at hw ⊢
        exact h.asked k hk hw),
    (fun o ho => by first | exact h.stop o ho | (simp (disch := omega) only [btW, onR, va_n, va_s, upd_n, upd_s]; exact h.stop o ho)),
    (fun o ho => by first | exact h.poll o ho | (simp (disch := omega) only [btW, onR, va_n, va_s, upd_n, upd_s]; exact h.poll o ho)),
    (fun o ho => by first | exact h.mark o ho | (simp (disch := omega) only [btW, onR, va_n, va_s, upd_n, upd_s]; exact h.mark o ho)),
    (fun o ho => by first | exact h.time o ho | (simp (disch := omega) only [btW, onR, va_n, va_s, upd_n, upd_s]; exact h.time o ho)),
    (fun o ho => by first | exact h.known o ho | (simp (disch := omega) only [btW, onR, va_n, va_s, upd_n, upd_s]; exact h.known o ho)),
    (fun o ho => by first | exact h.exp o ho | (simp (disch := omega) only [btW, onR, va_n, va_s, upd_n, upd_s]; exact h.exp o ho)),
    (fun o ho1 ho2 => by first | exact h.knz o ho1 ho2 | (simp (disch := omega) only [btW, onR, va_n, va_s, upd_n, upd_s]; exact h.knz o ho1 ho2)),
    (fun k hk => by first | exact h.msg k hk | (simp (disch := omega) only [btW, onR, va_n, va_s, upd_n, upd_s]; exact h.msg k (by omega))),
    (fun k hk => by first | exact h.pres k hk | (simp (disch := omega) only [btW, onR, va_n, va_s, upd_n, upd_s]; exact h.pres k (by omega))),
    (fun k hk => by first | exact h.lear k hk | (simp (disch := omega) only [btW, onR, va_n, va_s, upd_n, upd_s]; exact h.lear k (by omega)))⟩
theorem on_iv {w : Nat → Nat → Int32} {n : Nat} {t : Nat} {s : Nat} {c : Nat} {p : Nat} {l : Nat} {f : Nat} {o : Nat} (hi : Iv n t s c p l f w) : Iv n t s c p l f (btW w o) :=
  ⟨(by first | exact hi.n12 | (simp (disch := omega) only [btW, onR, va_n, va_s, upd_n, upd_s]; exact hi.n12) | (have := hi.n12; omega)),
    (by first | exact hi.tb | (simp (disch := omega) only [btW, onR, va_n, va_s, upd_n, upd_s]; exact hi.tb) | (have := hi.tb; omega)),
    (by first | exact hi.sb | (simp (disch := omega) only [btW, onR, va_n, va_s, upd_n, upd_s]; exact hi.sb) | (have := hi.sb; omega)),
    (by first | exact hi.cb | (simp (disch := omega) only [btW, onR, va_n, va_s, upd_n, upd_s]; exact hi.cb) | (have := hi.cb; omega)),
    (by first | exact hi.fb | (simp (disch := omega) only [btW, onR, va_n, va_s, upd_n, upd_s]; exact hi.fb) | (have := hi.fb; omega)),
    (fun k hk => by
      by_cases e : k = o
      · subst e
        simp (disch := omega) only [btW, onR, va_n, va_s, upd_n, upd_s]
        exact Or.inr (Or.inl trivial)
      · simp (disch := omega) only [btW, onR, va_n, va_s, upd_n, upd_s]
        exact hi.st k hk),
    (fun o ho => by first | exact hi.mk o ho | (simp (disch := omega) only [btW, onR, va_n, va_s, upd_n, upd_s]; exact hi.mk o ho)),
    (fun k hk hw => by
      by_cases e : k = o
      · subst e
        simp (disch := omega) only [btW, onR, va_n, va_s, upd_n, upd_s]
      · simp (disch := omega) only [btW, onR, va_n, va_s, upd_n, upd_s] at hw ⊢
        exact hi.idle k hk hw),
    (by first | exact hi.s01 | (simp (disch := omega) only [btW, onR, va_n, va_s, upd_n, upd_s]; exact hi.s01) | (have := hi.s01; omega)),
    (by first | exact hi.c01 | (simp (disch := omega) only [btW, onR, va_n, va_s, upd_n, upd_s]; exact hi.c01) | (have := hi.c01; omega)),
    (fun k hk => by first | exact hi.msg k hk | (simp (disch := omega) only [btW, onR, va_n, va_s, upd_n, upd_s]; exact hi.msg k hk)),
    (by first | exact hi.ordP | (simp (disch := omega) only [btW, onR, va_n, va_s, upd_n, upd_s]; exact hi.ordP)),
    (by first | exact hi.ordL | (simp (disch := omega) only [btW, onR, va_n, va_s, upd_n, upd_s]; exact hi.ordL)),
    (fun i h1 h2 => by first | exact hi.kn i h1 h2 | (simp (disch := omega) only [btW, onR, va_n, va_s, upd_n, upd_s]; exact hi.kn i h1 h2))⟩
theorem of_ev {v : Nat → Nat → Int32} {w : Nat → Nat → Int32} {r : Nat → Int32} {n : Nat} {t : Nat} {s : Nat} {c : Nat} {p : Nat} {l : Nat} {f : Nat} {o : Nat} {pk : Int32 × Int32} (h : Ev v n t s c p l f pk w r) (ho6 : o < n) (h12 : n ≤ 12) (hpp : p ≤ 12) (hll : l ≤ 12) : Ev v n t s c p l f pk (ofW w o) (ofR r o) :=
  ⟨(by first | exact h.tick | (simp (disch := omega) only [ofW, ofR, va_n, va_s, upd_n, upd_s]; exact h.tick) | (simp (disch := omega) only [ofW, ofR, va_n, va_s, upd_n, upd_s]; done)),
    (by first | exact h.tickr | (simp (disch := omega) only [ofW, ofR, va_n, va_s, upd_n, upd_s]; exact h.tickr) | (simp (disch := omega) only [ofW, ofR, va_n, va_s, upd_n, upd_s]; done)),
    (by first | exact h.dark | (simp (disch := omega) only [ofW, ofR, va_n, va_s, upd_n, upd_s]; exact h.dark) | (simp (disch := omega) only [ofW, ofR, va_n, va_s, upd_n, upd_s]; done)),
    (by first | exact h.fuse | (simp (disch := omega) only [ofW, ofR, va_n, va_s, upd_n, upd_s]; exact h.fuse) | (simp (disch := omega) only [ofW, ofR, va_n, va_s, upd_n, upd_s]; done)),
    (by first | exact h.fuser | (simp (disch := omega) only [ofW, ofR, va_n, va_s, upd_n, upd_s]; exact h.fuser) | (simp (disch := omega) only [ofW, ofR, va_n, va_s, upd_n, upd_s]; done)),
    (by first | exact h.retry | (simp (disch := omega) only [ofW, ofR, va_n, va_s, upd_n, upd_s]; exact h.retry) | (simp (disch := omega) only [ofW, ofR, va_n, va_s, upd_n, upd_s]; done)),
    (by first | exact h.strict | (simp (disch := omega) only [ofW, ofR, va_n, va_s, upd_n, upd_s]; exact h.strict) | (simp (disch := omega) only [ofW, ofR, va_n, va_s, upd_n, upd_s]; done)),
    (by first | exact h.blk | (simp (disch := omega) only [ofW, ofR, va_n, va_s, upd_n, upd_s]; exact h.blk) | (simp (disch := omega) only [ofW, ofR, va_n, va_s, upd_n, upd_s]; done)),
    (by first | exact h.trips | (simp (disch := omega) only [ofW, ofR, va_n, va_s, upd_n, upd_s]; exact h.trips) | (simp (disch := omega) only [ofW, ofR, va_n, va_s, upd_n, upd_s]; done)),
    (by first | exact h.peak | (simp (disch := omega) only [ofW, ofR, va_n, va_s, upd_n, upd_s]; exact h.peak) | (simp (disch := omega) only [ofW, ofR, va_n, va_s, upd_n, upd_s]; done)),
    (by first | exact h.peakr | (simp (disch := omega) only [ofW, ofR, va_n, va_s, upd_n, upd_s]; exact h.peakr) | (simp (disch := omega) only [ofW, ofR, va_n, va_s, upd_n, upd_s]; done)),
    (by first | exact h.pat | (simp (disch := omega) only [ofW, ofR, va_n, va_s, upd_n, upd_s]; exact h.pat) | (simp (disch := omega) only [ofW, ofR, va_n, va_s, upd_n, upd_s]; done)),
    (by first | exact h.wait | (simp (disch := omega) only [ofW, ofR, va_n, va_s, upd_n, upd_s]; exact h.wait) | (simp (disch := omega) only [ofW, ofR, va_n, va_s, upd_n, upd_s]; done)),
    (by first | exact h.waitr | (simp (disch := omega) only [ofW, ofR, va_n, va_s, upd_n, upd_s]; exact h.waitr) | (simp (disch := omega) only [ofW, ofR, va_n, va_s, upd_n, upd_s]; done)),
    (by first | exact h.sent | (simp (disch := omega) only [ofW, ofR, va_n, va_s, upd_n, upd_s]; exact h.sent) | (simp (disch := omega) only [ofW, ofR, va_n, va_s, upd_n, upd_s]; done)),
    (by first | exact h.sentr | (simp (disch := omega) only [ofW, ofR, va_n, va_s, upd_n, upd_s]; exact h.sentr) | (simp (disch := omega) only [ofW, ofR, va_n, va_s, upd_n, upd_s]; done)),
    (by first | exact h.clear | (simp (disch := omega) only [ofW, ofR, va_n, va_s, upd_n, upd_s]; exact h.clear) | (simp (disch := omega) only [ofW, ofR, va_n, va_s, upd_n, upd_s]; done)),
    (by first | exact h.pm | (simp (disch := omega) only [ofW, ofR, va_n, va_s, upd_n, upd_s]; exact h.pm) | (simp (disch := omega) only [ofW, ofR, va_n, va_s, upd_n, upd_s]; done)),
    (by first | exact h.pmr | (simp (disch := omega) only [ofW, ofR, va_n, va_s, upd_n, upd_s]; exact h.pmr) | (simp (disch := omega) only [ofW, ofR, va_n, va_s, upd_n, upd_s]; done)),
    (by first | exact h.lm | (simp (disch := omega) only [ofW, ofR, va_n, va_s, upd_n, upd_s]; exact h.lm) | (simp (disch := omega) only [ofW, ofR, va_n, va_s, upd_n, upd_s]; done)),
    (by first | exact h.lmr | (simp (disch := omega) only [ofW, ofR, va_n, va_s, upd_n, upd_s]; exact h.lmr) | (simp (disch := omega) only [ofW, ofR, va_n, va_s, upd_n, upd_s]; done)),
    (by first | exact h.lost | (simp (disch := omega) only [ofW, ofR, va_n, va_s, upd_n, upd_s]; exact h.lost) | (simp (disch := omega) only [ofW, ofR, va_n, va_s, upd_n, upd_s]; done)),
    (fun k hk => by first | exact h.sby k hk | (simp (disch := omega) only [ofW, ofR, va_n, va_s, upd_n, upd_s]; exact h.sby k (by omega))),
    (fun k hk => by first | exact h.lby k hk | (simp (disch := omega) only [ofW, ofR, va_n, va_s, upd_n, upd_s]; exact h.lby k (by omega))),
    (fun o ho => by first | exact h.prio o ho | (simp (disch := omega) only [ofW, ofR, va_n, va_s, upd_n, upd_s]; exact h.prio o ho)),
    (fun k hk => by
      by_cases e : k = o
      · subst e
        simp (disch := omega) only [ofW, ofR, va_n, va_s, upd_n, upd_s]
        rw [if_pos trivial]
      · simp (disch := omega) only [ofW, ofR, va_n, va_s, upd_n, upd_s]
        exact h.wants k hk),
    (fun k hk => by
      by_cases e : k = o
      · subst e
        simp (disch := omega) only [ofW, ofR, va_n, va_s, upd_n, upd_s]
      · simp (disch := omega) only [ofW, ofR, va_n, va_s, upd_n, upd_s]
        exact h.how k hk),
    (fun k hk => by
      by_cases e : k = o
      · subst e
        simp (disch := omega) only [ofW, ofR, va_n, va_s, upd_n, upd_s]
      · simp (disch := omega) only [ofW, ofR, va_n, va_s, upd_n, upd_s]
        exact h.left k hk),
    (fun o ho => by first | exact h.starts o ho | (simp (disch := omega) only [ofW, ofR, va_n, va_s, upd_n, upd_s]; exact h.starts o ho)),
    (fun o ho => by first | exact h.ran o ho | (simp (disch := omega) only [ofW, ofR, va_n, va_s, upd_n, upd_s]; exact h.ran o ho)),
    (fun k hk hw => by
      by_cases e : k = o
      · subst e
        simp (disch := omega) only [ofW, ofR, va_n, va_s, upd_n, upd_s] at hw
        exact absurd rfl hw
      · simp (disch := omega) only [ofW, ofR, va_n, va_s, upd_n, upd_s] at hw ⊢
        exact h.asked k hk hw),
    (fun o ho => by first | exact h.stop o ho | (simp (disch := omega) only [ofW, ofR, va_n, va_s, upd_n, upd_s]; exact h.stop o ho)),
    (fun o ho => by first | exact h.poll o ho | (simp (disch := omega) only [ofW, ofR, va_n, va_s, upd_n, upd_s]; exact h.poll o ho)),
    (fun o ho => by first | exact h.mark o ho | (simp (disch := omega) only [ofW, ofR, va_n, va_s, upd_n, upd_s]; exact h.mark o ho)),
    (fun o ho => by first | exact h.time o ho | (simp (disch := omega) only [ofW, ofR, va_n, va_s, upd_n, upd_s]; exact h.time o ho)),
    (fun o ho => by first | exact h.known o ho | (simp (disch := omega) only [ofW, ofR, va_n, va_s, upd_n, upd_s]; exact h.known o ho)),
    (fun o ho => by first | exact h.exp o ho | (simp (disch := omega) only [ofW, ofR, va_n, va_s, upd_n, upd_s]; exact h.exp o ho)),
    (fun o ho1 ho2 => by first | exact h.knz o ho1 ho2 | (simp (disch := omega) only [ofW, ofR, va_n, va_s, upd_n, upd_s]; exact h.knz o ho1 ho2)),
    (fun k hk => by first | exact h.msg k hk | (simp (disch := omega) only [ofW, ofR, va_n, va_s, upd_n, upd_s]; exact h.msg k (by omega))),
    (fun k hk => by first | exact h.pres k hk | (simp (disch := omega) only [ofW, ofR, va_n, va_s, upd_n, upd_s]; exact h.pres k (by omega))),
    (fun k hk => by first | exact h.lear k hk | (simp (disch := omega) only [ofW, ofR, va_n, va_s, upd_n, upd_s]; exact h.lear k (by omega)))⟩
theorem of_iv {w : Nat → Nat → Int32} {n : Nat} {t : Nat} {s : Nat} {c : Nat} {p : Nat} {l : Nat} {f : Nat} {o : Nat} (hi : Iv n t s c p l f w) : Iv n t s c p l f (ofW w o) :=
  ⟨(by first | exact hi.n12 | (simp (disch := omega) only [ofW, ofR, va_n, va_s, upd_n, upd_s]; exact hi.n12) | (have := hi.n12; omega)),
    (by first | exact hi.tb | (simp (disch := omega) only [ofW, ofR, va_n, va_s, upd_n, upd_s]; exact hi.tb) | (have := hi.tb; omega)),
    (by first | exact hi.sb | (simp (disch := omega) only [ofW, ofR, va_n, va_s, upd_n, upd_s]; exact hi.sb) | (have := hi.sb; omega)),
    (by first | exact hi.cb | (simp (disch := omega) only [ofW, ofR, va_n, va_s, upd_n, upd_s]; exact hi.cb) | (have := hi.cb; omega)),
    (by first | exact hi.fb | (simp (disch := omega) only [ofW, ofR, va_n, va_s, upd_n, upd_s]; exact hi.fb) | (have := hi.fb; omega)),
    (fun k hk => by
      by_cases e : k = o
      · subst e
        simp (disch := omega) only [ofW, ofR, va_n, va_s, upd_n, upd_s]
        exact Or.inl trivial
      · simp (disch := omega) only [ofW, ofR, va_n, va_s, upd_n, upd_s]
        exact hi.st k hk),
    (fun o ho => by first | exact hi.mk o ho | (simp (disch := omega) only [ofW, ofR, va_n, va_s, upd_n, upd_s]; exact hi.mk o ho)),
    (fun k hk hw => by
      by_cases e : k = o
      · subst e
        simp (disch := omega) only [ofW, ofR, va_n, va_s, upd_n, upd_s]
      · simp (disch := omega) only [ofW, ofR, va_n, va_s, upd_n, upd_s] at hw ⊢
        exact hi.idle k hk hw),
    (by first | exact hi.s01 | (simp (disch := omega) only [ofW, ofR, va_n, va_s, upd_n, upd_s]; exact hi.s01) | (have := hi.s01; omega)),
    (by first | exact hi.c01 | (simp (disch := omega) only [ofW, ofR, va_n, va_s, upd_n, upd_s]; exact hi.c01) | (have := hi.c01; omega)),
    (fun k hk => by first | exact hi.msg k hk | (simp (disch := omega) only [ofW, ofR, va_n, va_s, upd_n, upd_s]; exact hi.msg k hk)),
    (by first | exact hi.ordP | (simp (disch := omega) only [ofW, ofR, va_n, va_s, upd_n, upd_s]; exact hi.ordP)),
    (by first | exact hi.ordL | (simp (disch := omega) only [ofW, ofR, va_n, va_s, upd_n, upd_s]; exact hi.ordL)),
    (fun i h1 h2 => by first | exact hi.kn i h1 h2 | (simp (disch := omega) only [ofW, ofR, va_n, va_s, upd_n, upd_s]; exact hi.kn i h1 h2))⟩
theorem sn_ev {v : Nat → Nat → Int32} {w : Nat → Nat → Int32} {r : Nat → Int32} {n : Nat} {t : Nat} {s : Nat} {c : Nat} {p : Nat} {l : Nat} {f : Nat} {o : Nat} {pk : Int32 × Int32} (h : Ev v n t s c p l f pk w r) (ho6 : o < n) (h12 : n ≤ 12) (hpp : p ≤ 12) (hll : l ≤ 12) : Ev v n t s c p l f pk (snW w o) (upd r (51 + 12 * o + 7) 1) :=
  ⟨(by first | exact h.tick | (simp (disch := omega) only [snW, va_n, va_s, upd_n, upd_s]; exact h.tick) | (simp (disch := omega) only [snW, va_n, va_s, upd_n, upd_s]; done)),
    (by first | exact h.tickr | (simp (disch := omega) only [snW, va_n, va_s, upd_n, upd_s]; exact h.tickr) | (simp (disch := omega) only [snW, va_n, va_s, upd_n, upd_s]; done)),
    (by first | exact h.dark | (simp (disch := omega) only [snW, va_n, va_s, upd_n, upd_s]; exact h.dark) | (simp (disch := omega) only [snW, va_n, va_s, upd_n, upd_s]; done)),
    (by first | exact h.fuse | (simp (disch := omega) only [snW, va_n, va_s, upd_n, upd_s]; exact h.fuse) | (simp (disch := omega) only [snW, va_n, va_s, upd_n, upd_s]; done)),
    (by first | exact h.fuser | (simp (disch := omega) only [snW, va_n, va_s, upd_n, upd_s]; exact h.fuser) | (simp (disch := omega) only [snW, va_n, va_s, upd_n, upd_s]; done)),
    (by first | exact h.retry | (simp (disch := omega) only [snW, va_n, va_s, upd_n, upd_s]; exact h.retry) | (simp (disch := omega) only [snW, va_n, va_s, upd_n, upd_s]; done)),
    (by first | exact h.strict | (simp (disch := omega) only [snW, va_n, va_s, upd_n, upd_s]; exact h.strict) | (simp (disch := omega) only [snW, va_n, va_s, upd_n, upd_s]; done)),
    (by first | exact h.blk | (simp (disch := omega) only [snW, va_n, va_s, upd_n, upd_s]; exact h.blk) | (simp (disch := omega) only [snW, va_n, va_s, upd_n, upd_s]; done)),
    (by first | exact h.trips | (simp (disch := omega) only [snW, va_n, va_s, upd_n, upd_s]; exact h.trips) | (simp (disch := omega) only [snW, va_n, va_s, upd_n, upd_s]; done)),
    (by first | exact h.peak | (simp (disch := omega) only [snW, va_n, va_s, upd_n, upd_s]; exact h.peak) | (simp (disch := omega) only [snW, va_n, va_s, upd_n, upd_s]; done)),
    (by first | exact h.peakr | (simp (disch := omega) only [snW, va_n, va_s, upd_n, upd_s]; exact h.peakr) | (simp (disch := omega) only [snW, va_n, va_s, upd_n, upd_s]; done)),
    (by first | exact h.pat | (simp (disch := omega) only [snW, va_n, va_s, upd_n, upd_s]; exact h.pat) | (simp (disch := omega) only [snW, va_n, va_s, upd_n, upd_s]; done)),
    (by first | exact h.wait | (simp (disch := omega) only [snW, va_n, va_s, upd_n, upd_s]; exact h.wait) | (simp (disch := omega) only [snW, va_n, va_s, upd_n, upd_s]; done)),
    (by first | exact h.waitr | (simp (disch := omega) only [snW, va_n, va_s, upd_n, upd_s]; exact h.waitr) | (simp (disch := omega) only [snW, va_n, va_s, upd_n, upd_s]; done)),
    (by first | exact h.sent | (simp (disch := omega) only [snW, va_n, va_s, upd_n, upd_s]; exact h.sent) | (simp (disch := omega) only [snW, va_n, va_s, upd_n, upd_s]; done)),
    (by first | exact h.sentr | (simp (disch := omega) only [snW, va_n, va_s, upd_n, upd_s]; exact h.sentr) | (simp (disch := omega) only [snW, va_n, va_s, upd_n, upd_s]; done)),
    (by first | exact h.clear | (simp (disch := omega) only [snW, va_n, va_s, upd_n, upd_s]; exact h.clear) | (simp (disch := omega) only [snW, va_n, va_s, upd_n, upd_s]; done)),
    (by first | exact h.pm | (simp (disch := omega) only [snW, va_n, va_s, upd_n, upd_s]; exact h.pm) | (simp (disch := omega) only [snW, va_n, va_s, upd_n, upd_s]; done)),
    (by first | exact h.pmr | (simp (disch := omega) only [snW, va_n, va_s, upd_n, upd_s]; exact h.pmr) | (simp (disch := omega) only [snW, va_n, va_s, upd_n, upd_s]; done)),
    (by first | exact h.lm | (simp (disch := omega) only [snW, va_n, va_s, upd_n, upd_s]; exact h.lm) | (simp (disch := omega) only [snW, va_n, va_s, upd_n, upd_s]; done)),
    (by first | exact h.lmr | (simp (disch := omega) only [snW, va_n, va_s, upd_n, upd_s]; exact h.lmr) | (simp (disch := omega) only [snW, va_n, va_s, upd_n, upd_s]; done)),
    (by first | exact h.lost | (simp (disch := omega) only [snW, va_n, va_s, upd_n, upd_s]; exact h.lost) | (simp (disch := omega) only [snW, va_n, va_s, upd_n, upd_s]; done)),
    (fun k hk => by first | exact h.sby k hk | (simp (disch := omega) only [snW, va_n, va_s, upd_n, upd_s]; exact h.sby k (by omega))),
    (fun k hk => by first | exact h.lby k hk | (simp (disch := omega) only [snW, va_n, va_s, upd_n, upd_s]; exact h.lby k (by omega))),
    (fun o ho => by first | exact h.prio o ho | (simp (disch := omega) only [snW, va_n, va_s, upd_n, upd_s]; exact h.prio o ho)),
    (fun o ho => by first | exact h.wants o ho | (simp (disch := omega) only [snW, va_n, va_s, upd_n, upd_s]; exact h.wants o ho)),
    (fun o ho => by first | exact h.how o ho | (simp (disch := omega) only [snW, va_n, va_s, upd_n, upd_s]; exact h.how o ho)),
    (fun o ho => by first | exact h.left o ho | (simp (disch := omega) only [snW, va_n, va_s, upd_n, upd_s]; exact h.left o ho)),
    (fun o ho => by first | exact h.starts o ho | (simp (disch := omega) only [snW, va_n, va_s, upd_n, upd_s]; exact h.starts o ho)),
    (fun o ho => by first | exact h.ran o ho | (simp (disch := omega) only [snW, va_n, va_s, upd_n, upd_s]; exact h.ran o ho)),
    (fun o ho hw => by first | exact h.asked o ho hw | (simp (disch := omega) only [snW, va_n, va_s, upd_n, upd_s] at hw ⊢; exact h.asked o ho hw) | (simp (disch := omega) only [snW, va_n, va_s, upd_n, upd_s]; exact h.asked o ho hw)),
    (fun k hk => by
      by_cases e : k = o
      · subst e
        simp (disch := omega) only [snW, va_n, va_s, upd_n, upd_s]
        rw [b01_s (by omega)]
      · simp (disch := omega) only [snW, va_n, va_s, upd_n, upd_s]
        rw [b01_so (by omega) (by omega) e]
        exact h.stop k hk),
    (fun o ho => by first | exact h.poll o ho | (simp (disch := omega) only [snW, va_n, va_s, upd_n, upd_s]; exact h.poll o ho)),
    (fun o ho => by first | exact h.mark o ho | (simp (disch := omega) only [snW, va_n, va_s, upd_n, upd_s]; exact h.mark o ho)),
    (fun o ho => by first | exact h.time o ho | (simp (disch := omega) only [snW, va_n, va_s, upd_n, upd_s]; exact h.time o ho)),
    (fun o ho => by first | exact h.known o ho | (simp (disch := omega) only [snW, va_n, va_s, upd_n, upd_s]; exact h.known o ho)),
    (fun o ho => by first | exact h.exp o ho | (simp (disch := omega) only [snW, va_n, va_s, upd_n, upd_s]; exact h.exp o ho)),
    (fun o ho1 ho2 => by first | exact h.knz o ho1 ho2 | (simp (disch := omega) only [snW, va_n, va_s, upd_n, upd_s]; exact h.knz o ho1 ho2)),
    (fun k hk => by first | exact h.msg k hk | (simp (disch := omega) only [snW, va_n, va_s, upd_n, upd_s]; exact h.msg k (by omega))),
    (fun k hk => by first | exact h.pres k hk | (simp (disch := omega) only [snW, va_n, va_s, upd_n, upd_s]; exact h.pres k (by omega))),
    (fun k hk => by first | exact h.lear k hk | (simp (disch := omega) only [snW, va_n, va_s, upd_n, upd_s]; exact h.lear k (by omega)))⟩
theorem sn_iv {w : Nat → Nat → Int32} {n : Nat} {t : Nat} {s : Nat} {c : Nat} {p : Nat} {l : Nat} {f : Nat} {o : Nat} (hi : Iv n t s c p l f w) : Iv n t s c p l f (snW w o) :=
  ⟨(by first | exact hi.n12 | (simp (disch := omega) only [snW, va_n, va_s, upd_n, upd_s]; exact hi.n12) | (have := hi.n12; omega)),
    (by first | exact hi.tb | (simp (disch := omega) only [snW, va_n, va_s, upd_n, upd_s]; exact hi.tb) | (have := hi.tb; omega)),
    (by first | exact hi.sb | (simp (disch := omega) only [snW, va_n, va_s, upd_n, upd_s]; exact hi.sb) | (have := hi.sb; omega)),
    (by first | exact hi.cb | (simp (disch := omega) only [snW, va_n, va_s, upd_n, upd_s]; exact hi.cb) | (have := hi.cb; omega)),
    (by first | exact hi.fb | (simp (disch := omega) only [snW, va_n, va_s, upd_n, upd_s]; exact hi.fb) | (have := hi.fb; omega)),
    (fun o ho => by first | exact hi.st o ho | (simp (disch := omega) only [snW, va_n, va_s, upd_n, upd_s]; exact hi.st o ho)),
    (fun o ho => by first | exact hi.mk o ho | (simp (disch := omega) only [snW, va_n, va_s, upd_n, upd_s]; exact hi.mk o ho)),
    (fun o ho hw => by first | exact hi.idle o ho hw | (simp (disch := omega) only [snW, va_n, va_s, upd_n, upd_s] at hw ⊢; exact hi.idle o ho hw) | (simp (disch := omega) only [snW, va_n, va_s, upd_n, upd_s]; exact hi.idle o ho hw)),
    (by first | exact hi.s01 | (simp (disch := omega) only [snW, va_n, va_s, upd_n, upd_s]; exact hi.s01) | (have := hi.s01; omega)),
    (by first | exact hi.c01 | (simp (disch := omega) only [snW, va_n, va_s, upd_n, upd_s]; exact hi.c01) | (have := hi.c01; omega)),
    (fun k hk => by first | exact hi.msg k hk | (simp (disch := omega) only [snW, va_n, va_s, upd_n, upd_s]; exact hi.msg k hk)),
    (by first | exact hi.ordP | (simp (disch := omega) only [snW, va_n, va_s, upd_n, upd_s]; exact hi.ordP)),
    (by first | exact hi.ordL | (simp (disch := omega) only [snW, va_n, va_s, upd_n, upd_s]; exact hi.ordL)),
    (fun i h1 h2 => by first | exact hi.kn i h1 h2 | (simp (disch := omega) only [snW, va_n, va_s, upd_n, upd_s]; exact hi.kn i h1 h2))⟩
theorem beginToWait_e {v : Nat → Nat → Int32} {w : Nat → Nat → Int32} {o : Nat} (ho : o < 12) : qX2_beginToWait v w (nI o) = some (btW w o) := by
  unfold qX2_beginToWait btW
  simp (disch := omega) only [gdn, cl, bs_e, va_n]
theorem becomeIdle_e {v : Nat → Nat → Int32} {w : Nat → Nat → Int32} {o : Nat} (ho : o < 12) : qX2_becomeIdle v w (nI o) = some (if w 11 o = 2 ∨ w 11 o = 3 then ofW (snW w o) o else ofW w o) := by
  unfold qX2_becomeIdle
  simp (disch := omega) only [gdn, cl, bs_e, va_n, jn_e]
  rw [or_if]
  split <;> (unfold ofW; simp (disch := omega) only [snW, va_n])
