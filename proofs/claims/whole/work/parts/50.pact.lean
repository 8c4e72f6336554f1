-- what an outlet does in a tick
def srW (w : Nat → Nat → Int32) (o t : Nat) : Nat → Nat → Int32 := va_up (va_up w 11 (upd (w 11) o 3)) 14 (upd (w 14) o (nI t))
def srR (r : Nat → Int32) (o t : Nat) : Nat → Int32 := upd (upd r (51 + 12 * o + 2) 3) (51 + 12 * o + 5) (nI t)
def csW (w : Nat → Nat → Int32) (o : Nat) : Nat → Nat → Int32 := va_up w 16 (fun _ => w 16 0 &&& ((1 <<< (nI o &&& 31)) ^^^ (-1)))
def cqW (w : Nat → Nat → Int32) (o : Nat) : Nat → Nat → Int32 := va_up w 17 (fun _ => w 17 0 &&& ((1 <<< (nI o &&& 31)) ^^^ (-1)))
def asW (w : Nat → Nat → Int32) (o t : Nat) : Nat → Nat → Int32 := va_up w 15 (upd (w 15) o (nI t))
theorem b01_c0 {x : Int32} {o : Nat} (ho : o < 32) : b01 (x &&& ((1 <<< (nI o &&& 31)) ^^^ (-1))) o = 0 := by rw [b01_clr _ ho ho, if_pos rfl]
theorem b01_cn {x : Int32} {o k : Nat} (ho : o < 32) (hk : k < 32) (e : k ≠ o) : b01 (x &&& ((1 <<< (nI o &&& 31)) ^^^ (-1))) k = b01 x k := by rw [b01_clr _ ho hk, if_neg e]
theorem sr_ev {v : Nat → Nat → Int32} {w : Nat → Nat → Int32} {r : Nat → Int32} {n : Nat} {t : Nat} {s : Nat} {c : Nat} {p : Nat} {l : Nat} {f : Nat} {o : Nat} {pk : Int32 × Int32} (h : Ev v n t s c p l f pk w r) (ho6 : o < n) (h12 : n ≤ 12) (hpp : p ≤ 12) (hll : l ≤ 12) (h1 : w 11 o = 2) : Ev v n t s c p l f pk (srW w o t) (srR r o t) :=
  ⟨(by first | exact h.tick | (simp (disch := omega) only [srW, srR, va_n, va_s, upd_n, upd_s]; exact h.tick) | (simp (disch := omega) only [srW, srR, va_n, va_s, upd_n, upd_s]; done)),
    (by first | exact h.tickr | (simp (disch := omega) only [srW, srR, va_n, va_s, upd_n, upd_s]; exact h.tickr) | (simp (disch := omega) only [srW, srR, va_n, va_s, upd_n, upd_s]; done)),
    (by first | exact h.dark | (simp (disch := omega) only [srW, srR, va_n, va_s, upd_n, upd_s]; exact h.dark) | (simp (disch := omega) only [srW, srR, va_n, va_s, upd_n, upd_s]; done)),
    (by first | exact h.fuse | (simp (disch := omega) only [srW, srR, va_n, va_s, upd_n, upd_s]; exact h.fuse) | (simp (disch := omega) only [srW, srR, va_n, va_s, upd_n, upd_s]; done)),
    (by first | exact h.fuser | (simp (disch := omega) only [srW, srR, va_n, va_s, upd_n, upd_s]; exact h.fuser) | (simp (disch := omega) only [srW, srR, va_n, va_s, upd_n, upd_s]; done)),
    (by first | exact h.retry | (simp (disch := omega) only [srW, srR, va_n, va_s, upd_n, upd_s]; exact h.retry) | (simp (disch := omega) only [srW, srR, va_n, va_s, upd_n, upd_s]; done)),
    (by first | exact h.strict | (simp (disch := omega) only [srW, srR, va_n, va_s, upd_n, upd_s]; exact h.strict) | (simp (disch := omega) only [srW, srR, va_n, va_s, upd_n, upd_s]; done)),
    (by first | exact h.blk | (simp (disch := omega) only [srW, srR, va_n, va_s, upd_n, upd_s]; exact h.blk) | (simp (disch := omega) only [srW, srR, va_n, va_s, upd_n, upd_s]; done)),
    (by first | exact h.trips | (simp (disch := omega) only [srW, srR, va_n, va_s, upd_n, upd_s]; exact h.trips) | (simp (disch := omega) only [srW, srR, va_n, va_s, upd_n, upd_s]; done)),
    (by first | exact h.peak | (simp (disch := omega) only [srW, srR, va_n, va_s, upd_n, upd_s]; exact h.peak) | (simp (disch := omega) only [srW, srR, va_n, va_s, upd_n, upd_s]; done)),
    (by first | exact h.peakr | (simp (disch := omega) only [srW, srR, va_n, va_s, upd_n, upd_s]; exact h.peakr) | (simp (disch := omega) only [srW, srR, va_n, va_s, upd_n, upd_s]; done)),
    (by first | exact h.pat | (simp (disch := omega) only [srW, srR, va_n, va_s, upd_n, upd_s]; exact h.pat) | (simp (disch := omega) only [srW, srR, va_n, va_s, upd_n, upd_s]; done)),
    (by first | exact h.wait | (simp (disch := omega) only [srW, srR, va_n, va_s, upd_n, upd_s]; exact h.wait) | (simp (disch := omega) only [srW, srR, va_n, va_s, upd_n, upd_s]; done)),
    (by first | exact h.waitr | (simp (disch := omega) only [srW, srR, va_n, va_s, upd_n, upd_s]; exact h.waitr) | (simp (disch := omega) only [srW, srR, va_n, va_s, upd_n, upd_s]; done)),
    (by first | exact h.sent | (simp (disch := omega) only [srW, srR, va_n, va_s, upd_n, upd_s]; exact h.sent) | (simp (disch := omega) only [srW, srR, va_n, va_s, upd_n, upd_s]; done)),
    (by first | exact h.sentr | (simp (disch := omega) only [srW, srR, va_n, va_s, upd_n, upd_s]; exact h.sentr) | (simp (disch := omega) only [srW, srR, va_n, va_s, upd_n, upd_s]; done)),
    (by first | exact h.clear | (simp (disch := omega) only [srW, srR, va_n, va_s, upd_n, upd_s]; exact h.clear) | (simp (disch := omega) only [srW, srR, va_n, va_s, upd_n, upd_s]; done)),
    (by first | exact h.pm | (simp (disch := omega) only [srW, srR, va_n, va_s, upd_n, upd_s]; exact h.pm) | (simp (disch := omega) only [srW, srR, va_n, va_s, upd_n, upd_s]; done)),
    (by first | exact h.pmr | (simp (disch := omega) only [srW, srR, va_n, va_s, upd_n, upd_s]; exact h.pmr) | (simp (disch := omega) only [srW, srR, va_n, va_s, upd_n, upd_s]; done)),
    (by first | exact h.lm | (simp (disch := omega) only [srW, srR, va_n, va_s, upd_n, upd_s]; exact h.lm) | (simp (disch := omega) only [srW, srR, va_n, va_s, upd_n, upd_s]; done)),
    (by first | exact h.lmr | (simp (disch := omega) only [srW, srR, va_n, va_s, upd_n, upd_s]; exact h.lmr) | (simp (disch := omega) only [srW, srR, va_n, va_s, upd_n, upd_s]; done)),
    (by first | exact h.lost | (simp (disch := omega) only [srW, srR, va_n, va_s, upd_n, upd_s]; exact h.lost) | (simp (disch := omega) only [srW, srR, va_n, va_s, upd_n, upd_s]; done)),
    (fun k hk => by first | exact h.sby k hk | (simp (disch := omega) only [srW, srR, va_n, va_s, upd_n, upd_s]; exact h.sby k (by omega))),
    (fun k hk => by first | exact h.lby k hk | (simp (disch := omega) only [srW, srR, va_n, va_s, upd_n, upd_s]; exact h.lby k (by omega))),
    (fun o ho => by first | exact h.prio o ho | (simp (disch := omega) only [srW, srR, va_n, va_s, upd_n, upd_s]; exact h.prio o ho)),
    (fun k hk => by
      by_cases e : k = o
      · subst e
        simp (disch := omega) only [srW, srR, va_n, va_s, upd_n, upd_s]
        rw [h.wants _ hk, h1]
        rfl
      · simp (disch := omega) only [srW, srR, va_n, va_s, upd_n, upd_s]
        exact h.wants k hk),
    (fun k hk => by
      by_cases e : k = o
      · subst e
        simp (disch := omega) only [srW, srR, va_n, va_s, upd_n, upd_s]
      · simp (disch := omega) only [srW, srR, va_n, va_s, upd_n, upd_s]
        exact h.how k hk),
    (fun o ho => by first | exact h.left o ho | (simp (disch := omega) only [srW, srR, va_n, va_s, upd_n, upd_s]; exact h.left o ho)),
    (fun o ho => by first | exact h.starts o ho | (simp (disch := omega) only [srW, srR, va_n, va_s, upd_n, upd_s]; exact h.starts o ho)),
    (fun k hk => by
      by_cases e : k = o
      · subst e
        simp (disch := omega) only [srW, srR, va_n, va_s, upd_n, upd_s]
      · simp (disch := omega) only [srW, srR, va_n, va_s, upd_n, upd_s]
        exact h.ran k hk),
    (fun k hk hw => by
      by_cases e : k = o
      · subst e
        simp (disch := omega) only [srW, srR, va_n, va_s, upd_n, upd_s]
        exact h.asked _ hk (by rw [h1]; decide)
      · simp (disch := omega) only [srW, srR, va_n, va_s, upd_n, upd_s] at hw ⊢
        exact h.asked k hk hw),
    (fun o ho => by first | exact h.stop o ho | (simp (disch := omega) only [srW, srR, va_n, va_s, upd_n, upd_s]; exact h.stop o ho)),
    (fun o ho => by first | exact h.poll o ho | (simp (disch := omega) only [srW, srR, va_n, va_s, upd_n, upd_s]; exact h.poll o ho)),
    (fun o ho => by first | exact h.mark o ho | (simp (disch := omega) only [srW, srR, va_n, va_s, upd_n, upd_s]; exact h.mark o ho)),
    (fun o ho => by first | exact h.time o ho | (simp (disch := omega) only [srW, srR, va_n, va_s, upd_n, upd_s]; exact h.time o ho)),
    (fun o ho => by first | exact h.known o ho | (simp (disch := omega) only [srW, srR, va_n, va_s, upd_n, upd_s]; exact h.known o ho)),
    (fun o ho => by first | exact h.exp o ho | (simp (disch := omega) only [srW, srR, va_n, va_s, upd_n, upd_s]; exact h.exp o ho)),
    (fun o ho1 ho2 => by first | exact h.knz o ho1 ho2 | (simp (disch := omega) only [srW, srR, va_n, va_s, upd_n, upd_s]; exact h.knz o ho1 ho2)),
    (fun k hk => by first | exact h.msg k hk | (simp (disch := omega) only [srW, srR, va_n, va_s, upd_n, upd_s]; exact h.msg k (by omega))),
    (fun k hk => by first | exact h.pres k hk | (simp (disch := omega) only [srW, srR, va_n, va_s, upd_n, upd_s]; exact h.pres k (by omega))),
    (fun k hk => by first | exact h.lear k hk | (simp (disch := omega) only [srW, srR, va_n, va_s, upd_n, upd_s]; exact h.lear k (by omega)))⟩
theorem sr_iv {w : Nat → Nat → Int32} {n : Nat} {t : Nat} {s : Nat} {c : Nat} {p : Nat} {l : Nat} {f : Nat} {o : Nat} (hi : Iv n t s c p l f w) (ho6 : o < n) : Iv n t s c p l f (srW w o t) := by
  have h12 := hi.n12
  exact ⟨(by first | exact hi.n12 | (simp (disch := omega) only [srW, srR, va_n, va_s, upd_n, upd_s]; exact hi.n12) | (have := hi.n12; omega)),
    (by first | exact hi.tb | (simp (disch := omega) only [srW, srR, va_n, va_s, upd_n, upd_s]; exact hi.tb) | (have := hi.tb; omega)),
    (by first | exact hi.sb | (simp (disch := omega) only [srW, srR, va_n, va_s, upd_n, upd_s]; exact hi.sb) | (have := hi.sb; omega)),
    (by first | exact hi.cb | (simp (disch := omega) only [srW, srR, va_n, va_s, upd_n, upd_s]; exact hi.cb) | (have := hi.cb; omega)),
    (by first | exact hi.fb | (simp (disch := omega) only [srW, srR, va_n, va_s, upd_n, upd_s]; exact hi.fb) | (have := hi.fb; omega)),
    (fun k hk => by
      by_cases e : k = o
      · subst e
        simp (disch := omega) only [srW, srR, va_n, va_s, upd_n, upd_s]
        exact Or.inr (Or.inr (Or.inr trivial))
      · simp (disch := omega) only [srW, srR, va_n, va_s, upd_n, upd_s]
        exact hi.st k hk),
    (fun o ho => by first | exact hi.mk o ho | (simp (disch := omega) only [srW, srR, va_n, va_s, upd_n, upd_s]; exact hi.mk o ho)),
    (fun k hk hw => by
      by_cases e : k = o
      · subst e
        simp (disch := omega) only [srW, srR, va_n, va_s, upd_n, upd_s] at hw
        exact absurd hw (by decide)
      · simp (disch := omega) only [srW, srR, va_n, va_s, upd_n, upd_s] at hw ⊢
        exact hi.idle k hk hw),
    (by first | exact hi.s01 | (simp (disch := omega) only [srW, srR, va_n, va_s, upd_n, upd_s]; exact hi.s01) | (have := hi.s01; omega)),
    (by first | exact hi.c01 | (simp (disch := omega) only [srW, srR, va_n, va_s, upd_n, upd_s]; exact hi.c01) | (have := hi.c01; omega)),
    (fun k hk => by first | exact hi.msg k hk | (simp (disch := omega) only [srW, srR, va_n, va_s, upd_n, upd_s]; exact hi.msg k hk)),
    (by first | exact hi.ordP | (simp (disch := omega) only [srW, srR, va_n, va_s, upd_n, upd_s]; exact hi.ordP)),
    (by first | exact hi.ordL | (simp (disch := omega) only [srW, srR, va_n, va_s, upd_n, upd_s]; exact hi.ordL)),
    (fun i h1 h2 => by first | exact hi.kn i h1 h2 | (simp (disch := omega) only [srW, srR, va_n, va_s, upd_n, upd_s]; exact hi.kn i h1 h2))⟩
theorem cs_ev {v : Nat → Nat → Int32} {w : Nat → Nat → Int32} {r : Nat → Int32} {n : Nat} {t : Nat} {s : Nat} {c : Nat} {p : Nat} {l : Nat} {f : Nat} {o : Nat} {pk : Int32 × Int32} (h : Ev v n t s c p l f pk w r) (ho6 : o < n) (h12 : n ≤ 12) (hpp : p ≤ 12) (hll : l ≤ 12) : Ev v n t s c p l f pk (csW w o) (upd r (51 + 12 * o + 7) 0) :=
  ⟨(by first | exact h.tick | (simp (disch := omega) only [csW, va_n, va_s, upd_n, upd_s]; exact h.tick) | (simp (disch := omega) only [csW, va_n, va_s, upd_n, upd_s]; done)),
    (by first | exact h.tickr | (simp (disch := omega) only [csW, va_n, va_s, upd_n, upd_s]; exact h.tickr) | (simp (disch := omega) only [csW, va_n, va_s, upd_n, upd_s]; done)),
    (by first | exact h.dark | (simp (disch := omega) only [csW, va_n, va_s, upd_n, upd_s]; exact h.dark) | (simp (disch := omega) only [csW, va_n, va_s, upd_n, upd_s]; done)),
    (by first | exact h.fuse | (simp (disch := omega) only [csW, va_n, va_s, upd_n, upd_s]; exact h.fuse) | (simp (disch := omega) only [csW, va_n, va_s, upd_n, upd_s]; done)),
    (by first | exact h.fuser | (simp (disch := omega) only [csW, va_n, va_s, upd_n, upd_s]; exact h.fuser) | (simp (disch := omega) only [csW, va_n, va_s, upd_n, upd_s]; done)),
    (by first | exact h.retry | (simp (disch := omega) only [csW, va_n, va_s, upd_n, upd_s]; exact h.retry) | (simp (disch := omega) only [csW, va_n, va_s, upd_n, upd_s]; done)),
    (by first | exact h.strict | (simp (disch := omega) only [csW, va_n, va_s, upd_n, upd_s]; exact h.strict) | (simp (disch := omega) only [csW, va_n, va_s, upd_n, upd_s]; done)),
    (by first | exact h.blk | (simp (disch := omega) only [csW, va_n, va_s, upd_n, upd_s]; exact h.blk) | (simp (disch := omega) only [csW, va_n, va_s, upd_n, upd_s]; done)),
    (by first | exact h.trips | (simp (disch := omega) only [csW, va_n, va_s, upd_n, upd_s]; exact h.trips) | (simp (disch := omega) only [csW, va_n, va_s, upd_n, upd_s]; done)),
    (by first | exact h.peak | (simp (disch := omega) only [csW, va_n, va_s, upd_n, upd_s]; exact h.peak) | (simp (disch := omega) only [csW, va_n, va_s, upd_n, upd_s]; done)),
    (by first | exact h.peakr | (simp (disch := omega) only [csW, va_n, va_s, upd_n, upd_s]; exact h.peakr) | (simp (disch := omega) only [csW, va_n, va_s, upd_n, upd_s]; done)),
    (by first | exact h.pat | (simp (disch := omega) only [csW, va_n, va_s, upd_n, upd_s]; exact h.pat) | (simp (disch := omega) only [csW, va_n, va_s, upd_n, upd_s]; done)),
    (by first | exact h.wait | (simp (disch := omega) only [csW, va_n, va_s, upd_n, upd_s]; exact h.wait) | (simp (disch := omega) only [csW, va_n, va_s, upd_n, upd_s]; done)),
    (by first | exact h.waitr | (simp (disch := omega) only [csW, va_n, va_s, upd_n, upd_s]; exact h.waitr) | (simp (disch := omega) only [csW, va_n, va_s, upd_n, upd_s]; done)),
    (by first | exact h.sent | (simp (disch := omega) only [csW, va_n, va_s, upd_n, upd_s]; exact h.sent) | (simp (disch := omega) only [csW, va_n, va_s, upd_n, upd_s]; done)),
    (by first | exact h.sentr | (simp (disch := omega) only [csW, va_n, va_s, upd_n, upd_s]; exact h.sentr) | (simp (disch := omega) only [csW, va_n, va_s, upd_n, upd_s]; done)),
    (by first | exact h.clear | (simp (disch := omega) only [csW, va_n, va_s, upd_n, upd_s]; exact h.clear) | (simp (disch := omega) only [csW, va_n, va_s, upd_n, upd_s]; done)),
    (by first | exact h.pm | (simp (disch := omega) only [csW, va_n, va_s, upd_n, upd_s]; exact h.pm) | (simp (disch := omega) only [csW, va_n, va_s, upd_n, upd_s]; done)),
    (by first | exact h.pmr | (simp (disch := omega) only [csW, va_n, va_s, upd_n, upd_s]; exact h.pmr) | (simp (disch := omega) only [csW, va_n, va_s, upd_n, upd_s]; done)),
    (by first | exact h.lm | (simp (disch := omega) only [csW, va_n, va_s, upd_n, upd_s]; exact h.lm) | (simp (disch := omega) only [csW, va_n, va_s, upd_n, upd_s]; done)),
    (by first | exact h.lmr | (simp (disch := omega) only [csW, va_n, va_s, upd_n, upd_s]; exact h.lmr) | (simp (disch := omega) only [csW, va_n, va_s, upd_n, upd_s]; done)),
    (by first | exact h.lost | (simp (disch := omega) only [csW, va_n, va_s, upd_n, upd_s]; exact h.lost) | (simp (disch := omega) only [csW, va_n, va_s, upd_n, upd_s]; done)),
    (fun k hk => by first | exact h.sby k hk | (simp (disch := omega) only [csW, va_n, va_s, upd_n, upd_s]; exact h.sby k (by omega))),
    (fun k hk => by first | exact h.lby k hk | (simp (disch := omega) only [csW, va_n, va_s, upd_n, upd_s]; exact h.lby k (by omega))),
    (fun o ho => by first | exact h.prio o ho | (simp (disch := omega) only [csW, va_n, va_s, upd_n, upd_s]; exact h.prio o ho)),
    (fun o ho => by first | exact h.wants o ho | (simp (disch := omega) only [csW, va_n, va_s, upd_n, upd_s]; exact h.wants o ho)),
    (fun o ho => by first | exact h.how o ho | (simp (disch := omega) only [csW, va_n, va_s, upd_n, upd_s]; exact h.how o ho)),
    (fun o ho => by first | exact h.left o ho | (simp (disch := omega) only [csW, va_n, va_s, upd_n, upd_s]; exact h.left o ho)),
    (fun o ho => by first | exact h.starts o ho | (simp (disch := omega) only [csW, va_n, va_s, upd_n, upd_s]; exact h.starts o ho)),
    (fun o ho => by first | exact h.ran o ho | (simp (disch := omega) only [csW, va_n, va_s, upd_n, upd_s]; exact h.ran o ho)),
    (fun o ho hw => by first | exact h.asked o ho hw | (simp (disch := omega) only [csW, va_n, va_s, upd_n, upd_s] at hw ⊢; exact h.asked o ho hw) | (simp (disch := omega) only [csW, va_n, va_s, upd_n, upd_s]; exact h.asked o ho hw)),
    (fun k hk => by
      by_cases e : k = o
      · subst e
        simp (disch := omega) only [csW, va_n, va_s, upd_n, upd_s]
        rw [b01_c0 (by omega)]
      · simp (disch := omega) only [csW, va_n, va_s, upd_n, upd_s]
        rw [b01_cn (by omega) (by omega) e]
        exact h.stop k hk),
    (fun o ho => by first | exact h.poll o ho | (simp (disch := omega) only [csW, va_n, va_s, upd_n, upd_s]; exact h.poll o ho)),
    (fun o ho => by first | exact h.mark o ho | (simp (disch := omega) only [csW, va_n, va_s, upd_n, upd_s]; exact h.mark o ho)),
    (fun o ho => by first | exact h.time o ho | (simp (disch := omega) only [csW, va_n, va_s, upd_n, upd_s]; exact h.time o ho)),
    (fun o ho => by first | exact h.known o ho | (simp (disch := omega) only [csW, va_n, va_s, upd_n, upd_s]; exact h.known o ho)),
    (fun o ho => by first | exact h.exp o ho | (simp (disch := omega) only [csW, va_n, va_s, upd_n, upd_s]; exact h.exp o ho)),
    (fun o ho1 ho2 => by first | exact h.knz o ho1 ho2 | (simp (disch := omega) only [csW, va_n, va_s, upd_n, upd_s]; exact h.knz o ho1 ho2)),
    (fun k hk => by first | exact h.msg k hk | (simp (disch := omega) only [csW, va_n, va_s, upd_n, upd_s]; exact h.msg k (by omega))),
    (fun k hk => by first | exact h.pres k hk | (simp (disch := omega) only [csW, va_n, va_s, upd_n, upd_s]; exact h.pres k (by omega))),
    (fun k hk => by first | exact h.lear k hk | (simp (disch := omega) only [csW, va_n, va_s, upd_n, upd_s]; exact h.lear k (by omega)))⟩
theorem cs_iv {w : Nat → Nat → Int32} {n : Nat} {t : Nat} {s : Nat} {c : Nat} {p : Nat} {l : Nat} {f : Nat} {o : Nat} (hi : Iv n t s c p l f w) : Iv n t s c p l f (csW w o) :=
  ⟨(by first | exact hi.n12 | (simp (disch := omega) only [csW, va_n, va_s, upd_n, upd_s]; exact hi.n12) | (have := hi.n12; omega)),
    (by first | exact hi.tb | (simp (disch := omega) only [csW, va_n, va_s, upd_n, upd_s]; exact hi.tb) | (have := hi.tb; omega)),
    (by first | exact hi.sb | (simp (disch := omega) only [csW, va_n, va_s, upd_n, upd_s]; exact hi.sb) | (have := hi.sb; omega)),
    (by first | exact hi.cb | (simp (disch := omega) only [csW, va_n, va_s, upd_n, upd_s]; exact hi.cb) | (have := hi.cb; omega)),
    (by first | exact hi.fb | (simp (disch := omega) only [csW, va_n, va_s, upd_n, upd_s]; exact hi.fb) | (have := hi.fb; omega)),
    (fun o ho => by first | exact hi.st o ho | (simp (disch := omega) only [csW, va_n, va_s, upd_n, upd_s]; exact hi.st o ho)),
    (fun o ho => by first | exact hi.mk o ho | (simp (disch := omega) only [csW, va_n, va_s, upd_n, upd_s]; exact hi.mk o ho)),
    (fun o ho hw => by first | exact hi.idle o ho hw | (simp (disch := omega) only [csW, va_n, va_s, upd_n, upd_s] at hw ⊢; exact hi.idle o ho hw) | (simp (disch := omega) only [csW, va_n, va_s, upd_n, upd_s]; exact hi.idle o ho hw)),
    (by first | exact hi.s01 | (simp (disch := omega) only [csW, va_n, va_s, upd_n, upd_s]; exact hi.s01) | (have := hi.s01; omega)),
    (by first | exact hi.c01 | (simp (disch := omega) only [csW, va_n, va_s, upd_n, upd_s]; exact hi.c01) | (have := hi.c01; omega)),
    (fun k hk => by first | exact hi.msg k hk | (simp (disch := omega) only [csW, va_n, va_s, upd_n, upd_s]; exact hi.msg k hk)),
    (by first | exact hi.ordP | (simp (disch := omega) only [csW, va_n, va_s, upd_n, upd_s]; exact hi.ordP)),
    (by first | exact hi.ordL | (simp (disch := omega) only [csW, va_n, va_s, upd_n, upd_s]; exact hi.ordL)),
    (fun i h1 h2 => by first | exact hi.kn i h1 h2 | (simp (disch := omega) only [csW, va_n, va_s, upd_n, upd_s]; exact hi.kn i h1 h2))⟩
theorem cq_ev {v : Nat → Nat → Int32} {w : Nat → Nat → Int32} {r : Nat → Int32} {n : Nat} {t : Nat} {s : Nat} {c : Nat} {p : Nat} {l : Nat} {f : Nat} {o : Nat} {pk : Int32 × Int32} (h : Ev v n t s c p l f pk w r) (ho6 : o < n) (h12 : n ≤ 12) (hpp : p ≤ 12) (hll : l ≤ 12) : Ev v n t s c p l f pk (cqW w o) (upd r (51 + 12 * o + 8) 0) :=
  ⟨(by first | exact h.tick | (simp (disch := omega) only [cqW, va_n, va_s, upd_n, upd_s]; exact h.tick) | (simp (disch := omega) only [cqW, va_n, va_s, upd_n, upd_s]; done)),
    (by first | exact h.tickr | (simp (disch := omega) only [cqW, va_n, va_s, upd_n, upd_s]; exact h.tickr) | (simp (disch := omega) only [cqW, va_n, va_s, upd_n, upd_s]; done)),
    (by first | exact h.dark | (simp (disch := omega) only [cqW, va_n, va_s, upd_n, upd_s]; exact h.dark) | (simp (disch := omega) only [cqW, va_n, va_s, upd_n, upd_s]; done)),
    (by first | exact h.fuse | (simp (disch := omega) only [cqW, va_n, va_s, upd_n, upd_s]; exact h.fuse) | (simp (disch := omega) only [cqW, va_n, va_s, upd_n, upd_s]; done)),
    (by first | exact h.fuser | (simp (disch := omega) only [cqW, va_n, va_s, upd_n, upd_s]; exact h.fuser) | (simp (disch := omega) only [cqW, va_n, va_s, upd_n, upd_s]; done)),
    (by first | exact h.retry | (simp (disch := omega) only [cqW, va_n, va_s, upd_n, upd_s]; exact h.retry) | (simp (disch := omega) only [cqW, va_n, va_s, upd_n, upd_s]; done)),
    (by first | exact h.strict | (simp (disch := omega) only [cqW, va_n, va_s, upd_n, upd_s]; exact h.strict) | (simp (disch := omega) only [cqW, va_n, va_s, upd_n, upd_s]; done)),
    (by first | exact h.blk | (simp (disch := omega) only [cqW, va_n, va_s, upd_n, upd_s]; exact h.blk) | (simp (disch := omega) only [cqW, va_n, va_s, upd_n, upd_s]; done)),
    (by first | exact h.trips | (simp (disch := omega) only [cqW, va_n, va_s, upd_n, upd_s]; exact h.trips) | (simp (disch := omega) only [cqW, va_n, va_s, upd_n, upd_s]; done)),
    (by first | exact h.peak | (simp (disch := omega) only [cqW, va_n, va_s, upd_n, upd_s]; exact h.peak) | (simp (disch := omega) only [cqW, va_n, va_s, upd_n, upd_s]; done)),
    (by first | exact h.peakr | (simp (disch := omega) only [cqW, va_n, va_s, upd_n, upd_s]; exact h.peakr) | (simp (disch := omega) only [cqW, va_n, va_s, upd_n, upd_s]; done)),
    (by first | exact h.pat | (simp (disch := omega) only [cqW, va_n, va_s, upd_n, upd_s]; exact h.pat) | (simp (disch := omega) only [cqW, va_n, va_s, upd_n, upd_s]; done)),
    (by first | exact h.wait | (simp (disch := omega) only [cqW, va_n, va_s, upd_n, upd_s]; exact h.wait) | (simp (disch := omega) only [cqW, va_n, va_s, upd_n, upd_s]; done)),
    (by first | exact h.waitr | (simp (disch := omega) only [cqW, va_n, va_s, upd_n, upd_s]; exact h.waitr) | (simp (disch := omega) only [cqW, va_n, va_s, upd_n, upd_s]; done)),
    (by first | exact h.sent | (simp (disch := omega) only [cqW, va_n, va_s, upd_n, upd_s]; exact h.sent) | (simp (disch := omega) only [cqW, va_n, va_s, upd_n, upd_s]; done)),
    (by first | exact h.sentr | (simp (disch := omega) only [cqW, va_n, va_s, upd_n, upd_s]; exact h.sentr) | (simp (disch := omega) only [cqW, va_n, va_s, upd_n, upd_s]; done)),
    (by first | exact h.clear | (simp (disch := omega) only [cqW, va_n, va_s, upd_n, upd_s]; exact h.clear) | (simp (disch := omega) only [cqW, va_n, va_s, upd_n, upd_s]; done)),
    (by first | exact h.pm | (simp (disch := omega) only [cqW, va_n, va_s, upd_n, upd_s]; exact h.pm) | (simp (disch := omega) only [cqW, va_n, va_s, upd_n, upd_s]; done)),
    (by first | exact h.pmr | (simp (disch := omega) only [cqW, va_n, va_s, upd_n, upd_s]; exact h.pmr) | (simp (disch := omega) only [cqW, va_n, va_s, upd_n, upd_s]; done)),
    (by first | exact h.lm | (simp (disch := omega) only [cqW, va_n, va_s, upd_n, upd_s]; exact h.lm) | (simp (disch := omega) only [cqW, va_n, va_s, upd_n, upd_s]; done)),
    (by first | exact h.lmr | (simp (disch := omega) only [cqW, va_n, va_s, upd_n, upd_s]; exact h.lmr) | (simp (disch := omega) only [cqW, va_n, va_s, upd_n, upd_s]; done)),
    (by first | exact h.lost | (simp (disch := omega) only [cqW, va_n, va_s, upd_n, upd_s]; exact h.lost) | (simp (disch := omega) only [cqW, va_n, va_s, upd_n, upd_s]; done)),
    (fun k hk => by first | exact h.sby k hk | (simp (disch := omega) only [cqW, va_n, va_s, upd_n, upd_s]; exact h.sby k (by omega))),
    (fun k hk => by first | exact h.lby k hk | (simp (disch := omega) only [cqW, va_n, va_s, upd_n, upd_s]; exact h.lby k (by omega))),
    (fun o ho => by first | exact h.prio o ho | (simp (disch := omega) only [cqW, va_n, va_s, upd_n, upd_s]; exact h.prio o ho)),
    (fun o ho => by first | exact h.wants o ho | (simp (disch := omega) only [cqW, va_n, va_s, upd_n, upd_s]; exact h.wants o ho)),
    (fun o ho => by first | exact h.how o ho | (simp (disch := omega) only [cqW, va_n, va_s, upd_n, upd_s]; exact h.how o ho)),
    (fun o ho => by first | exact h.left o ho | (simp (disch := omega) only [cqW, va_n, va_s, upd_n, upd_s]; exact h.left o ho)),
    (fun o ho => by first | exact h.starts o ho | (simp (disch := omega) only [cqW, va_n, va_s, upd_n, upd_s]; exact h.starts o ho)),
    (fun o ho => by first | exact h.ran o ho | (simp (disch := omega) only [cqW, va_n, va_s, upd_n, upd_s]; exact h.ran o ho)),
    (fun o ho hw => by first | exact h.asked o ho hw | (simp (disch := omega) only [cqW, va_n, va_s, upd_n, upd_s] at hw ⊢; exact h.asked o ho hw) | (simp (disch := omega) only [cqW, va_n, va_s, upd_n, upd_s]; exact h.asked o ho hw)),
    (fun o ho => by first | exact h.stop o ho | (simp (disch := omega) only [cqW, va_n, va_s, upd_n, upd_s]; exact h.stop o ho)),
    (fun k hk => by
      by_cases e : k = o
      · subst e
        simp (disch := omega) only [cqW, va_n, va_s, upd_n, upd_s]
        rw [b01_c0 (by omega)]
      · simp (disch := omega) only [cqW, va_n, va_s, upd_n, upd_s]
        rw [b01_cn (by omega) (by omega) e]
        exact h.poll k hk),
    (fun o ho => by first | exact h.mark o ho | (simp (disch := omega) only [cqW, va_n, va_s, upd_n, upd_s]; exact h.mark o ho)),
    (fun o ho => by first | exact h.time o ho | (simp (disch := omega) only [cqW, va_n, va_s, upd_n, upd_s]; exact h.time o ho)),
    (fun o ho => by first | exact h.known o ho | (simp (disch := omega) only [cqW, va_n, va_s, upd_n, upd_s]; exact h.known o ho)),
    (fun o ho => by first | exact h.exp o ho | (simp (disch := omega) only [cqW, va_n, va_s, upd_n, upd_s]; exact h.exp o ho)),
    (fun o ho1 ho2 => by first | exact h.knz o ho1 ho2 | (simp (disch := omega) only [cqW, va_n, va_s, upd_n, upd_s]; exact h.knz o ho1 ho2)),
    (fun k hk => by first | exact h.msg k hk | (simp (disch := omega) only [cqW, va_n, va_s, upd_n, upd_s]; exact h.msg k (by omega))),
    (fun k hk => by first | exact h.pres k hk | (simp (disch := omega) only [cqW, va_n, va_s, upd_n, upd_s]; exact h.pres k (by omega))),
    (fun k hk => by first | exact h.lear k hk | (simp (disch := omega) only [cqW, va_n, va_s, upd_n, upd_s]; exact h.lear k (by omega)))⟩
theorem cq_iv {w : Nat → Nat → Int32} {n : Nat} {t : Nat} {s : Nat} {c : Nat} {p : Nat} {l : Nat} {f : Nat} {o : Nat} (hi : Iv n t s c p l f w) : Iv n t s c p l f (cqW w o) :=
  ⟨(by first | exact hi.n12 | (simp (disch := omega) only [cqW, va_n, va_s, upd_n, upd_s]; exact hi.n12) | (have := hi.n12; omega)),
    (by first | exact hi.tb | (simp (disch := omega) only [cqW, va_n, va_s, upd_n, upd_s]; exact hi.tb) | (have := hi.tb; omega)),
    (by first | exact hi.sb | (simp (disch := omega) only [cqW, va_n, va_s, upd_n, upd_s]; exact hi.sb) | (have := hi.sb; omega)),
    (by first | exact hi.cb | (simp (disch := omega) only [cqW, va_n, va_s, upd_n, upd_s]; exact hi.cb) | (have := hi.cb; omega)),
    (by first | exact hi.fb | (simp (disch := omega) only [cqW, va_n, va_s, upd_n, upd_s]; exact hi.fb) | (have := hi.fb; omega)),
    (fun o ho => by first | exact hi.st o ho | (simp (disch := omega) only [cqW, va_n, va_s, upd_n, upd_s]; exact hi.st o ho)),
    (fun o ho => by first | exact hi.mk o ho | (simp (disch := omega) only [cqW, va_n, va_s, upd_n, upd_s]; exact hi.mk o ho)),
    (fun o ho hw => by first | exact hi.idle o ho hw | (simp (disch := omega) only [cqW, va_n, va_s, upd_n, upd_s] at hw ⊢; exact hi.idle o ho hw) | (simp (disch := omega) only [cqW, va_n, va_s, upd_n, upd_s]; exact hi.idle o ho hw)),
    (by first | exact hi.s01 | (simp (disch := omega) only [cqW, va_n, va_s, upd_n, upd_s]; exact hi.s01) | (have := hi.s01; omega)),
    (by first | exact hi.c01 | (simp (disch := omega) only [cqW, va_n, va_s, upd_n, upd_s]; exact hi.c01) | (have := hi.c01; omega)),
    (fun k hk => by first | exact hi.msg k hk | (simp (disch := omega) only [cqW, va_n, va_s, upd_n, upd_s]; exact hi.msg k hk)),
    (by first | exact hi.ordP | (simp (disch := omega) only [cqW, va_n, va_s, upd_n, upd_s]; exact hi.ordP)),
    (by first | exact hi.ordL | (simp (disch := omega) only [cqW, va_n, va_s, upd_n, upd_s]; exact hi.ordL)),
    (fun i h1 h2 => by first | exact hi.kn i h1 h2 | (simp (disch := omega) only [cqW, va_n, va_s, upd_n, upd_s]; exact hi.kn i h1 h2))⟩
theorem as_ev {v : Nat → Nat → Int32} {w : Nat → Nat → Int32} {r : Nat → Int32} {n : Nat} {t : Nat} {s : Nat} {c : Nat} {p : Nat} {l : Nat} {f : Nat} {o : Nat} {pk : Int32 × Int32} (h : Ev v n t s c p l f pk w r) (ho6 : o < n) (h12 : n ≤ 12) (hpp : p ≤ 12) (hll : l ≤ 12) : Ev v n t s c p l f pk (asW w o t) (upd r (51 + 12 * o + 6) (nI t)) :=
  ⟨(by first | exact h.tick | (simp (disch := omega) only [asW, va_n, va_s, upd_n, upd_s]; exact h.tick) | (simp (disch := omega) only [asW, va_n, va_s, upd_n, upd_s]; done)),
    (by first | exact h.tickr | (simp (disch := omega) only [asW, va_n, va_s, upd_n, upd_s]; exact h.tickr) | (simp (disch := omega) only [asW, va_n, va_s, upd_n, upd_s]; done)),
    (by first | exact h.dark | (simp (disch := omega) only [asW, va_n, va_s, upd_n, upd_s]; exact h.dark) | (simp (disch := omega) only [asW, va_n, va_s, upd_n, upd_s]; done)),
    (by first | exact h.fuse | (simp (disch := omega) only [asW, va_n, va_s, upd_n, upd_s]; exact h.fuse) | (simp (disch := omega) only [asW, va_n, va_s, upd_n, upd_s]; done)),
    (by first | exact h.fuser | (simp (disch := omega) only [asW, va_n, va_s, upd_n, upd_s]; exact h.fuser) | (simp (disch := omega) only [asW, va_n, va_s, upd_n, upd_s]; done)),
    (by first | exact h.retry | (simp (disch := omega) only [asW, va_n, va_s, upd_n, upd_s]; exact h.retry) | (simp (disch := omega) only [asW, va_n, va_s, upd_n, upd_s]; done)),
    (by first | exact h.strict | (simp (disch := omega) only [asW, va_n, va_s, upd_n, upd_s]; exact h.strict) | (simp (disch := omega) only [asW, va_n, va_s, upd_n, upd_s]; done)),
    (by first | exact h.blk | (simp (disch := omega) only [asW, va_n, va_s, upd_n, upd_s]; exact h.blk) | (simp (disch := omega) only [asW, va_n, va_s, upd_n, upd_s]; done)),
    (by first | exact h.trips | (simp (disch := omega) only [asW, va_n, va_s, upd_n, upd_s]; exact h.trips) | (simp (disch := omega) only [asW, va_n, va_s, upd_n, upd_s]; done)),
    (by first | exact h.peak | (simp (disch := omega) only [asW, va_n, va_s, upd_n, upd_s]; exact h.peak) | (simp (disch := omega) only [asW, va_n, va_s, upd_n, upd_s]; done)),
    (by first | exact h.peakr | (simp (disch := omega) only [asW, va_n, va_s, upd_n, upd_s]; exact h.peakr) | (simp (disch := omega) only [asW, va_n, va_s, upd_n, upd_s]; done)),
    (by first | exact h.pat | (simp (disch := omega) only [asW, va_n, va_s, upd_n, upd_s]; exact h.pat) | (simp (disch := omega) only [asW, va_n, va_s, upd_n, upd_s]; done)),
    (by first | exact h.wait | (simp (disch := omega) only [asW, va_n, va_s, upd_n, upd_s]; exact h.wait) | (simp (disch := omega) only [asW, va_n, va_s, upd_n, upd_s]; done)),
    (by first | exact h.waitr | (simp (disch := omega) only [asW, va_n, va_s, upd_n, upd_s]; exact h.waitr) | (simp (disch := omega) only [asW, va_n, va_s, upd_n, upd_s]; done)),
    (by first | exact h.sent | (simp (disch := omega) only [asW, va_n, va_s, upd_n, upd_s]; exact h.sent) | (simp (disch := omega) only [asW, va_n, va_s, upd_n, upd_s]; done)),
    (by first | exact h.sentr | (simp (disch := omega) only [asW, va_n, va_s, upd_n, upd_s]; exact h.sentr) | (simp (disch := omega) only [asW, va_n, va_s, upd_n, upd_s]; done)),
    (by first | exact h.clear | (simp (disch := omega) only [asW, va_n, va_s, upd_n, upd_s]; exact h.clear) | (simp (disch := omega) only [asW, va_n, va_s, upd_n, upd_s]; done)),
    (by first | exact h.pm | (simp (disch := omega) only [asW, va_n, va_s, upd_n, upd_s]; exact h.pm) | (simp (disch := omega) only [asW, va_n, va_s, upd_n, upd_s]; done)),
    (by first | exact h.pmr | (simp (disch := omega) only [asW, va_n, va_s, upd_n, upd_s]; exact h.pmr) | (simp (disch := omega) only [asW, va_n, va_s, upd_n, upd_s]; done)),
    (by first | exact h.lm | (simp (disch := omega) only [asW, va_n, va_s, upd_n, upd_s]; exact h.lm) | (simp (disch := omega) only [asW, va_n, va_s, upd_n, upd_s]; done)),
    (by first | exact h.lmr | (simp (disch := omega) only [asW, va_n, va_s, upd_n, upd_s]; exact h.lmr) | (simp (disch := omega) only [asW, va_n, va_s, upd_n, upd_s]; done)),
    (by first | exact h.lost | (simp (disch := omega) only [asW, va_n, va_s, upd_n, upd_s]; exact h.lost) | (simp (disch := omega) only [asW, va_n, va_s, upd_n, upd_s]; done)),
    (fun k hk => by first | exact h.sby k hk | (simp (disch := omega) only [asW, va_n, va_s, upd_n, upd_s]; exact h.sby k (by omega))),
    (fun k hk => by first | exact h.lby k hk | (simp (disch := omega) only [asW, va_n, va_s, upd_n, upd_s]; exact h.lby k (by omega))),
    (fun o ho => by first | exact h.prio o ho | (simp (disch := omega) only [asW, va_n, va_s, upd_n, upd_s]; exact h.prio o ho)),
    (fun o ho => by first | exact h.wants o ho | (simp (disch := omega) only [asW, va_n, va_s, upd_n, upd_s]; exact h.wants o ho)),
    (fun o ho => by first | exact h.how o ho | (simp (disch := omega) only [asW, va_n, va_s, upd_n, upd_s]; exact h.how o ho)),
    (fun o ho => by first | exact h.left o ho | (simp (disch := omega) only [asW, va_n, va_s, upd_n, upd_s]; exact h.left o ho)),
    (fun o ho => by first | exact h.starts o ho | (simp (disch := omega) only [asW, va_n, va_s, upd_n, upd_s]; exact h.starts o ho)),
    (fun o ho => by first | exact h.ran o ho | (simp (disch := omega) only [asW, va_n, va_s, upd_n, upd_s]; exact h.ran o ho)),
    (fun k hk hw => by
      by_cases e : k = o
      · subst e
        simp (disch := omega) only [asW, va_n, va_s, upd_n, upd_s]
      · simp (disch := omega) only [asW, va_n, va_s, upd_n, upd_s] at hw ⊢
        exact h.asked k hk hw),
    (fun o ho => by first | exact h.stop o ho | (simp (disch := omega) only [asW, va_n, va_s, upd_n, upd_s]; exact h.stop o ho)),
    (fun o ho => by first | exact h.poll o ho | (simp (disch := omega) only [asW, va_n, va_s, upd_n, upd_s]; exact h.poll o ho)),
    (fun o ho => by first | exact h.mark o ho | (simp (disch := omega) only [asW, va_n, va_s, upd_n, upd_s]; exact h.mark o ho)),
    (fun o ho => by first | exact h.time o ho | (simp (disch := omega) only [asW, va_n, va_s, upd_n, upd_s]; exact h.time o ho)),
    (fun o ho => by first | exact h.known o ho | (simp (disch := omega) only [asW, va_n, va_s, upd_n, upd_s]; exact h.known o ho)),
    (fun o ho => by first | exact h.exp o ho | (simp (disch := omega) only [asW, va_n, va_s, upd_n, upd_s]; exact h.exp o ho)),
    (fun o ho1 ho2 => by first | exact h.knz o ho1 ho2 | (simp (disch := omega) only [asW, va_n, va_s, upd_n, upd_s]; exact h.knz o ho1 ho2)),
    (fun k hk => by first | exact h.msg k hk | (simp (disch := omega) only [asW, va_n, va_s, upd_n, upd_s]; exact h.msg k (by omega))),
    (fun k hk => by first | exact h.pres k hk | (simp (disch := omega) only [asW, va_n, va_s, upd_n, upd_s]; exact h.pres k (by omega))),
    (fun k hk => by first | exact h.lear k hk | (simp (disch := omega) only [asW, va_n, va_s, upd_n, upd_s]; exact h.lear k (by omega)))⟩
theorem as_iv {w : Nat → Nat → Int32} {n : Nat} {t : Nat} {s : Nat} {c : Nat} {p : Nat} {l : Nat} {f : Nat} {o : Nat} (hi : Iv n t s c p l f w) : Iv n t s c p l f (asW w o t) :=
  ⟨(by first | exact hi.n12 | (simp (disch := omega) only [asW, va_n, va_s, upd_n, upd_s]; exact hi.n12) | (have := hi.n12; omega)),
    (by first | exact hi.tb | (simp (disch := omega) only [asW, va_n, va_s, upd_n, upd_s]; exact hi.tb) | (have := hi.tb; omega)),
    (by first | exact hi.sb | (simp (disch := omega) only [asW, va_n, va_s, upd_n, upd_s]; exact hi.sb) | (have := hi.sb; omega)),
    (by first | exact hi.cb | (simp (disch := omega) only [asW, va_n, va_s, upd_n, upd_s]; exact hi.cb) | (have := hi.cb; omega)),
    (by first | exact hi.fb | (simp (disch := omega) only [asW, va_n, va_s, upd_n, upd_s]; exact hi.fb) | (have := hi.fb; omega)),
    (fun o ho => by first | exact hi.st o ho | (simp (disch := omega) only [asW, va_n, va_s, upd_n, upd_s]; exact hi.st o ho)),
    (fun o ho => by first | exact hi.mk o ho | (simp (disch := omega) only [asW, va_n, va_s, upd_n, upd_s]; exact hi.mk o ho)),
    (fun o ho hw => by first | exact hi.idle o ho hw | (simp (disch := omega) only [asW, va_n, va_s, upd_n, upd_s] at hw ⊢; exact hi.idle o ho hw) | (simp (disch := omega) only [asW, va_n, va_s, upd_n, upd_s]; exact hi.idle o ho hw)),
    (by first | exact hi.s01 | (simp (disch := omega) only [asW, va_n, va_s, upd_n, upd_s]; exact hi.s01) | (have := hi.s01; omega)),
    (by first | exact hi.c01 | (simp (disch := omega) only [asW, va_n, va_s, upd_n, upd_s]; exact hi.c01) | (have := hi.c01; omega)),
    (fun k hk => by first | exact hi.msg k hk | (simp (disch := omega) only [asW, va_n, va_s, upd_n, upd_s]; exact hi.msg k hk)),
    (by first | exact hi.ordP | (simp (disch := omega) only [asW, va_n, va_s, upd_n, upd_s]; exact hi.ordP)),
    (by first | exact hi.ordL | (simp (disch := omega) only [asW, va_n, va_s, upd_n, upd_s]; exact hi.ordL)),
    (fun i h1 h2 => by first | exact hi.kn i h1 h2 | (simp (disch := omega) only [asW, va_n, va_s, upd_n, upd_s]; exact hi.kn i h1 h2))⟩
theorem upd_self (u : Nat → Int32) {i : Nat} {y : Int32} (h : u i = y) : upd u i y = u := by
  funext j
  rw [upd_apply']
  split
  · rename_i e
    rw [e, h]
  · rfl
theorem stA {v : Nat → Nat → Int32} {z : Nat → Nat → Int32} {w : Nat → Nat → Int32} {r : Nat → Int32} {n : Nat} {t : Nat} {s : Nat} {c : Nat} {p : Nat} {l : Nat} {f : Nat} {o : Nat} {pk : Int32 × Int32} {ρ : Type} {π : Type} (hp : Pl v z n) (h : Ev v n t s c p l f pk w r) (hi : Iv n t s c p l f w) (ho : o < n) (hc : c < 72) (hs : s + 1 ≤ 72 * t + 72) : ∃ w2 r2 s2 c2,
    (∀ J : (Nat → Nat → Int32) → Option ρ, jn J (fun j58 => if ((w 11) (nI o).toNatClampNeg) = 2 then gd (vp_in (nI o) 12) (if ((w 12) (nI o).toNatClampNeg) = 0 then gd (vp_in (nI o) 12) (bs (va_up w 11 (upd (w 11) (nI o).toNatClampNeg 3)) fun w_13 => gd (vp_in (nI o) 12) (bs (va_up w_13 14 (upd (w_13 14) (nI o).toNatClampNeg (w_13 0 0))) fun w_14 => bd (qX8_send v w_14 1 (nI o) (-1)) fun w_15 => (j58 w_15))) else (j58 w)) else (j58 w)) = J w2) ∧
    (∀ J : (Nat → Int32) → Option π, jn J (fun j47 => if (r (nI (51 + 12 * o + 2)).toNatClampNeg) = 2 then bd (qX11_at (nI o) 3) fun r_21 => gd (vp_in r_21 411) (if (r r_21.toNatClampNeg) = 0 then bd (qX11_at (nI o) 2) fun r_22 => gd (vp_in r_22 411) (bs (upd r r_22.toNatClampNeg 3) fun rw_23 => bd (qX11_at (nI o) 5) fun r_24 => gd (vp_in r_24 411) (bs (upd rw_23 r_24.toNatClampNeg (rw_23 0)) fun rw_25 => bd (qX11_sends z rw_25 1 (nI o) (-1)) fun rw_26 => (j47 rw_26))) else (j47 r)) else (j47 r)) = J r2) ∧
    Ev v n t s2 c2 p l f pk w2 r2 ∧ Iv n t s2 c2 p l f w2 ∧ c2 ≤ c + 1 ∧ s2 ≤ s + 1 ∧ c2 ≤ 72 := by
  have h12 := hi.n12
  have hpp := hi.ordP.pn
  have hll := hi.ordL.pn
  by_cases e : w 11 o = 2 ∧ w 12 o = 0
  · obtain ⟨e1, e2⟩ := e
    obtain ⟨w2, r2, c2, g1, g2, g3, g4, g5, g6, g7, g8, g9, g10⟩ := send_e (kd := 1) (x := -1) hp (sr_ev h ho h12 (by omega) (by omega) e1) (sr_iv hi ho) (by omega) ho hc hs (by omega)
    refine ⟨w2, r2, s + 1, c2, fun J => ?_, fun J => ?_, g3, g4, by omega, by omega, by omega⟩
    · rw [k1] at g1
      simp (disch := omega) only [jn_e, gdn, cl, bs_e, e1, e2, va_n, h.tick]
      rw [if_pos trivial, if_pos trivial]
      show bd (qX8_send v (srW w o t) 1 (nI o) (-1)) (fun w_15 => J w_15) = _
      rw [g1, bd_s]
    · rw [k1] at g2
      simp (disch := omega) only [jn_e, gdn, cl, bs_e, ag2, ag3, ag5, bd_s, ← h.how, ← h.left, e1, e2, upd_n, h.tickr]
      rw [if_pos trivial, if_pos trivial]
      show bd (qX11_sends z (srR r o t) 1 (nI o) (-1)) (fun w_15 => J w_15) = _
      rw [g2, bd_s]
  · refine ⟨w, r, s, c, fun J => ?_, fun J => ?_, h, hi, by omega, by omega, hi.cb⟩
    · simp (disch := omega) only [jn_e, gdn, cl, bs_e]
      rw [and_if, if_neg e]
    · simp (disch := omega) only [jn_e, gdn, cl, bs_e, ag2, ag3, ag5, bd_s, ← h.how, ← h.left]
      rw [and_if, if_neg e]
theorem stB {v : Nat → Nat → Int32} {z : Nat → Nat → Int32} {w : Nat → Nat → Int32} {r : Nat → Int32} {n : Nat} {t : Nat} {s : Nat} {c : Nat} {p : Nat} {l : Nat} {f : Nat} {o : Nat} {pk : Int32 × Int32} {ρ : Type} {π : Type} (hp : Pl v z n) (h : Ev v n t s c p l f pk w r) (hi : Iv n t s c p l f w) (ho : o < n) (hc : c < 72) (hs : s + 1 ≤ 72 * t + 72) : ∃ w2 r2 s2 c2,
    (∀ J : (Nat → Nat → Int32) → Option ρ, bd (qX10_isIn (w 16 0) (nI o)) (fun r_2 => (jn J fun j99 => if r_2 = 0 then (j99 w) else (bs (va_up w 16 (fun _ => ((w 16 0) &&& ((1 <<< ((nI o) &&& 31)) ^^^ (-1))))) fun w_11 => bd (qX8_send v w_11 2 (nI o) (-1)) fun w_12 => (j99 w_12)))) = J w2) ∧
    (∀ J : (Nat → Int32) → Option π, bd (qX11_at (nI o) 7) (fun r_3 => gd (vp_in r_3 411) ((jn J fun j67 => if (r r_3.toNatClampNeg) = 1 then bd (qX11_sends z r 2 (nI o) (-1)) fun rw_20 => (j67 rw_20) else (j67 r)))) = J r2) ∧
    Ev v n t s2 c2 p l f pk w2 (upd r2 (51 + 12 * o + 7) 0) ∧ Iv n t s2 c2 p l f w2 ∧ c2 ≤ c + 1 ∧ s2 ≤ s + 1 ∧ c2 ≤ 72 := by
  have h12 := hi.n12
  have hpp := hi.ordP.pn
  have hll := hi.ordL.pn
  by_cases e : bt (w 16 0) o = true
  · obtain ⟨w2, r2, c2, g1, g2, g3, g4, g5, g6, g7, g8, g9, g10⟩ := send_e (kd := 2) (x := -1) hp (cs_ev h ho h12 (by omega) (by omega)) (cs_iv (o := o) hi) (by omega) ho hc hs (by omega)
    have hr := g10 r (fun i hi2 => by rw [upd_n (by omega)])
    have hmx : upd (mix r r2) (51 + 12 * o + 7) 0 = r2 := by
      funext i
      rw [upd_apply']
      unfold mix
      by_cases e1 : i = 51 + 12 * o + 7
      · rw [if_pos e1, g8 i (by omega) (by omega), e1, upd_s]
      · rw [if_neg e1]
        split
        · rw [g8 i (by omega) (by omega), upd_n e1]
        · rfl
    refine ⟨w2, mix r r2, s + 1, c2, fun J => ?_, fun J => ?_, by rw [hmx]; exact g3, g4, by omega, by omega, by omega⟩
    · rw [k2] at g1
      rw [isIn_e _ (by omega), bd_s, jn_e, b01_1.mpr e, if_neg (show ¬ (1 : Int32) = 0 by decide), bs_e]
      show bd (qX8_send v (csW w o) 2 (nI o) (-1)) (fun w_15 => J w_15) = _
      rw [g1, bd_s]
    · rw [k2] at hr
      rw [ag7, bd_s, gdn (by omega) (by omega), jn_e, cl (by omega), h.stop o ho, b01_1.mpr e, if_pos rfl, hr, bd_s]
  · have e' : b01 (w 16 0) o = 0 := b01_0.mpr (by simpa using e)
    refine ⟨w, r, s, c, fun J => ?_, fun J => ?_, ?_, hi, by omega, by omega, hi.cb⟩
    · rw [isIn_e _ (by omega), bd_s, jn_e, e', if_pos rfl]
    · rw [ag7, bd_s, gdn (by omega) (by omega), jn_e, cl (by omega), h.stop o ho, e', if_neg (show ¬ (0 : Int32) = 1 by decide)]
    · rw [upd_self r (by rw [h.stop o ho, e'])]
      exact h
theorem stC {v : Nat → Nat → Int32} {z : Nat → Nat → Int32} {w : Nat → Nat → Int32} {r : Nat → Int32} {n : Nat} {t : Nat} {s : Nat} {c : Nat} {p : Nat} {l : Nat} {f : Nat} {o : Nat} {pk : Int32 × Int32} {ρ : Type} {π : Type} (hp : Pl v z n) (h : Ev v n t s c p l f pk w (upd r (51 + 12 * o + 7) 0)) (hi : Iv n t s c p l f w) (ho : o < n) (hc : c < 72) (hs : s + 1 ≤ 72 * t + 72) : ∃ w2 r2 s2 c2,
    (∀ J : (Nat → Nat → Int32) → Option ρ, bd (qX10_isIn (w 17 0) (nI o)) (fun r_4 => (jn J fun j148 => if r_4 = 0 then (j148 w) else (bs (va_up w 17 (fun _ => ((w 17 0) &&& ((1 <<< ((nI o) &&& 31)) ^^^ (-1))))) fun w_9 => gd (vp_in (nI o) 12) (bd (qX8_send v w_9 3 (nI o) ((w_9 11) (nI o).toNatClampNeg)) fun w_10 => (j148 w_10))))) = J w2) ∧
    (∀ J : (Nat → Int32) → Option π, bd (qX11_at (nI o) 8) (fun r_5 => gd (vp_in r_5 411) ((jn J fun j93 => if (r r_5.toNatClampNeg) = 1 then bd (qX11_at (nI o) 2) fun r_18 => gd (vp_in r_18 411) (bd (qX11_sends z r 3 (nI o) (r r_18.toNatClampNeg)) fun rw_19 => (j93 rw_19)) else (j93 r)))) = J r2) ∧
    Ev v n t s2 c2 p l f pk w2 (upd (upd r2 (51 + 12 * o + 7) 0) (51 + 12 * o + 8) 0) ∧ Iv n t s2 c2 p l f w2 ∧ c2 ≤ c + 1 ∧ s2 ≤ s + 1 ∧ c2 ≤ 72 := by
  have h12 := hi.n12
  have hpp := hi.ordP.pn
  have hll := hi.ordL.pn
  have hpo : r (51 + 12 * o + 8) = b01 (w 17 0) o := by
    have := h.poll o ho
    rwa [upd_n (by omega)] at this
  have hho : r (51 + 12 * o + 2) = w 11 o := by
    have := h.how o ho
    rw [upd_n (by omega)] at this
    exact this.symm
  by_cases e : bt (w 17 0) o = true
  · obtain ⟨w2, r2, c2, g1, g2, g3, g4, g5, g6, g7, g8, g9, g10⟩ := send_e (kd := 3) (x := w 11 o) hp (cq_ev h ho h12 (by omega) (by omega)) (cq_iv (o := o) hi) (by omega) ho hc hs (fun _ => hi.st o ho)
    have hr := g10 r (fun i hi2 => by rw [upd_n (by omega), upd_n (by omega)])
    have hmx : upd (upd (mix r r2) (51 + 12 * o + 7) 0) (51 + 12 * o + 8) 0 = r2 := by
      funext i
      rw [upd_apply', upd_apply']
      unfold mix
      by_cases e2 : i = 51 + 12 * o + 8
      · rw [if_pos e2, g8 i (by omega) (by omega), e2, upd_s]
      · rw [if_neg e2]
        by_cases e1 : i = 51 + 12 * o + 7
        · rw [if_pos e1, g8 i (by omega) (by omega), upd_n e2, e1, upd_s]
        · rw [if_neg e1]
          split
          · rw [g8 i (by omega) (by omega), upd_n e2, upd_n e1]
          · rfl
    refine ⟨w2, mix r r2, s + 1, c2, fun J => ?_, fun J => ?_, by rw [hmx]; exact g3, g4, by omega, by omega, by omega⟩
    · rw [k3] at g1
      rw [isIn_e _ (by omega), bd_s, jn_e, b01_1.mpr e, if_neg (show ¬ (1 : Int32) = 0 by decide), bs_e, gdn (by omega) (by omega), cl (by omega), va_n (by omega)]
      show bd (qX8_send v (cqW w o) 3 (nI o) (w 11 o)) (fun w_15 => J w_15) = _
      rw [g1, bd_s]
    · rw [k3] at hr
      rw [ag8, bd_s, gdn (by omega) (by omega), jn_e, cl (by omega), hpo, b01_1.mpr e, if_pos rfl, ag2, bd_s, gdn (by omega) (by omega), cl (by omega), hho, hr, bd_s]
  · have e' : b01 (w 17 0) o = 0 := b01_0.mpr (by simpa using e)
    refine ⟨w, r, s, c, fun J => ?_, fun J => ?_, ?_, hi, by omega, by omega, hi.cb⟩
    · rw [isIn_e _ (by omega), bd_s, jn_e, e', if_pos rfl]
    · rw [ag8, bd_s, gdn (by omega) (by omega), jn_e, cl (by omega), hpo, e', if_neg (show ¬ (0 : Int32) = 1 by decide)]
    · rw [upd_self (upd r (51 + 12 * o + 7) 0) (i := 51 + 12 * o + 8) (by rw [upd_n (by omega), hpo, e'])]
      exact h
theorem isDueToAsk_e {v : Nat → Nat → Int32} {w : Nat → Nat → Int32} {r : Nat → Int32} {n : Nat} {t : Nat} {s : Nat} {c : Nat} {p : Nat} {l : Nat} {f : Nat} {o : Nat} {pk : Int32 × Int32} (h : Ev v n t s c p l f pk w r) (ho : o < n) (h12 : n ≤ 12) : qX2_isDueToAsk v w (nI o) (w 0 0) (w 3 0) = some (if w 11 o = 1 ∧ (w 15 o = -1 ∨ ¬ nI t - w 15 o < w 3 0) then 1 else 0) := by
  unfold qX2_isDueToAsk
  simp (disch := omega) only [gdn, cl, h.tick]
  by_cases e1 : w 11 o = 1
  · rw [if_pos e1]
    by_cases e2 : w 15 o = -1
    · rw [if_pos e2, if_pos ⟨e1, Or.inl e2⟩]
    · rw [if_neg e2]
      by_cases e3 : nI t - w 15 o < w 3 0
      · rw [if_pos e3, if_neg (show ¬ (w 11 o = 1 ∧ (w 15 o = -1 ∨ ¬ nI t - w 15 o < w 3 0)) from fun g => g.2.elim e2 (fun q => q e3))]
      · rw [if_neg e3, if_pos ⟨e1, Or.inr e3⟩]
  · rw [if_neg e1, if_neg (show ¬ (w 11 o = 1 ∧ (w 15 o = -1 ∨ ¬ nI t - w 15 o < w 3 0)) from fun g => e1 g.1)]
theorem stD {v : Nat → Nat → Int32} {z : Nat → Nat → Int32} {w : Nat → Nat → Int32} {r : Nat → Int32} {n : Nat} {t : Nat} {s : Nat} {c : Nat} {p : Nat} {l : Nat} {f : Nat} {o : Nat} {pk : Int32 × Int32} (hp : Pl v z n) (h : Ev v n t s c p l f pk w r) (hi : Iv n t s c p l f w) (ho : o < n) (hc : c < 72) (hs : s + 1 ≤ 72 * t + 72) : ∃ w2 r2 s2 c2,
    bd (qX2_isDueToAsk v w (nI o) (w 0 0) (w 3 0)) (fun r_6 => if r_6 = 0 then some w else gd (vp_in (nI o) 12) (bs (va_up w 15 (upd (w 15) (nI o).toNatClampNeg (w 0 0))) fun w_7 => bd (qX8_send v w_7 0 (nI o) (-1)) fun w_8 => some w_8)) = some w2 ∧
    bd (qX11_at (nI o) 6) (fun r_11 => gd (vp_in r_11 411) ((jn (fun (y_12 : Int32) => bd (qX11_at (nI o) 2) fun r_13 => gd (vp_in r_13 411) (if (r r_13.toNatClampNeg) = 1 then if y_12 = 0 then some r else bd (qX11_sends z r 0 (nI o) (-1)) fun rw_14 => bd (qX11_at (nI o) 6) fun r_15 => gd (vp_in r_15 411) (bs (upd rw_14 r_15.toNatClampNeg (rw_14 0)) fun rw_16 => some rw_16) else some r)) fun j147 => jn (fun (_ : Unit) => (j147 1)) fun j142 => if (r r_11.toNatClampNeg) = (-1) then (j142 ()) else bd (qX11_at (nI o) 6) fun r_17 => gd (vp_in r_17 411) (if ((r 0) - (r r_17.toNatClampNeg)) < (r 7) then (j147 0) else (j142 ()))))) = some r2 ∧
    Ev v n t s2 c2 p l f pk w2 r2 ∧ Iv n t s2 c2 p l f w2 ∧ c2 ≤ c + 1 ∧ s2 ≤ s + 1 ∧ c2 ≤ 72 := by
  have h12 := hi.n12
  have hpp := hi.ordP.pn
  have hll := hi.ordL.pn
  rw [isDueToAsk_e h ho h12]
  simp (disch := omega) only [bd_s, jn_e, ag6, ag2, gdn, cl, bs_e, h.tick, h.tickr, ← h.retry, ← h.how]
  by_cases e1 : w 11 o = 1
  · have ha := h.asked o ho (by rw [e1]; decide)
    rw [← ha]
    by_cases e2 : w 15 o = -1 ∨ ¬ nI t - w 15 o < w 3 0
    · obtain ⟨w2, r2, c2, g1, g2, g3, g4, g5, g6, g7, g8, g9, g10⟩ := send_e (kd := 0) (x := -1) hp (as_ev h ho h12 (by omega) (by omega)) (as_iv (o := o) hi) (by omega) ho hc hs (by omega)
      have hr := g10 r (fun i hi2 => by rw [upd_n (by omega)])
      rw [k0] at g1 hr
      refine ⟨w2, r2, s + 1, c2, ?_, ?_, g3, g4, by omega, by omega, by omega⟩
      · rw [if_pos (show w 11 o = 1 ∧ (w 15 o = -1 ∨ ¬ nI t - w 15 o < w 3 0) from ⟨e1, e2⟩), if_neg (show ¬ (1 : Int32) = 0 by decide)]
        show bd (qX8_send v (asW w o t) 0 (nI o) (-1)) (fun w_8 => some w_8) = _
        rw [g1, bd_s]
      · simp only [e1, if_true, hr, bd_s]
        have hmx : upd (mix r r2) (51 + 12 * o + 6) ((mix r r2) 0) = r2 := by
          funext i
          rw [upd_apply']
          unfold mix
          by_cases e3 : i = 51 + 12 * o + 6
          · rw [if_pos e3, g8 i (by omega) (by omega), e3, upd_s, if_neg (by omega), g9.1, upd_n (by omega), h.tickr]
          · rw [if_neg e3]
            split
            · rw [g8 i (by omega) (by omega), upd_n e3]
            · rfl
        rw [hmx]
        rcases e2 with e2 | e2
        · rw [if_pos e2]
          rfl
        · rw [if_neg e2]
          split <;> rfl
    · refine ⟨w, r, s, c, ?_, ?_, h, hi, by omega, by omega, hi.cb⟩
      · rw [if_neg (show ¬ (w 11 o = 1 ∧ (w 15 o = -1 ∨ ¬ nI t - w 15 o < w 3 0)) from fun g => e2 g.2), if_pos rfl]
      · have e3 : ¬ w 15 o = -1 := fun g => e2 (Or.inl g)
        have e4 : nI t - w 15 o < w 3 0 := by
          rcases Classical.em (nI t - w 15 o < w 3 0) with g | g
          · exact g
          · exact absurd (Or.inr g) e2
        rw [if_neg e3, if_pos e4, if_pos e1]
        rfl
  · refine ⟨w, r, s, c, ?_, ?_, h, hi, by omega, by omega, hi.cb⟩
    · rw [if_neg (show ¬ (w 11 o = 1 ∧ (w 15 o = -1 ∨ ¬ nI t - w 15 o < w 3 0)) from fun g => e1 g.1), if_pos rfl]
    · simp only [if_neg e1]
      split
      · rfl
      · split <;> rfl
theorem bd_g {α γ : Type} {x : Option α} {y : α} (h : x = some y) (F : α → Option γ) : bd x F = F y := by rw [h]; rfl
theorem act_e {v : Nat → Nat → Int32} {z : Nat → Nat → Int32} {w : Nat → Nat → Int32} {r : Nat → Int32} {n : Nat} {t : Nat} {s : Nat} {c : Nat} {p : Nat} {l : Nat} {f : Nat} {o : Nat} {pk : Int32 × Int32} (hp : Pl v z n) (h : Ev v n t s c p l f pk w r) (hi : Iv n t s c p l f w) (ho : o < n) (hc : c + 4 ≤ 72) (hs : s + 4 ≤ 72 * t + 72) : ∃ w2 r2 s2 c2, qX9_letOutletAct v w (nI o) = some w2 ∧ qX11_acts z r (nI o) = some r2 ∧
    Ev v n t s2 c2 p l f pk w2 r2 ∧ Iv n t s2 c2 p l f w2 ∧ c2 ≤ c + 4 ∧ s2 ≤ s + 4 := by
  have h12 := hi.n12
  obtain ⟨w3, r3, s3, c3, a1, a2, a3, a4, a5, a6, a7⟩ := stA (ρ := Nat → Nat → Int32) (π := Nat → Int32) hp h hi ho (by omega) (by omega)
  obtain ⟨w4, r4, s4, c4, b1, b2, b3, b4, b5, b6, b7⟩ := stB (ρ := Nat → Nat → Int32) (π := Nat → Int32) hp a3 a4 ho (by omega) (by omega)
  obtain ⟨w5, r5, s5, c5, d1, d2, d3, d4, d5, d6, d7⟩ := stC (ρ := Nat → Nat → Int32) (π := Nat → Int32) hp b3 b4 ho (by omega) (by omega)
  obtain ⟨w6, r6, s6, c6, f1, f2, f3, f4, f5, f6, f7⟩ := stD hp d3 d4 ho (by omega) (by omega)
  refine ⟨w6, r6, s6, c6, ?_, ?_, f3, f4, by omega, by omega⟩
  · unfold qX9_letOutletAct
    rw [gdn (by omega) (by omega)]
    refine (a1 _).trans ?_
    refine (b1 _).trans ?_
    refine (d1 _).trans ?_
    exact f1
  · unfold qX11_acts
    refine (bd_g (ag2 o) _).trans ?_
    refine (gdn (by omega) (by omega) _).trans ?_
    refine (a2 _).trans ?_
    refine (b2 _).trans ?_
    refine (d2 _).trans ?_
    refine (bd_g (ag7 o) _).trans ?_
    refine (gdn (by omega) (by omega) _).trans ?_
    rw [cl (i := 51 + 12 * o + 7) (by omega)]
    refine (bs_e _ _).trans ?_
    refine (bd_g (ag8 o) _).trans ?_
    refine (gdn (by omega) (by omega) _).trans ?_
    rw [cl (i := 51 + 12 * o + 8) (by omega)]
    exact f2
theorem acts_all {v : Nat → Nat → Int32} {z : Nat → Nat → Int32} {w : Nat → Nat → Int32} {r : Nat → Int32} {n : Nat} {t : Nat} {s : Nat} {c : Nat} {p : Nat} {l : Nat} {f : Nat} {pk : Int32 × Int32} (K1 : (Nat → Nat → Int32) → Option (Nat → Nat → Int32)) (K2 : (Nat → Int32) → Option (Int32 × (Nat → Int32))) (hp : Pl v z n) (h : Ev v n t s c p l f pk w r) (hi : Iv n t s c p l f w) (hc : c = 0) (hs : s ≤ 72 * t) : ∃ w2 r2 s2 c2, qX9_passTick_L83 v K1 fu 0 w = K1 w2 ∧
    qX11_ticks_L104 z K2 fu 0 r = K2 r2 ∧ Ev v n t s2 c2 p l f pk w2 r2 ∧ Iv n t s2 c2 p l f w2 ∧ c2 ≤ 4 * n ∧ s2 ≤ 72 * t + 4 * n := by
  have h12 := hi.n12
  have := lpp (L1 := fun g i w => qX9_passTick_L83 v K1 g i w) (L2 := fun g i r => qX11_ticks_L104 z K2 g i r) (K1 := K1) (K2 := K2) (N := n)
    (fun k w r => ∃ s2 c2, Ev v n t s2 c2 p l f pk w r ∧ Iv n t s2 c2 p l f w ∧ c2 ≤ 4 * k ∧ s2 ≤ 72 * t + 4 * k) (by
      intro k w r hk ⟨s2, c2, h1, h2, h3, h4⟩
      obtain ⟨w2, r2, s3, c3, a1, a2, a3, a4, a5, a6⟩ := act_e hp h1 h2 hk (by omega) (by omega)
      refine ⟨w2, r2, fun g => ?_, fun g => ?_, s3, c3, a3, a4, by omega, by omega⟩
      · show qX9_passTick_L83 v K1 (g + 1) (nI k) w = _
        rw [qX9_passTick_L83, hp.v0, if_neg (nle hk (by omega)), a1, bd_s, p1]
      · show qX11_ticks_L104 z K2 (g + 1) (nI k) r = _
        rw [qX11_ticks_L104, hp.z1, if_neg (nle hk (by omega)), a2, bd_s, p1]) (by
      intro g w r _
      constructor
      · show qX9_passTick_L83 v K1 (g + 1) (nI n) w = _
        rw [qX9_passTick_L83, hp.v0, if_pos (Int32.le_refl _)]
      · show qX11_ticks_L104 z K2 (g + 1) (nI n) r = _
        rw [qX11_ticks_L104, hp.z1, if_pos (Int32.le_refl _)]) n fu fu 0 w r (by omega) (by unfold fu; omega) (by unfold fu; omega) ⟨s, c, h, hi, by omega, by omega⟩
  obtain ⟨w2, r2, a1, a2, s2, c2, a3, a4, a5, a6⟩ := this
  exact ⟨w2, r2, s2, c2, a1, a2, a3, a4, a5, a6⟩
