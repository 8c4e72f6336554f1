-- messages are received, on both sides
theorem ne01 : (((0 : Int32) = 1) = False) := eq_false (by decide)
theorem ne02 : (((0 : Int32) = 2) = False) := eq_false (by decide)
theorem ne03 : (((0 : Int32) = 3) = False) := eq_false (by decide)
theorem ne04 : (((0 : Int32) = 4) = False) := eq_false (by decide)
theorem ne05 : (((0 : Int32) = 5) = False) := eq_false (by decide)
theorem ne10 : (((1 : Int32) = 0) = False) := eq_false (by decide)
theorem ne12 : (((1 : Int32) = 2) = False) := eq_false (by decide)
theorem ne13 : (((1 : Int32) = 3) = False) := eq_false (by decide)
theorem ne14 : (((1 : Int32) = 4) = False) := eq_false (by decide)
theorem ne15 : (((1 : Int32) = 5) = False) := eq_false (by decide)
theorem ne20 : (((2 : Int32) = 0) = False) := eq_false (by decide)
theorem ne21 : (((2 : Int32) = 1) = False) := eq_false (by decide)
theorem ne23 : (((2 : Int32) = 3) = False) := eq_false (by decide)
theorem ne24 : (((2 : Int32) = 4) = False) := eq_false (by decide)
theorem ne25 : (((2 : Int32) = 5) = False) := eq_false (by decide)
theorem ne30 : (((3 : Int32) = 0) = False) := eq_false (by decide)
theorem ne31 : (((3 : Int32) = 1) = False) := eq_false (by decide)
theorem ne32 : (((3 : Int32) = 2) = False) := eq_false (by decide)
theorem ne34 : (((3 : Int32) = 4) = False) := eq_false (by decide)
theorem ne35 : (((3 : Int32) = 5) = False) := eq_false (by decide)
theorem ne40 : (((4 : Int32) = 0) = False) := eq_false (by decide)
theorem ne41 : (((4 : Int32) = 1) = False) := eq_false (by decide)
theorem ne42 : (((4 : Int32) = 2) = False) := eq_false (by decide)
theorem ne43 : (((4 : Int32) = 3) = False) := eq_false (by decide)
theorem ne45 : (((4 : Int32) = 5) = False) := eq_false (by decide)
theorem ne50 : (((5 : Int32) = 0) = False) := eq_false (by decide)
theorem ne51 : (((5 : Int32) = 1) = False) := eq_false (by decide)
theorem ne52 : (((5 : Int32) = 2) = False) := eq_false (by decide)
theorem ne53 : (((5 : Int32) = 3) = False) := eq_false (by decide)
theorem ne54 : (((5 : Int32) = 4) = False) := eq_false (by decide)
def hrW (v w : Nat → Nat → Int32) (o t : Nat) : Nat → Nat → Int32 := va_up (va_up (smW w o 3 t) 20 (upd (w 20) o (v 11 o))) 21 (fun _ => w 21 0 ||| (1 <<< (nI o &&& 31)))
def hrR (r : Nat → Int32) (o t : Nat) : Nat → Int32 := upd (smR r o 3 t) (51 + 12 * o + 11) 1
def adW (w : Nat → Nat → Int32) (o p : Nat) : Nat → Nat → Int32 := va_up (va_up (va_up w 25 (upd (w 25) p (nI o))) 26 (upd (w 26) o (nI p))) 27 (fun _ => nI (p + 1))
def adR (r : Nat → Int32) (o p : Nat) : Nat → Int32 := upd (upd r (27 + p) (nI o)) 12 (nI (p + 1))
def hgW (v w : Nat → Nat → Int32) (o : Nat) : Nat → Nat → Int32 := va_up (va_up (va_up w 11 (upd (w 11) o 2)) 12 (upd (w 12) o (v 12 o))) 13 (upd (w 13) o (w 13 o + 1))
def hgR (v : Nat → Nat → Int32) (r : Nat → Int32) (o : Nat) : Nat → Int32 := upd (upd (upd r (51 + 12 * o + 2) 2) (51 + 12 * o + 3) (v 12 o)) (51 + 12 * o + 4) (r (51 + 12 * o + 4) + 1)
def hpW (w : Nat → Nat → Int32) (o : Nat) : Nat → Nat → Int32 := va_up w 17 (fun _ => w 17 0 ||| (1 <<< (nI o &&& 31)))
def hpR (r : Nat → Int32) (o : Nat) : Nat → Int32 := upd r (51 + 12 * o + 8) 1
def tmW (w : Nat → Nat → Int32) (o t : Nat) : Nat → Nat → Int32 := va_up w 19 (upd (w 19) o (nI t))
def tmR (r : Nat → Int32) (o t : Nat) : Nat → Int32 := upd r (51 + 12 * o + 10) (nI t)
theorem b01_s {x : Int32} {o : Nat} (ho : o < 32) : b01 (x ||| (1 <<< (nI o &&& 31))) o = 1 := by rw [b01_set x ho ho, if_pos rfl]
theorem b01_so {x : Int32} {o k : Nat} (ho : o < 32) (hk : k < 32) (e : k ≠ o) : b01 (x ||| (1 <<< (nI o &&& 31))) k = b01 x k := by rw [b01_set x ho hk, if_neg e]
theorem bt_s {x : Int32} {o : Nat} (ho : o < 32) : bt (x ||| (1 <<< (nI o &&& 31))) o = true := b01_1.mp (b01_s ho)
theorem bt_so {x : Int32} {o k : Nat} (ho : o < 32) (hk : k < 32) (e : k ≠ o) : bt (x ||| (1 <<< (nI o &&& 31))) k = bt x k := by rw [b_set x ho hk, decide_eq_false e, Bool.or_false]
theorem hr_ev {v : Nat → Nat → Int32} {w : Nat → Nat → Int32} {r : Nat → Int32} {n : Nat} {t : Nat} {s : Nat} {c : Nat} {p : Nat} {l : Nat} {f : Nat} {o : Nat} {pk : Int32 × Int32} (h : Ev v n t s c p l f pk w r) (ho6 : o < n) (h12 : n ≤ 12) (hpp : p ≤ 12) (hll : l ≤ 12) : Ev v n t s c p l f pk (hrW v w o t) (hrR r o t) :=
  ⟨(by first | exact h.tick | (simp (disch := omega) only [hrW, hrR, smW, smR, va_n, va_s, upd_n, upd_s]; exact h.tick) | (simp (disch := omega) only [hrW, hrR, smW, smR, va_n, va_s, upd_n, upd_s]; done)),
    (by first | exact h.tickr | (simp (disch := omega) only [hrW, hrR, smW, smR, va_n, va_s, upd_n, upd_s]; exact h.tickr) | (simp (disch := omega) only [hrW, hrR, smW, smR, va_n, va_s, upd_n, upd_s]; done)),
    (by first | exact h.dark | (simp (disch := omega) only [hrW, hrR, smW, smR, va_n, va_s, upd_n, upd_s]; exact h.dark) | (simp (disch := omega) only [hrW, hrR, smW, smR, va_n, va_s, upd_n, upd_s]; done)),
    (by first | exact h.fuse | (simp (disch := omega) only [hrW, hrR, smW, smR, va_n, va_s, upd_n, upd_s]; exact h.fuse) | (simp (disch := omega) only [hrW, hrR, smW, smR, va_n, va_s, upd_n, upd_s]; done)),
    (by first | exact h.fuser | (simp (disch := omega) only [hrW, hrR, smW, smR, va_n, va_s, upd_n, upd_s]; exact h.fuser) | (simp (disch := omega) only [hrW, hrR, smW, smR, va_n, va_s, upd_n, upd_s]; done)),
    (by first | exact h.retry | (simp (disch := omega) only [hrW, hrR, smW, smR, va_n, va_s, upd_n, upd_s]; exact h.retry) | (simp (disch := omega) only [hrW, hrR, smW, smR, va_n, va_s, upd_n, upd_s]; done)),
    (by first | exact h.strict | (simp (disch := omega) only [hrW, hrR, smW, smR, va_n, va_s, upd_n, upd_s]; exact h.strict) | (simp (disch := omega) only [hrW, hrR, smW, smR, va_n, va_s, upd_n, upd_s]; done)),
    (by first | exact h.blk | (simp (disch := omega) only [hrW, hrR, smW, smR, va_n, va_s, upd_n, upd_s]; exact h.blk) | (simp (disch := omega) only [hrW, hrR, smW, smR, va_n, va_s, upd_n, upd_s]; done)),
    (by first | exact h.trips | (simp (disch := omega) only [hrW, hrR, smW, smR, va_n, va_s, upd_n, upd_s]; exact h.trips) | (simp (disch := omega) only [hrW, hrR, smW, smR, va_n, va_s, upd_n, upd_s]; done)),
    (by first | exact h.peak | (simp (disch := omega) only [hrW, hrR, smW, smR, va_n, va_s, upd_n, upd_s]; exact h.peak) | (simp (disch := omega) only [hrW, hrR, smW, smR, va_n, va_s, upd_n, upd_s]; done)),
    (by first | exact h.peakr | (simp (disch := omega) only [hrW, hrR, smW, smR, va_n, va_s, upd_n, upd_s]; exact h.peakr) | (simp (disch := omega) only [hrW, hrR, smW, smR, va_n, va_s, upd_n, upd_s]; done)),
    (by first | exact h.pat | (simp (disch := omega) only [hrW, hrR, smW, smR, va_n, va_s, upd_n, upd_s]; exact h.pat) | (simp (disch := omega) only [hrW, hrR, smW, smR, va_n, va_s, upd_n, upd_s]; done)),
    (by first | exact h.wait | (simp (disch := omega) only [hrW, hrR, smW, smR, va_n, va_s, upd_n, upd_s]; exact h.wait) | (simp (disch := omega) only [hrW, hrR, smW, smR, va_n, va_s, upd_n, upd_s]; done)),
    (by first | exact h.waitr | (simp (disch := omega) only [hrW, hrR, smW, smR, va_n, va_s, upd_n, upd_s]; exact h.waitr) | (simp (disch := omega) only [hrW, hrR, smW, smR, va_n, va_s, upd_n, upd_s]; done)),
    (by first | exact h.sent | (simp (disch := omega) only [hrW, hrR, smW, smR, va_n, va_s, upd_n, upd_s]; exact h.sent) | (simp (disch := omega) only [hrW, hrR, smW, smR, va_n, va_s, upd_n, upd_s]; done)),
    (by first | exact h.sentr | (simp (disch := omega) only [hrW, hrR, smW, smR, va_n, va_s, upd_n, upd_s]; exact h.sentr) | (simp (disch := omega) only [hrW, hrR, smW, smR, va_n, va_s, upd_n, upd_s]; done)),
    (by first | exact h.clear | (simp (disch := omega) only [hrW, hrR, smW, smR, va_n, va_s, upd_n, upd_s]; exact h.clear) | (simp (disch := omega) only [hrW, hrR, smW, smR, va_n, va_s, upd_n, upd_s]; done)),
    (by first | exact h.pm | (simp (disch := omega) only [hrW, hrR, smW, smR, va_n, va_s, upd_n, upd_s]; exact h.pm) | (simp (disch := omega) only [hrW, hrR, smW, smR, va_n, va_s, upd_n, upd_s]; done)),
    (by first | exact h.pmr | (simp (disch := omega) only [hrW, hrR, smW, smR, va_n, va_s, upd_n, upd_s]; exact h.pmr) | (simp (disch := omega) only [hrW, hrR, smW, smR, va_n, va_s, upd_n, upd_s]; done)),
    (by first | exact h.lm | (simp (disch := omega) only [hrW, hrR, smW, smR, va_n, va_s, upd_n, upd_s]; exact h.lm) | (simp (disch := omega) only [hrW, hrR, smW, smR, va_n, va_s, upd_n, upd_s]; done)),
    (by first | exact h.lmr | (simp (disch := omega) only [hrW, hrR, smW, smR, va_n, va_s, upd_n, upd_s]; exact h.lmr) | (simp (disch := omega) only [hrW, hrR, smW, smR, va_n, va_s, upd_n, upd_s]; done)),
    (by first | exact h.lost | (simp (disch := omega) only [hrW, hrR, smW, smR, va_n, va_s, upd_n, upd_s]; exact h.lost) | (simp (disch := omega) only [hrW, hrR, smW, smR, va_n, va_s, upd_n, upd_s]; done)),
    (fun k hk => by first | exact h.sby k hk | (simp (disch := omega) only [hrW, hrR, smW, smR, va_n, va_s, upd_n, upd_s]; exact h.sby k (by omega))),
    (fun k hk => by first | exact h.lby k hk | (simp (disch := omega) only [hrW, hrR, smW, smR, va_n, va_s, upd_n, upd_s]; exact h.lby k (by omega))),
    (fun o ho => by first | exact h.prio o ho | (simp (disch := omega) only [hrW, hrR, smW, smR, va_n, va_s, upd_n, upd_s]; exact h.prio o ho)),
    (fun o ho => by first | exact h.wants o ho | (simp (disch := omega) only [hrW, hrR, smW, smR, va_n, va_s, upd_n, upd_s]; exact h.wants o ho)),
    (fun o ho => by first | exact h.how o ho | (simp (disch := omega) only [hrW, hrR, smW, smR, va_n, va_s, upd_n, upd_s]; exact h.how o ho)),
    (fun o ho => by first | exact h.left o ho | (simp (disch := omega) only [hrW, hrR, smW, smR, va_n, va_s, upd_n, upd_s]; exact h.left o ho)),
    (fun o ho => by first | exact h.starts o ho | (simp (disch := omega) only [hrW, hrR, smW, smR, va_n, va_s, upd_n, upd_s]; exact h.starts o ho)),
    (fun o ho => by first | exact h.ran o ho | (simp (disch := omega) only [hrW, hrR, smW, smR, va_n, va_s, upd_n, upd_s]; exact h.ran o ho)),
    (fun o ho hw => by first | exact h.asked o ho hw | (simp (disch := omega) only [hrW, hrR, smW, smR, va_n, va_s, upd_n, upd_s] at hw ⊢; exact h.asked o ho hw) | (simp (disch := omega) only [hrW, hrR, smW, smR, va_n, va_s, upd_n, upd_s]; exact h.asked o ho hw)),
    (fun o ho => by first | exact h.stop o ho | (simp (disch := omega) only [hrW, hrR, smW, smR, va_n, va_s, upd_n, upd_s]; exact h.stop o ho)),
    (fun o ho => by first | exact h.poll o ho | (simp (disch := omega) only [hrW, hrR, smW, smR, va_n, va_s, upd_n, upd_s]; exact h.poll o ho)),
    (fun k hk => by
      by_cases e : k = o
      · subst e
        simp (disch := omega) only [hrW, hrR, smW, smR, va_n, va_s, upd_n, upd_s]
      · simp (disch := omega) only [hrW, hrR, smW, smR, va_n, va_s, upd_n, upd_s]
        exact h.mark k hk),
    (fun k hk => by
      by_cases e : k = o
      · subst e
        simp (disch := omega) only [hrW, hrR, smW, smR, va_n, va_s, upd_n, upd_s]
      · simp (disch := omega) only [hrW, hrR, smW, smR, va_n, va_s, upd_n, upd_s]
        exact h.time k hk),
    (fun k hk => by
      by_cases e : k = o
      · subst e
        simp (disch := omega) only [hrW, hrR, smW, smR, va_n, va_s, upd_n, upd_s]
        rw [b01_s (by omega)]
      · simp (disch := omega) only [hrW, hrR, smW, smR, va_n, va_s, upd_n, upd_s]
        rw [b01_so (by omega) (by omega) e]
        exact h.known k hk),
    (fun k hk => by
      by_cases e : k = o
      · subst e
        simp (disch := omega) only [hrW, hrR, smW, smR, va_n, va_s, upd_n, upd_s]
        rw [if_pos (bt_s (by omega))]
      · simp (disch := omega) only [hrW, hrR, smW, smR, va_n, va_s, upd_n, upd_s]
        rw [bt_so (by omega) (by omega) e]
        exact h.exp k hk),
    (fun o ho1 ho2 => by first | exact h.knz o ho1 ho2 | (simp (disch := omega) only [hrW, hrR, smW, smR, va_n, va_s, upd_n, upd_s]; exact h.knz o ho1 ho2)),
    (fun k hk => by first | exact h.msg k hk | (simp (disch := omega) only [hrW, hrR, smW, smR, va_n, va_s, upd_n, upd_s]; exact h.msg k (by omega))),
    (fun k hk => by first | exact h.pres k hk | (simp (disch := omega) only [hrW, hrR, smW, smR, va_n, va_s, upd_n, upd_s]; exact h.pres k (by omega))),
    (fun k hk => by first | exact h.lear k hk | (simp (disch := omega) only [hrW, hrR, smW, smR, va_n, va_s, upd_n, upd_s]; exact h.lear k (by omega)))⟩
theorem hr_iv {v : Nat → Nat → Int32} {w : Nat → Nat → Int32} {n : Nat} {t : Nat} {s : Nat} {c : Nat} {p : Nat} {l : Nat} {f : Nat} {o : Nat} (hi : Iv n t s c p l f w) (ho6 : o < n) : Iv n t s c p l f (hrW v w o t) := by
  have h12 := hi.n12
  exact ⟨(by first | exact hi.n12 | (simp (disch := omega) only [hrW, hrR, smW, smR, va_n, va_s, upd_n, upd_s]; exact hi.n12) | (have := hi.n12; omega)),
    (by first | exact hi.tb | (simp (disch := omega) only [hrW, hrR, smW, smR, va_n, va_s, upd_n, upd_s]; exact hi.tb) | (have := hi.tb; omega)),
    (by first | exact hi.sb | (simp (disch := omega) only [hrW, hrR, smW, smR, va_n, va_s, upd_n, upd_s]; exact hi.sb) | (have := hi.sb; omega)),
    (by first | exact hi.cb | (simp (disch := omega) only [hrW, hrR, smW, smR, va_n, va_s, upd_n, upd_s]; exact hi.cb) | (have := hi.cb; omega)),
    (by first | exact hi.fb | (simp (disch := omega) only [hrW, hrR, smW, smR, va_n, va_s, upd_n, upd_s]; exact hi.fb) | (have := hi.fb; omega)),
    (fun o ho => by first | exact hi.st o ho | (simp (disch := omega) only [hrW, hrR, smW, smR, va_n, va_s, upd_n, upd_s]; exact hi.st o ho)),
    (fun k hk => by
      by_cases e : k = o
      · subst e
        simp (disch := omega) only [hrW, hrR, smW, smR, va_n, va_s, upd_n, upd_s]
        exact Or.inr (Or.inr (Or.inr trivial))
      · simp (disch := omega) only [hrW, hrR, smW, smR, va_n, va_s, upd_n, upd_s]
        exact hi.mk k hk),
    (fun o ho hw => by first | exact hi.idle o ho hw | (simp (disch := omega) only [hrW, hrR, smW, smR, va_n, va_s, upd_n, upd_s] at hw ⊢; exact hi.idle o ho hw) | (simp (disch := omega) only [hrW, hrR, smW, smR, va_n, va_s, upd_n, upd_s]; exact hi.idle o ho hw)),
    (by first | exact hi.s01 | (simp (disch := omega) only [hrW, hrR, smW, smR, va_n, va_s, upd_n, upd_s]; exact hi.s01) | (have := hi.s01; omega)),
    (by first | exact hi.c01 | (simp (disch := omega) only [hrW, hrR, smW, smR, va_n, va_s, upd_n, upd_s]; exact hi.c01) | (have := hi.c01; omega)),
    (fun k hk => by first | exact hi.msg k hk | (simp (disch := omega) only [hrW, hrR, smW, smR, va_n, va_s, upd_n, upd_s]; exact hi.msg k hk)),
    (by first | exact hi.ordP | (simp (disch := omega) only [hrW, hrR, smW, smR, va_n, va_s, upd_n, upd_s]; exact hi.ordP)),
    (by first | exact hi.ordL | (simp (disch := omega) only [hrW, hrR, smW, smR, va_n, va_s, upd_n, upd_s]; exact hi.ordL)),
    (fun k h1 h2 => by
      simp (disch := omega) only [hrW, hrR, smW, smR, va_n, va_s, upd_n, upd_s]
      rw [bt_so (by omega) (by omega) (by omega)]
      exact hi.kn k h1 h2)⟩
theorem ad_ev {v : Nat → Nat → Int32} {w : Nat → Nat → Int32} {r : Nat → Int32} {n : Nat} {t : Nat} {s : Nat} {c : Nat} {p : Nat} {l : Nat} {f : Nat} {o : Nat} {pk : Int32 × Int32} (h : Ev v n t s c p l f pk w r) (ho6 : o < n) (h12 : n ≤ 12) (hpp : p ≤ 12) (hll : l ≤ 12) (hp1 : p < 12) : Ev v n t s c (p + 1) l f pk (adW w o p) (adR r o p) :=
  ⟨(by first | exact h.tick | (simp (disch := omega) only [adW, adR, va_n, va_s, upd_n, upd_s]; exact h.tick) | (simp (disch := omega) only [adW, adR, va_n, va_s, upd_n, upd_s]; done)),
    (by first | exact h.tickr | (simp (disch := omega) only [adW, adR, va_n, va_s, upd_n, upd_s]; exact h.tickr) | (simp (disch := omega) only [adW, adR, va_n, va_s, upd_n, upd_s]; done)),
    (by first | exact h.dark | (simp (disch := omega) only [adW, adR, va_n, va_s, upd_n, upd_s]; exact h.dark) | (simp (disch := omega) only [adW, adR, va_n, va_s, upd_n, upd_s]; done)),
    (by first | exact h.fuse | (simp (disch := omega) only [adW, adR, va_n, va_s, upd_n, upd_s]; exact h.fuse) | (simp (disch := omega) only [adW, adR, va_n, va_s, upd_n, upd_s]; done)),
    (by first | exact h.fuser | (simp (disch := omega) only [adW, adR, va_n, va_s, upd_n, upd_s]; exact h.fuser) | (simp (disch := omega) only [adW, adR, va_n, va_s, upd_n, upd_s]; done)),
    (by first | exact h.retry | (simp (disch := omega) only [adW, adR, va_n, va_s, upd_n, upd_s]; exact h.retry) | (simp (disch := omega) only [adW, adR, va_n, va_s, upd_n, upd_s]; done)),
    (by first | exact h.strict | (simp (disch := omega) only [adW, adR, va_n, va_s, upd_n, upd_s]; exact h.strict) | (simp (disch := omega) only [adW, adR, va_n, va_s, upd_n, upd_s]; done)),
    (by first | exact h.blk | (simp (disch := omega) only [adW, adR, va_n, va_s, upd_n, upd_s]; exact h.blk) | (simp (disch := omega) only [adW, adR, va_n, va_s, upd_n, upd_s]; done)),
    (by first | exact h.trips | (simp (disch := omega) only [adW, adR, va_n, va_s, upd_n, upd_s]; exact h.trips) | (simp (disch := omega) only [adW, adR, va_n, va_s, upd_n, upd_s]; done)),
    (by first | exact h.peak | (simp (disch := omega) only [adW, adR, va_n, va_s, upd_n, upd_s]; exact h.peak) | (simp (disch := omega) only [adW, adR, va_n, va_s, upd_n, upd_s]; done)),
    (by first | exact h.peakr | (simp (disch := omega) only [adW, adR, va_n, va_s, upd_n, upd_s]; exact h.peakr) | (simp (disch := omega) only [adW, adR, va_n, va_s, upd_n, upd_s]; done)),
    (by first | exact h.pat | (simp (disch := omega) only [adW, adR, va_n, va_s, upd_n, upd_s]; exact h.pat) | (simp (disch := omega) only [adW, adR, va_n, va_s, upd_n, upd_s]; done)),
    (by first | exact h.wait | (simp (disch := omega) only [adW, adR, va_n, va_s, upd_n, upd_s]; exact h.wait) | (simp (disch := omega) only [adW, adR, va_n, va_s, upd_n, upd_s]; done)),
    (by first | exact h.waitr | (simp (disch := omega) only [adW, adR, va_n, va_s, upd_n, upd_s]; exact h.waitr) | (simp (disch := omega) only [adW, adR, va_n, va_s, upd_n, upd_s]; done)),
    (by first | exact h.sent | (simp (disch := omega) only [adW, adR, va_n, va_s, upd_n, upd_s]; exact h.sent) | (simp (disch := omega) only [adW, adR, va_n, va_s, upd_n, upd_s]; done)),
    (by first | exact h.sentr | (simp (disch := omega) only [adW, adR, va_n, va_s, upd_n, upd_s]; exact h.sentr) | (simp (disch := omega) only [adW, adR, va_n, va_s, upd_n, upd_s]; done)),
    (by first | exact h.clear | (simp (disch := omega) only [adW, adR, va_n, va_s, upd_n, upd_s]; exact h.clear) | (simp (disch := omega) only [adW, adR, va_n, va_s, upd_n, upd_s]; done)),
    (by simp (disch := omega) only [adW, adR, va_n, va_s, upd_n, upd_s]),
    (by simp (disch := omega) only [adW, adR, va_n, va_s, upd_n, upd_s]),
    (by first | exact h.lm | (simp (disch := omega) only [adW, adR, va_n, va_s, upd_n, upd_s]; exact h.lm) | (simp (disch := omega) only [adW, adR, va_n, va_s, upd_n, upd_s]; done)),
    (by first | exact h.lmr | (simp (disch := omega) only [adW, adR, va_n, va_s, upd_n, upd_s]; exact h.lmr) | (simp (disch := omega) only [adW, adR, va_n, va_s, upd_n, upd_s]; done)),
    (by first | exact h.lost | (simp (disch := omega) only [adW, adR, va_n, va_s, upd_n, upd_s]; exact h.lost) | (simp (disch := omega) only [adW, adR, va_n, va_s, upd_n, upd_s]; done)),
    (fun k hk => by first | exact h.sby k hk | (simp (disch := omega) only [adW, adR, va_n, va_s, upd_n, upd_s]; exact h.sby k (by omega))),
    (fun k hk => by first | exact h.lby k hk | (simp (disch := omega) only [adW, adR, va_n, va_s, upd_n, upd_s]; exact h.lby k (by omega))),
    (fun o ho => by first | exact h.prio o ho | (simp (disch := omega) only [adW, adR, va_n, va_s, upd_n, upd_s]; exact h.prio o ho)),
    (fun o ho => by first | exact h.wants o ho | (simp (disch := omega) only [adW, adR, va_n, va_s, upd_n, upd_s]; exact h.wants o ho)),
    (fun o ho => by first | exact h.how o ho | (simp (disch := omega) only [adW, adR, va_n, va_s, upd_n, upd_s]; exact h.how o ho)),
    (fun o ho => by first | exact h.left o ho | (simp (disch := omega) only [adW, adR, va_n, va_s, upd_n, upd_s]; exact h.left o ho)),
    (fun o ho => by first | exact h.starts o ho | (simp (disch := omega) only [adW, adR, va_n, va_s, upd_n, upd_s]; exact h.starts o ho)),
    (fun o ho => by first | exact h.ran o ho | (simp (disch := omega) only [adW, adR, va_n, va_s, upd_n, upd_s]; exact h.ran o ho)),
    (fun o ho hw => by first | exact h.asked o ho hw | (simp (disch := omega) only [adW, adR, va_n, va_s, upd_n, upd_s] at hw ⊢; exact h.asked o ho hw) | (simp (disch := omega) only [adW, adR, va_n, va_s, upd_n, upd_s]; exact h.asked o ho hw)),
    (fun o ho => by first | exact h.stop o ho | (simp (disch := omega) only [adW, adR, va_n, va_s, upd_n, upd_s]; exact h.stop o ho)),
    (fun o ho => by first | exact h.poll o ho | (simp (disch := omega) only [adW, adR, va_n, va_s, upd_n, upd_s]; exact h.poll o ho)),
    (fun o ho => by first | exact h.mark o ho | (simp (disch := omega) only [adW, adR, va_n, va_s, upd_n, upd_s]; exact h.mark o ho)),
    (fun o ho => by first | exact h.time o ho | (simp (disch := omega) only [adW, adR, va_n, va_s, upd_n, upd_s]; exact h.time o ho)),
    (fun o ho => by first | exact h.known o ho | (simp (disch := omega) only [adW, adR, va_n, va_s, upd_n, upd_s]; exact h.known o ho)),
    (fun o ho => by first | exact h.exp o ho | (simp (disch := omega) only [adW, adR, va_n, va_s, upd_n, upd_s]; exact h.exp o ho)),
    (fun o ho1 ho2 => by first | exact h.knz o ho1 ho2 | (simp (disch := omega) only [adW, adR, va_n, va_s, upd_n, upd_s]; exact h.knz o ho1 ho2)),
    (fun k hk => by first | exact h.msg k hk | (simp (disch := omega) only [adW, adR, va_n, va_s, upd_n, upd_s]; exact h.msg k (by omega))),
    (fun k hk => by
      by_cases e : k = p
      · subst e
        simp (disch := omega) only [adW, adR, va_n, va_s, upd_n, upd_s]
      · simp (disch := omega) only [adW, adR, va_n, va_s, upd_n, upd_s]
        exact h.pres k (by omega)),
    (fun k hk => by first | exact h.lear k hk | (simp (disch := omega) only [adW, adR, va_n, va_s, upd_n, upd_s]; exact h.lear k (by omega)))⟩
theorem ad_iv {w : Nat → Nat → Int32} {n : Nat} {t : Nat} {s : Nat} {c : Nat} {p : Nat} {l : Nat} {f : Nat} {o : Nat} (hi : Iv n t s c p l f w) (ho6 : o < n) (hm : w 26 o = -1) : Iv n t s c (p + 1) l f (adW w o p) := by
  have h12 := hi.n12
  exact ⟨(by first | exact hi.n12 | (simp (disch := omega) only [adW, adR, va_n, va_s, upd_n, upd_s]; exact hi.n12) | (have := hi.n12; omega)),
    (by first | exact hi.tb | (simp (disch := omega) only [adW, adR, va_n, va_s, upd_n, upd_s]; exact hi.tb) | (have := hi.tb; omega)),
    (by first | exact hi.sb | (simp (disch := omega) only [adW, adR, va_n, va_s, upd_n, upd_s]; exact hi.sb) | (have := hi.sb; omega)),
    (by first | exact hi.cb | (simp (disch := omega) only [adW, adR, va_n, va_s, upd_n, upd_s]; exact hi.cb) | (have := hi.cb; omega)),
    (by first | exact hi.fb | (simp (disch := omega) only [adW, adR, va_n, va_s, upd_n, upd_s]; exact hi.fb) | (have := hi.fb; omega)),
    (fun o ho => by first | exact hi.st o ho | (simp (disch := omega) only [adW, adR, va_n, va_s, upd_n, upd_s]; exact hi.st o ho)),
    (fun o ho => by first | exact hi.mk o ho | (simp (disch := omega) only [adW, adR, va_n, va_s, upd_n, upd_s]; exact hi.mk o ho)),
    (fun o ho hw => by first | exact hi.idle o ho hw | (simp (disch := omega) only [adW, adR, va_n, va_s, upd_n, upd_s] at hw ⊢; exact hi.idle o ho hw) | (simp (disch := omega) only [adW, adR, va_n, va_s, upd_n, upd_s]; exact hi.idle o ho hw)),
    (by first | exact hi.s01 | (simp (disch := omega) only [adW, adR, va_n, va_s, upd_n, upd_s]; exact hi.s01) | (have := hi.s01; omega)),
    (by first | exact hi.c01 | (simp (disch := omega) only [adW, adR, va_n, va_s, upd_n, upd_s]; exact hi.c01) | (have := hi.c01; omega)),
    (fun k hk => by first | exact hi.msg k hk | (simp (disch := omega) only [adW, adR, va_n, va_s, upd_n, upd_s]; exact hi.msg k hk)),
    (by
      simp (disch := omega) only [adW, adR, va_n, va_s, upd_n, upd_s]
      exact ord_add hi.ordP ho6 h12 hm),
    (by first | exact hi.ordL | (simp (disch := omega) only [adW, adR, va_n, va_s, upd_n, upd_s]; exact hi.ordL)),
    (fun i h1 h2 => by first | exact hi.kn i h1 h2 | (simp (disch := omega) only [adW, adR, va_n, va_s, upd_n, upd_s]; exact hi.kn i h1 h2))⟩
theorem hg_ev {v : Nat → Nat → Int32} {w : Nat → Nat → Int32} {r : Nat → Int32} {n : Nat} {t : Nat} {s : Nat} {c : Nat} {p : Nat} {l : Nat} {f : Nat} {o : Nat} {pk : Int32 × Int32} (h : Ev v n t s c p l f pk w r) (ho6 : o < n) (h12 : n ≤ 12) (hpp : p ≤ 12) (hll : l ≤ 12) (h1 : w 11 o = 1) : Ev v n t s c p l f pk (hgW v w o) (hgR v r o) :=
  ⟨(by first | exact h.tick | (simp (disch := omega) only [hgW, hgR, va_n, va_s, upd_n, upd_s]; exact h.tick) | (simp (disch := omega) only [hgW, hgR, va_n, va_s, upd_n, upd_s]; done)),
    (by first | exact h.tickr | (simp (disch := omega) only [hgW, hgR, va_n, va_s, upd_n, upd_s]; exact h.tickr) | (simp (disch := omega) only [hgW, hgR, va_n, va_s, upd_n, upd_s]; done)),
    (by first | exact h.dark | (simp (disch := omega) only [hgW, hgR, va_n, va_s, upd_n, upd_s]; exact h.dark) | (simp (disch := omega) only [hgW, hgR, va_n, va_s, upd_n, upd_s]; done)),
    (by first | exact h.fuse | (simp (disch := omega) only [hgW, hgR, va_n, va_s, upd_n, upd_s]; exact h.fuse) | (simp (disch := omega) only [hgW, hgR, va_n, va_s, upd_n, upd_s]; done)),
    (by first | exact h.fuser | (simp (disch := omega) only [hgW, hgR, va_n, va_s, upd_n, upd_s]; exact h.fuser) | (simp (disch := omega) only [hgW, hgR, va_n, va_s, upd_n, upd_s]; done)),
    (by first | exact h.retry | (simp (disch := omega) only [hgW, hgR, va_n, va_s, upd_n, upd_s]; exact h.retry) | (simp (disch := omega) only [hgW, hgR, va_n, va_s, upd_n, upd_s]; done)),
    (by first | exact h.strict | (simp (disch := omega) only [hgW, hgR, va_n, va_s, upd_n, upd_s]; exact h.strict) | (simp (disch := omega) only [hgW, hgR, va_n, va_s, upd_n, upd_s]; done)),
    (by first | exact h.blk | (simp (disch := omega) only [hgW, hgR, va_n, va_s, upd_n, upd_s]; exact h.blk) | (simp (disch := omega) only [hgW, hgR, va_n, va_s, upd_n, upd_s]; done)),
    (by first | exact h.trips | (simp (disch := omega) only [hgW, hgR, va_n, va_s, upd_n, upd_s]; exact h.trips) | (simp (disch := omega) only [hgW, hgR, va_n, va_s, upd_n, upd_s]; done)),
    (by first | exact h.peak | (simp (disch := omega) only [hgW, hgR, va_n, va_s, upd_n, upd_s]; exact h.peak) | (simp (disch := omega) only [hgW, hgR, va_n, va_s, upd_n, upd_s]; done)),
    (by first | exact h.peakr | (simp (disch := omega) only [hgW, hgR, va_n, va_s, upd_n, upd_s]; exact h.peakr) | (simp (disch := omega) only [hgW, hgR, va_n, va_s, upd_n, upd_s]; done)),
    (by first | exact h.pat | (simp (disch := omega) only [hgW, hgR, va_n, va_s, upd_n, upd_s]; exact h.pat) | (simp (disch := omega) only [hgW, hgR, va_n, va_s, upd_n, upd_s]; done)),
    (by first | exact h.wait | (simp (disch := omega) only [hgW, hgR, va_n, va_s, upd_n, upd_s]; exact h.wait) | (simp (disch := omega) only [hgW, hgR, va_n, va_s, upd_n, upd_s]; done)),
    (by first | exact h.waitr | (simp (disch := omega) only [hgW, hgR, va_n, va_s, upd_n, upd_s]; exact h.waitr) | (simp (disch := omega) only [hgW, hgR, va_n, va_s, upd_n, upd_s]; done)),
    (by first | exact h.sent | (simp (disch := omega) only [hgW, hgR, va_n, va_s, upd_n, upd_s]; exact h.sent) | (simp (disch := omega) only [hgW, hgR, va_n, va_s, upd_n, upd_s]; done)),
    (by first | exact h.sentr | (simp (disch := omega) only [hgW, hgR, va_n, va_s, upd_n, upd_s]; exact h.sentr) | (simp (disch := omega) only [hgW, hgR, va_n, va_s, upd_n, upd_s]; done)),
    (by first | exact h.clear | (simp (disch := omega) only [hgW, hgR, va_n, va_s, upd_n, upd_s]; exact h.clear) | (simp (disch := omega) only [hgW, hgR, va_n, va_s, upd_n, upd_s]; done)),
    (by first | exact h.pm | (simp (disch := omega) only [hgW, hgR, va_n, va_s, upd_n, upd_s]; exact h.pm) | (simp (disch := omega) only [hgW, hgR, va_n, va_s, upd_n, upd_s]; done)),
    (by first | exact h.pmr | (simp (disch := omega) only [hgW, hgR, va_n, va_s, upd_n, upd_s]; exact h.pmr) | (simp (disch := omega) only [hgW, hgR, va_n, va_s, upd_n, upd_s]; done)),
    (by first | exact h.lm | (simp (disch := omega) only [hgW, hgR, va_n, va_s, upd_n, upd_s]; exact h.lm) | (simp (disch := omega) only [hgW, hgR, va_n, va_s, upd_n, upd_s]; done)),
    (by first | exact h.lmr | (simp (disch := omega) only [hgW, hgR, va_n, va_s, upd_n, upd_s]; exact h.lmr) | (simp (disch := omega) only [hgW, hgR, va_n, va_s, upd_n, upd_s]; done)),
    (by first | exact h.lost | (simp (disch := omega) only [hgW, hgR, va_n, va_s, upd_n, upd_s]; exact h.lost) | (simp (disch := omega) only [hgW, hgR, va_n, va_s, upd_n, upd_s]; done)),
    (fun k hk => by first | exact h.sby k hk | (simp (disch := omega) only [hgW, hgR, va_n, va_s, upd_n, upd_s]; exact h.sby k (by omega))),
    (fun k hk => by first | exact h.lby k hk | (simp (disch := omega) only [hgW, hgR, va_n, va_s, upd_n, upd_s]; exact h.lby k (by omega))),
    (fun o ho => by first | exact h.prio o ho | (simp (disch := omega) only [hgW, hgR, va_n, va_s, upd_n, upd_s]; exact h.prio o ho)),
    (fun k hk => by
      by_cases e : k = o
      · subst e
        simp (disch := omega) only [hgW, hgR, va_n, va_s, upd_n, upd_s]
        rw [h.wants _ hk, h1]
        rfl
      · simp (disch := omega) only [hgW, hgR, va_n, va_s, upd_n, upd_s]
        exact h.wants k hk),
    (fun k hk => by
      by_cases e : k = o
      · subst e
        simp (disch := omega) only [hgW, hgR, va_n, va_s, upd_n, upd_s]
      · simp (disch := omega) only [hgW, hgR, va_n, va_s, upd_n, upd_s]
        exact h.how k hk),
    (fun k hk => by
      by_cases e : k = o
      · subst e
        simp (disch := omega) only [hgW, hgR, va_n, va_s, upd_n, upd_s]
      · simp (disch := omega) only [hgW, hgR, va_n, va_s, upd_n, upd_s]
        exact h.left k hk),
    (fun k hk => by
      by_cases e : k = o
      · subst e
        simp (disch := omega) only [hgW, hgR, va_n, va_s, upd_n, upd_s]
        rw [h.starts _ hk]
      · simp (disch := omega) only [hgW, hgR, va_n, va_s, upd_n, upd_s]
        exact h.starts k hk),
    (fun o ho => by first | exact h.ran o ho | (simp (disch := omega) only [hgW, hgR, va_n, va_s, upd_n, upd_s]; exact h.ran o ho)),
    (fun k hk hw => by
      by_cases e : k = o
      · subst e
        simp (disch := omega) only [hgW, hgR, va_n, va_s, upd_n, upd_s]
        exact h.asked _ hk (by rw [h1]; decide)
      · simp (disch := omega) only [hgW, hgR, va_n, va_s, upd_n, upd_s] at hw ⊢
        exact h.asked k hk hw),
    (fun o ho => by first | exact h.stop o ho | (simp (disch := omega) only [hgW, hgR, va_n, va_s, upd_n, upd_s]; exact h.stop o ho)),
    (fun o ho => by first | exact h.poll o ho | (simp (disch := omega) only [hgW, hgR, va_n, va_s, upd_n, upd_s]; exact h.poll o ho)),
    (fun o ho => by first | exact h.mark o ho | (simp (disch := omega) only [hgW, hgR, va_n, va_s, upd_n, upd_s]; exact h.mark o ho)),
    (fun o ho => by first | exact h.time o ho | (simp (disch := omega) only [hgW, hgR, va_n, va_s, upd_n, upd_s]; exact h.time o ho)),
    (fun o ho => by first | exact h.known o ho | (simp (disch := omega) only [hgW, hgR, va_n, va_s, upd_n, upd_s]; exact h.known o ho)),
    (fun o ho => by first | exact h.exp o ho | (simp (disch := omega) only [hgW, hgR, va_n, va_s, upd_n, upd_s]; exact h.exp o ho)),
    (fun o ho1 ho2 => by first | exact h.knz o ho1 ho2 | (simp (disch := omega) only [hgW, hgR, va_n, va_s, upd_n, upd_s]; exact h.knz o ho1 ho2)),
    (fun k hk => by first | exact h.msg k hk | (simp (disch := omega) only [hgW, hgR, va_n, va_s, upd_n, upd_s]; exact h.msg k (by omega))),
    (fun k hk => by first | exact h.pres k hk | (simp (disch := omega) only [hgW, hgR, va_n, va_s, upd_n, upd_s]; exact h.pres k (by omega))),
    (fun k hk => by first | exact h.lear k hk | (simp (disch := omega) only [hgW, hgR, va_n, va_s, upd_n, upd_s]; exact h.lear k (by omega)))⟩
theorem hg_iv {v : Nat → Nat → Int32} {w : Nat → Nat → Int32} {n : Nat} {t : Nat} {s : Nat} {c : Nat} {p : Nat} {l : Nat} {f : Nat} {o : Nat} (hi : Iv n t s c p l f w) (ho6 : o < n) : Iv n t s c p l f (hgW v w o) := by
  have h12 := hi.n12
  exact ⟨(by first | exact hi.n12 | (simp (disch := omega) only [hgW, hgR, va_n, va_s, upd_n, upd_s]; exact hi.n12) | (have := hi.n12; omega)),
    (by first | exact hi.tb | (simp (disch := omega) only [hgW, hgR, va_n, va_s, upd_n, upd_s]; exact hi.tb) | (have := hi.tb; omega)),
    (by first | exact hi.sb | (simp (disch := omega) only [hgW, hgR, va_n, va_s, upd_n, upd_s]; exact hi.sb) | (have := hi.sb; omega)),
    (by first | exact hi.cb | (simp (disch := omega) only [hgW, hgR, va_n, va_s, upd_n, upd_s]; exact hi.cb) | (have := hi.cb; omega)),
    (by first | exact hi.fb | (simp (disch := omega) only [hgW, hgR, va_n, va_s, upd_n, upd_s]; exact hi.fb) | (have := hi.fb; omega)),
    (fun k hk => by
      by_cases e : k = o
      · subst e
        simp (disch := omega) only [hgW, hgR, va_n, va_s, upd_n, upd_s]
        exact Or.inr (Or.inr (Or.inl trivial))
      · simp (disch := omega) only [hgW, hgR, va_n, va_s, upd_n, upd_s]
        exact hi.st k hk),
    (fun o ho => by first | exact hi.mk o ho | (simp (disch := omega) only [hgW, hgR, va_n, va_s, upd_n, upd_s]; exact hi.mk o ho)),
    (fun k hk hw => by
      by_cases e : k = o
      · subst e
        simp (disch := omega) only [hgW, hgR, va_n, va_s, upd_n, upd_s] at hw
        exact absurd hw (by decide)
      · simp (disch := omega) only [hgW, hgR, va_n, va_s, upd_n, upd_s] at hw ⊢
        exact hi.idle k hk hw),
    (by first | exact hi.s01 | (simp (disch := omega) only [hgW, hgR, va_n, va_s, upd_n, upd_s]; exact hi.s01) | (have := hi.s01; omega)),
    (by first | exact hi.c01 | (simp (disch := omega) only [hgW, hgR, va_n, va_s, upd_n, upd_s]; exact hi.c01) | (have := hi.c01; omega)),
    (fun k hk => by first | exact hi.msg k hk | (simp (disch := omega) only [hgW, hgR, va_n, va_s, upd_n, upd_s]; exact hi.msg k hk)),
    (by first | exact hi.ordP | (simp (disch := omega) only [hgW, hgR, va_n, va_s, upd_n, upd_s]; exact hi.ordP)),
    (by first | exact hi.ordL | (simp (disch := omega) only [hgW, hgR, va_n, va_s, upd_n, upd_s]; exact hi.ordL)),
    (fun i h1 h2 => by first | exact hi.kn i h1 h2 | (simp (disch := omega) only [hgW, hgR, va_n, va_s, upd_n, upd_s]; exact hi.kn i h1 h2))⟩
theorem hp_ev {v : Nat → Nat → Int32} {w : Nat → Nat → Int32} {r : Nat → Int32} {n : Nat} {t : Nat} {s : Nat} {c : Nat} {p : Nat} {l : Nat} {f : Nat} {o : Nat} {pk : Int32 × Int32} (h : Ev v n t s c p l f pk w r) (ho6 : o < n) (h12 : n ≤ 12) (hpp : p ≤ 12) (hll : l ≤ 12) : Ev v n t s c p l f pk (hpW w o) (hpR r o) :=
  ⟨(by first | exact h.tick | (simp (disch := omega) only [hpW, hpR, va_n, va_s, upd_n, upd_s]; exact h.tick) | (simp (disch := omega) only [hpW, hpR, va_n, va_s, upd_n, upd_s]; done)),
    (by first | exact h.tickr | (simp (disch := omega) only [hpW, hpR, va_n, va_s, upd_n, upd_s]; exact h.tickr) | (simp (disch := omega) only [hpW, hpR, va_n, va_s, upd_n, upd_s]; done)),
    (by first | exact h.dark | (simp (disch := omega) only [hpW, hpR, va_n, va_s, upd_n, upd_s]; exact h.dark) | (simp (disch := omega) only [hpW, hpR, va_n, va_s, upd_n, upd_s]; done)),
    (by first | exact h.fuse | (simp (disch := omega) only [hpW, hpR, va_n, va_s, upd_n, upd_s]; exact h.fuse) | (simp (disch := omega) only [hpW, hpR, va_n, va_s, upd_n, upd_s]; done)),
    (by first | exact h.fuser | (simp (disch := omega) only [hpW, hpR, va_n, va_s, upd_n, upd_s]; exact h.fuser) | (simp (disch := omega) only [hpW, hpR, va_n, va_s, upd_n, upd_s]; done)),
    (by first | exact h.retry | (simp (disch := omega) only [hpW, hpR, va_n, va_s, upd_n, upd_s]; exact h.retry) | (simp (disch := omega) only [hpW, hpR, va_n, va_s, upd_n, upd_s]; done)),
    (by first | exact h.strict | (simp (disch := omega) only [hpW, hpR, va_n, va_s, upd_n, upd_s]; exact h.strict) | (simp (disch := omega) only [hpW, hpR, va_n, va_s, upd_n, upd_s]; done)),
    (by first | exact h.blk | (simp (disch := omega) only [hpW, hpR, va_n, va_s, upd_n, upd_s]; exact h.blk) | (simp (disch := omega) only [hpW, hpR, va_n, va_s, upd_n, upd_s]; done)),
    (by first | exact h.trips | (simp (disch := omega) only [hpW, hpR, va_n, va_s, upd_n, upd_s]; exact h.trips) | (simp (disch := omega) only [hpW, hpR, va_n, va_s, upd_n, upd_s]; done)),
    (by first | exact h.peak | (simp (disch := omega) only [hpW, hpR, va_n, va_s, upd_n, upd_s]; exact h.peak) | (simp (disch := omega) only [hpW, hpR, va_n, va_s, upd_n, upd_s]; done)),
    (by first | exact h.peakr | (simp (disch := omega) only [hpW, hpR, va_n, va_s, upd_n, upd_s]; exact h.peakr) | (simp (disch := omega) only [hpW, hpR, va_n, va_s, upd_n, upd_s]; done)),
    (by first | exact h.pat | (simp (disch := omega) only [hpW, hpR, va_n, va_s, upd_n, upd_s]; exact h.pat) | (simp (disch := omega) only [hpW, hpR, va_n, va_s, upd_n, upd_s]; done)),
    (by first | exact h.wait | (simp (disch := omega) only [hpW, hpR, va_n, va_s, upd_n, upd_s]; exact h.wait) | (simp (disch := omega) only [hpW, hpR, va_n, va_s, upd_n, upd_s]; done)),
    (by first | exact h.waitr | (simp (disch := omega) only [hpW, hpR, va_n, va_s, upd_n, upd_s]; exact h.waitr) | (simp (disch := omega) only [hpW, hpR, va_n, va_s, upd_n, upd_s]; done)),
    (by first | exact h.sent | (simp (disch := omega) only [hpW, hpR, va_n, va_s, upd_n, upd_s]; exact h.sent) | (simp (disch := omega) only [hpW, hpR, va_n, va_s, upd_n, upd_s]; done)),
    (by first | exact h.sentr | (simp (disch := omega) only [hpW, hpR, va_n, va_s, upd_n, upd_s]; exact h.sentr) | (simp (disch := omega) only [hpW, hpR, va_n, va_s, upd_n, upd_s]; done)),
    (by first | exact h.clear | (simp (disch := omega) only [hpW, hpR, va_n, va_s, upd_n, upd_s]; exact h.clear) | (simp (disch := omega) only [hpW, hpR, va_n, va_s, upd_n, upd_s]; done)),
    (by first | exact h.pm | (simp (disch := omega) only [hpW, hpR, va_n, va_s, upd_n, upd_s]; exact h.pm) | (simp (disch := omega) only [hpW, hpR, va_n, va_s, upd_n, upd_s]; done)),
    (by first | exact h.pmr | (simp (disch := omega) only [hpW, hpR, va_n, va_s, upd_n, upd_s]; exact h.pmr) | (simp (disch := omega) only [hpW, hpR, va_n, va_s, upd_n, upd_s]; done)),
    (by first | exact h.lm | (simp (disch := omega) only [hpW, hpR, va_n, va_s, upd_n, upd_s]; exact h.lm) | (simp (disch := omega) only [hpW, hpR, va_n, va_s, upd_n, upd_s]; done)),
    (by first | exact h.lmr | (simp (disch := omega) only [hpW, hpR, va_n, va_s, upd_n, upd_s]; exact h.lmr) | (simp (disch := omega) only [hpW, hpR, va_n, va_s, upd_n, upd_s]; done)),
    (by first | exact h.lost | (simp (disch := omega) only [hpW, hpR, va_n, va_s, upd_n, upd_s]; exact h.lost) | (simp (disch := omega) only [hpW, hpR, va_n, va_s, upd_n, upd_s]; done)),
    (fun k hk => by first | exact h.sby k hk | (simp (disch := omega) only [hpW, hpR, va_n, va_s, upd_n, upd_s]; exact h.sby k (by omega))),
    (fun k hk => by first | exact h.lby k hk | (simp (disch := omega) only [hpW, hpR, va_n, va_s, upd_n, upd_s]; exact h.lby k (by omega))),
    (fun o ho => by first | exact h.prio o ho | (simp (disch := omega) only [hpW, hpR, va_n, va_s, upd_n, upd_s]; exact h.prio o ho)),
    (fun o ho => by first | exact h.wants o ho | (simp (disch := omega) only [hpW, hpR, va_n, va_s, upd_n, upd_s]; exact h.wants o ho)),
    (fun o ho => by first | exact h.how o ho | (simp (disch := omega) only [hpW, hpR, va_n, va_s, upd_n, upd_s]; exact h.how o ho)),
    (fun o ho => by first | exact h.left o ho | (simp (disch := omega) only [hpW, hpR, va_n, va_s, upd_n, upd_s]; exact h.left o ho)),
    (fun o ho => by first | exact h.starts o ho | (simp (disch := omega) only [hpW, hpR, va_n, va_s, upd_n, upd_s]; exact h.starts o ho)),
    (fun o ho => by first | exact h.ran o ho | (simp (disch := omega) only [hpW, hpR, va_n, va_s, upd_n, upd_s]; exact h.ran o ho)),
    (fun o ho hw => by first | exact h.asked o ho hw | (simp (disch := omega) only [hpW, hpR, va_n, va_s, upd_n, upd_s] at hw ⊢; exact h.asked o ho hw) | (simp (disch := omega) only [hpW, hpR, va_n, va_s, upd_n, upd_s]; exact h.asked o ho hw)),
    (fun o ho => by first | exact h.stop o ho | (simp (disch := omega) only [hpW, hpR, va_n, va_s, upd_n, upd_s]; exact h.stop o ho)),
    (fun k hk => by
      by_cases e : k = o
      · subst e
        simp (disch := omega) only [hpW, hpR, va_n, va_s, upd_n, upd_s]
        rw [b01_s (by omega)]
      · simp (disch := omega) only [hpW, hpR, va_n, va_s, upd_n, upd_s]
        rw [b01_so (by omega) (by omega) e]
        exact h.poll k hk),
    (fun o ho => by first | exact h.mark o ho | (simp (disch := omega) only [hpW, hpR, va_n, va_s, upd_n, upd_s]; exact h.mark o ho)),
    (fun o ho => by first | exact h.time o ho | (simp (disch := omega) only [hpW, hpR, va_n, va_s, upd_n, upd_s]; exact h.time o ho)),
    (fun o ho => by first | exact h.known o ho | (simp (disch := omega) only [hpW, hpR, va_n, va_s, upd_n, upd_s]; exact h.known o ho)),
    (fun o ho => by first | exact h.exp o ho | (simp (disch := omega) only [hpW, hpR, va_n, va_s, upd_n, upd_s]; exact h.exp o ho)),
    (fun o ho1 ho2 => by first | exact h.knz o ho1 ho2 | (simp (disch := omega) only [hpW, hpR, va_n, va_s, upd_n, upd_s]; exact h.knz o ho1 ho2)),
    (fun k hk => by first | exact h.msg k hk | (simp (disch := omega) only [hpW, hpR, va_n, va_s, upd_n, upd_s]; exact h.msg k (by omega))),
    (fun k hk => by first | exact h.pres k hk | (simp (disch := omega) only [hpW, hpR, va_n, va_s, upd_n, upd_s]; exact h.pres k (by omega))),
    (fun k hk => by first | exact h.lear k hk | (simp (disch := omega) only [hpW, hpR, va_n, va_s, upd_n, upd_s]; exact h.lear k (by omega)))⟩
theorem hp_iv {w : Nat → Nat → Int32} {n : Nat} {t : Nat} {s : Nat} {c : Nat} {p : Nat} {l : Nat} {f : Nat} {o : Nat} (hi : Iv n t s c p l f w) : Iv n t s c p l f (hpW w o) :=
  ⟨(by first | exact hi.n12 | (simp (disch := omega) only [hpW, hpR, va_n, va_s, upd_n, upd_s]; exact hi.n12) | (have := hi.n12; omega)),
    (by first | exact hi.tb | (simp (disch := omega) only [hpW, hpR, va_n, va_s, upd_n, upd_s]; exact hi.tb) | (have := hi.tb; omega)),
    (by first | exact hi.sb | (simp (disch := omega) only [hpW, hpR, va_n, va_s, upd_n, upd_s]; exact hi.sb) | (have := hi.sb; omega)),
    (by first | exact hi.cb | (simp (disch := omega) only [hpW, hpR, va_n, va_s, upd_n, upd_s]; exact hi.cb) | (have := hi.cb; omega)),
    (by first | exact hi.fb | (simp (disch := omega) only [hpW, hpR, va_n, va_s, upd_n, upd_s]; exact hi.fb) | (have := hi.fb; omega)),
    (fun o ho => by first | exact hi.st o ho | (simp (disch := omega) only [hpW, hpR, va_n, va_s, upd_n, upd_s]; exact hi.st o ho)),
    (fun o ho => by first | exact hi.mk o ho | (simp (disch := omega) only [hpW, hpR, va_n, va_s, upd_n, upd_s]; exact hi.mk o ho)),
    (fun o ho hw => by first | exact hi.idle o ho hw | (simp (disch := omega) only [hpW, hpR, va_n, va_s, upd_n, upd_s] at hw ⊢; exact hi.idle o ho hw) | (simp (disch := omega) only [hpW, hpR, va_n, va_s, upd_n, upd_s]; exact hi.idle o ho hw)),
    (by first | exact hi.s01 | (simp (disch := omega) only [hpW, hpR, va_n, va_s, upd_n, upd_s]; exact hi.s01) | (have := hi.s01; omega)),
    (by first | exact hi.c01 | (simp (disch := omega) only [hpW, hpR, va_n, va_s, upd_n, upd_s]; exact hi.c01) | (have := hi.c01; omega)),
    (fun k hk => by first | exact hi.msg k hk | (simp (disch := omega) only [hpW, hpR, va_n, va_s, upd_n, upd_s]; exact hi.msg k hk)),
    (by first | exact hi.ordP | (simp (disch := omega) only [hpW, hpR, va_n, va_s, upd_n, upd_s]; exact hi.ordP)),
    (by first | exact hi.ordL | (simp (disch := omega) only [hpW, hpR, va_n, va_s, upd_n, upd_s]; exact hi.ordL)),
    (fun i h1 h2 => by first | exact hi.kn i h1 h2 | (simp (disch := omega) only [hpW, hpR, va_n, va_s, upd_n, upd_s]; exact hi.kn i h1 h2))⟩
theorem tm_ev {v : Nat → Nat → Int32} {w : Nat → Nat → Int32} {r : Nat → Int32} {n : Nat} {t : Nat} {s : Nat} {c : Nat} {p : Nat} {l : Nat} {f : Nat} {o : Nat} {pk : Int32 × Int32} (h : Ev v n t s c p l f pk w r) (ho6 : o < n) (h12 : n ≤ 12) (hpp : p ≤ 12) (hll : l ≤ 12) : Ev v n t s c p l f pk (tmW w o t) (tmR r o t) :=
  ⟨(by first | exact h.tick | (simp (disch := omega) only [tmW, tmR, va_n, va_s, upd_n, upd_s]; exact h.tick) | (simp (disch := omega) only [tmW, tmR, va_n, va_s, upd_n, upd_s]; done)),
    (by first | exact h.tickr | (simp (disch := omega) only [tmW, tmR, va_n, va_s, upd_n, upd_s]; exact h.tickr) | (simp (disch := omega) only [tmW, tmR, va_n, va_s, upd_n, upd_s]; done)),
    (by first | exact h.dark | (simp (disch := omega) only [tmW, tmR, va_n, va_s, upd_n, upd_s]; exact h.dark) | (simp (disch := omega) only [tmW, tmR, va_n, va_s, upd_n, upd_s]; done)),
    (by first | exact h.fuse | (simp (disch := omega) only [tmW, tmR, va_n, va_s, upd_n, upd_s]; exact h.fuse) | (simp (disch := omega) only [tmW, tmR, va_n, va_s, upd_n, upd_s]; done)),
    (by first | exact h.fuser | (simp (disch := omega) only [tmW, tmR, va_n, va_s, upd_n, upd_s]; exact h.fuser) | (simp (disch := omega) only [tmW, tmR, va_n, va_s, upd_n, upd_s]; done)),
    (by first | exact h.retry | (simp (disch := omega) only [tmW, tmR, va_n, va_s, upd_n, upd_s]; exact h.retry) | (simp (disch := omega) only [tmW, tmR, va_n, va_s, upd_n, upd_s]; done)),
    (by first | exact h.strict | (simp (disch := omega) only [tmW, tmR, va_n, va_s, upd_n, upd_s]; exact h.strict) | (simp (disch := omega) only [tmW, tmR, va_n, va_s, upd_n, upd_s]; done)),
    (by first | exact h.blk | (simp (disch := omega) only [tmW, tmR, va_n, va_s, upd_n, upd_s]; exact h.blk) | (simp (disch := omega) only [tmW, tmR, va_n, va_s, upd_n, upd_s]; done)),
    (by first | exact h.trips | (simp (disch := omega) only [tmW, tmR, va_n, va_s, upd_n, upd_s]; exact h.trips) | (simp (disch := omega) only [tmW, tmR, va_n, va_s, upd_n, upd_s]; done)),
    (by first | exact h.peak | (simp (disch := omega) only [tmW, tmR, va_n, va_s, upd_n, upd_s]; exact h.peak) | (simp (disch := omega) only [tmW, tmR, va_n, va_s, upd_n, upd_s]; done)),
    (by first | exact h.peakr | (simp (disch := omega) only [tmW, tmR, va_n, va_s, upd_n, upd_s]; exact h.peakr) | (simp (disch := omega) only [tmW, tmR, va_n, va_s, upd_n, upd_s]; done)),
    (by first | exact h.pat | (simp (disch := omega) only [tmW, tmR, va_n, va_s, upd_n, upd_s]; exact h.pat) | (simp (disch := omega) only [tmW, tmR, va_n, va_s, upd_n, upd_s]; done)),
    (by first | exact h.wait | (simp (disch := omega) only [tmW, tmR, va_n, va_s, upd_n, upd_s]; exact h.wait) | (simp (disch := omega) only [tmW, tmR, va_n, va_s, upd_n, upd_s]; done)),
    (by first | exact h.waitr | (simp (disch := omega) only [tmW, tmR, va_n, va_s, upd_n, upd_s]; exact h.waitr) | (simp (disch := omega) only [tmW, tmR, va_n, va_s, upd_n, upd_s]; done)),
    (by first | exact h.sent | (simp (disch := omega) only [tmW, tmR, va_n, va_s, upd_n, upd_s]; exact h.sent) | (simp (disch := omega) only [tmW, tmR, va_n, va_s, upd_n, upd_s]; done)),
    (by first | exact h.sentr | (simp (disch := omega) only [tmW, tmR, va_n, va_s, upd_n, upd_s]; exact h.sentr) | (simp (disch := omega) only [tmW, tmR, va_n, va_s, upd_n, upd_s]; done)),
    (by first | exact h.clear | (simp (disch := omega) only [tmW, tmR, va_n, va_s, upd_n, upd_s]; exact h.clear) | (simp (disch := omega) only [tmW, tmR, va_n, va_s, upd_n, upd_s]; done)),
    (by first | exact h.pm | (simp (disch := omega) only [tmW, tmR, va_n, va_s, upd_n, upd_s]; exact h.pm) | (simp (disch := omega) only [tmW, tmR, va_n, va_s, upd_n, upd_s]; done)),
    (by first | exact h.pmr | (simp (disch := omega) only [tmW, tmR, va_n, va_s, upd_n, upd_s]; exact h.pmr) | (simp (disch := omega) only [tmW, tmR, va_n, va_s, upd_n, upd_s]; done)),
    (by first | exact h.lm | (simp (disch := omega) only [tmW, tmR, va_n, va_s, upd_n, upd_s]; exact h.lm) | (simp (disch := omega) only [tmW, tmR, va_n, va_s, upd_n, upd_s]; done)),
    (by first | exact h.lmr | (simp (disch := omega) only [tmW, tmR, va_n, va_s, upd_n, upd_s]; exact h.lmr) | (simp (disch := omega) only [tmW, tmR, va_n, va_s, upd_n, upd_s]; done)),
    (by first | exact h.lost | (simp (disch := omega) only [tmW, tmR, va_n, va_s, upd_n, upd_s]; exact h.lost) | (simp (disch := omega) only [tmW, tmR, va_n, va_s, upd_n, upd_s]; done)),
    (fun k hk => by first | exact h.sby k hk | (simp (disch := omega) only [tmW, tmR, va_n, va_s, upd_n, upd_s]; exact h.sby k (by omega))),
    (fun k hk => by first | exact h.lby k hk | (simp (disch := omega) only [tmW, tmR, va_n, va_s, upd_n, upd_s]; exact h.lby k (by omega))),
    (fun o ho => by first | exact h.prio o ho | (simp (disch := omega) only [tmW, tmR, va_n, va_s, upd_n, upd_s]; exact h.prio o ho)),
    (fun o ho => by first | exact h.wants o ho | (simp (disch := omega) only [tmW, tmR, va_n, va_s, upd_n, upd_s]; exact h.wants o ho)),
    (fun o ho => by first | exact h.how o ho | (simp (disch := omega) only [tmW, tmR, va_n, va_s, upd_n, upd_s]; exact h.how o ho)),
    (fun o ho => by first | exact h.left o ho | (simp (disch := omega) only [tmW, tmR, va_n, va_s, upd_n, upd_s]; exact h.left o ho)),
    (fun o ho => by first | exact h.starts o ho | (simp (disch := omega) only [tmW, tmR, va_n, va_s, upd_n, upd_s]; exact h.starts o ho)),
    (fun o ho => by first | exact h.ran o ho | (simp (disch := omega) only [tmW, tmR, va_n, va_s, upd_n, upd_s]; exact h.ran o ho)),
    (fun o ho hw => by first | exact h.asked o ho hw | (simp (disch := omega) only [tmW, tmR, va_n, va_s, upd_n, upd_s] at hw ⊢; exact h.asked o ho hw) | (simp (disch := omega) only [tmW, tmR, va_n, va_s, upd_n, upd_s]; exact h.asked o ho hw)),
    (fun o ho => by first | exact h.stop o ho | (simp (disch := omega) only [tmW, tmR, va_n, va_s, upd_n, upd_s]; exact h.stop o ho)),
    (fun o ho => by first | exact h.poll o ho | (simp (disch := omega) only [tmW, tmR, va_n, va_s, upd_n, upd_s]; exact h.poll o ho)),
    (fun o ho => by first | exact h.mark o ho | (simp (disch := omega) only [tmW, tmR, va_n, va_s, upd_n, upd_s]; exact h.mark o ho)),
    (fun k hk => by
      by_cases e : k = o
      · subst e
        simp (disch := omega) only [tmW, tmR, va_n, va_s, upd_n, upd_s]
      · simp (disch := omega) only [tmW, tmR, va_n, va_s, upd_n, upd_s]
        exact h.time k hk),
    (fun o ho => by first | exact h.known o ho | (simp (disch := omega) only [tmW, tmR, va_n, va_s, upd_n, upd_s]; exact h.known o ho)),
    (fun o ho => by first | exact h.exp o ho | (simp (disch := omega) only [tmW, tmR, va_n, va_s, upd_n, upd_s]; exact h.exp o ho)),
    (fun o ho1 ho2 => by first | exact h.knz o ho1 ho2 | (simp (disch := omega) only [tmW, tmR, va_n, va_s, upd_n, upd_s]; exact h.knz o ho1 ho2)),
    (fun k hk => by first | exact h.msg k hk | (simp (disch := omega) only [tmW, tmR, va_n, va_s, upd_n, upd_s]; exact h.msg k (by omega))),
    (fun k hk => by first | exact h.pres k hk | (simp (disch := omega) only [tmW, tmR, va_n, va_s, upd_n, upd_s]; exact h.pres k (by omega))),
    (fun k hk => by first | exact h.lear k hk | (simp (disch := omega) only [tmW, tmR, va_n, va_s, upd_n, upd_s]; exact h.lear k (by omega)))⟩
theorem tm_iv {w : Nat → Nat → Int32} {n : Nat} {t : Nat} {s : Nat} {c : Nat} {p : Nat} {l : Nat} {f : Nat} {o : Nat} (hi : Iv n t s c p l f w) : Iv n t s c p l f (tmW w o t) :=
  ⟨(by first | exact hi.n12 | (simp (disch := omega) only [tmW, tmR, va_n, va_s, upd_n, upd_s]; exact hi.n12) | (have := hi.n12; omega)),
    (by first | exact hi.tb | (simp (disch := omega) only [tmW, tmR, va_n, va_s, upd_n, upd_s]; exact hi.tb) | (have := hi.tb; omega)),
    (by first | exact hi.sb | (simp (disch := omega) only [tmW, tmR, va_n, va_s, upd_n, upd_s]; exact hi.sb) | (have := hi.sb; omega)),
    (by first | exact hi.cb | (simp (disch := omega) only [tmW, tmR, va_n, va_s, upd_n, upd_s]; exact hi.cb) | (have := hi.cb; omega)),
    (by first | exact hi.fb | (simp (disch := omega) only [tmW, tmR, va_n, va_s, upd_n, upd_s]; exact hi.fb) | (have := hi.fb; omega)),
    (fun o ho => by first | exact hi.st o ho | (simp (disch := omega) only [tmW, tmR, va_n, va_s, upd_n, upd_s]; exact hi.st o ho)),
    (fun o ho => by first | exact hi.mk o ho | (simp (disch := omega) only [tmW, tmR, va_n, va_s, upd_n, upd_s]; exact hi.mk o ho)),
    (fun o ho hw => by first | exact hi.idle o ho hw | (simp (disch := omega) only [tmW, tmR, va_n, va_s, upd_n, upd_s] at hw ⊢; exact hi.idle o ho hw) | (simp (disch := omega) only [tmW, tmR, va_n, va_s, upd_n, upd_s]; exact hi.idle o ho hw)),
    (by first | exact hi.s01 | (simp (disch := omega) only [tmW, tmR, va_n, va_s, upd_n, upd_s]; exact hi.s01) | (have := hi.s01; omega)),
    (by first | exact hi.c01 | (simp (disch := omega) only [tmW, tmR, va_n, va_s, upd_n, upd_s]; exact hi.c01) | (have := hi.c01; omega)),
    (fun k hk => by first | exact hi.msg k hk | (simp (disch := omega) only [tmW, tmR, va_n, va_s, upd_n, upd_s]; exact hi.msg k hk)),
    (by first | exact hi.ordP | (simp (disch := omega) only [tmW, tmR, va_n, va_s, upd_n, upd_s]; exact hi.ordP)),
    (by first | exact hi.ordL | (simp (disch := omega) only [tmW, tmR, va_n, va_s, upd_n, upd_s]; exact hi.ordL)),
    (fun i h1 h2 => by first | exact hi.kn i h1 h2 | (simp (disch := omega) only [tmW, tmR, va_n, va_s, upd_n, upd_s]; exact hi.kn i h1 h2))⟩
