-- a blackout: the relation stays
theorem b01_z {k : Nat} : b01 0 k = 0 := b01_0.mpr (b_0 k)
theorem kfl {n : Nat} {x : Int32} {u : Nat → Int32} {j : Nat} (h : j < n) : kfill n x u j = x := if_pos h
def dkW (u w : Nat → Nat → Int32) (t : Nat) : Nat → Nat → Int32 := va_up (va_up (va_up (va_up (va_up (va_up (va_up u 16 (fun _ => 0)) 17 (fun _ => 0)) 18 (kfill 12 0 (w 18))) 19 (kfill 12 (nI t) (w 19))) 26 (kfill 12 (-1) (w 26))) 27 (fun _ => 0)) 31 (fun _ => 0)
theorem dk_ev {v : Nat → Nat → Int32} {w : Nat → Nat → Int32} {r : Nat → Int32} {n : Nat} {t : Nat} {s : Nat} {c : Nat} {p : Nat} {l : Nat} {f : Nat} {x : Int32} {pk : Int32 × Int32} {u : Nat → Nat → Int32} {ur : Nat → Int32} (h : Ev v n t s c p l f pk w r) (hi : Iv n t s c p l f w) (hu : ∀ i, i ≠ 11 → i ≠ 12 → i ≠ 15 → u i = (va_up (va_up w 5 (fun _ => w 5 0 + 1)) 1 (fun _ => x)) i) (h11 : ∀ k, k < n → u 11 k = if w 11 k = 0 then 0 else 1) (hl : ∀ k, k < n → u 12 k = if w 11 k = 0 then w 12 k else 0) (h15 : ∀ k, k < n → w 11 k ≠ 0 → u 15 k = -1) (hd : Dk (upd (upd (upd (upd r 1 x) 2 (r 2 + 1)) 11 0) 12 0) n ur) : Ev v n t s 0 0 l f pk (dkW u w t) ur := by
  have h12 := hi.n12
  have hll := hi.ordL.pn
  obtain ⟨h0, a0, a1, a4, a5, a11, b2, b3, b6, b7, b8, b9, b10⟩ := hd
  exact ⟨(by first | exact h.tick | (simp (disch := omega) only [dkW, va_n, va_s, hu, h0, upd_n, upd_s]; exact h.tick) | (simp (disch := omega) only [dkW, va_n, va_s, hu, h0, upd_n, upd_s]; done)),
    (by first | exact h.tickr | (simp (disch := omega) only [dkW, va_n, va_s, hu, h0, upd_n, upd_s]; exact h.tickr) | (simp (disch := omega) only [dkW, va_n, va_s, hu, h0, upd_n, upd_s]; done)),
    (by simp (disch := omega) only [dkW, va_n, va_s, hu, h0, upd_n, upd_s]),
    (by first | exact h.fuse | (simp (disch := omega) only [dkW, va_n, va_s, hu, h0, upd_n, upd_s]; exact h.fuse) | (simp (disch := omega) only [dkW, va_n, va_s, hu, h0, upd_n, upd_s]; done)),
    (by first | exact h.fuser | (simp (disch := omega) only [dkW, va_n, va_s, hu, h0, upd_n, upd_s]; exact h.fuser) | (simp (disch := omega) only [dkW, va_n, va_s, hu, h0, upd_n, upd_s]; done)),
    (by first | exact h.retry | (simp (disch := omega) only [dkW, va_n, va_s, hu, h0, upd_n, upd_s]; exact h.retry) | (simp (disch := omega) only [dkW, va_n, va_s, hu, h0, upd_n, upd_s]; done)),
    (by first | exact h.strict | (simp (disch := omega) only [dkW, va_n, va_s, hu, h0, upd_n, upd_s]; exact h.strict) | (simp (disch := omega) only [dkW, va_n, va_s, hu, h0, upd_n, upd_s]; done)),
    (by
      simp (disch := omega) only [dkW, va_n, va_s, hu, h0, upd_n, upd_s]
      rw [h.blk]),
    (by first | exact h.trips | (simp (disch := omega) only [dkW, va_n, va_s, hu, h0, upd_n, upd_s]; exact h.trips) | (simp (disch := omega) only [dkW, va_n, va_s, hu, h0, upd_n, upd_s]; done)),
    (by first | exact h.peak | (simp (disch := omega) only [dkW, va_n, va_s, hu, h0, upd_n, upd_s]; exact h.peak) | (simp (disch := omega) only [dkW, va_n, va_s, hu, h0, upd_n, upd_s]; done)),
    (by first | exact h.peakr | (simp (disch := omega) only [dkW, va_n, va_s, hu, h0, upd_n, upd_s]; exact h.peakr) | (simp (disch := omega) only [dkW, va_n, va_s, hu, h0, upd_n, upd_s]; done)),
    (by first | exact h.pat | (simp (disch := omega) only [dkW, va_n, va_s, hu, h0, upd_n, upd_s]; exact h.pat) | (simp (disch := omega) only [dkW, va_n, va_s, hu, h0, upd_n, upd_s]; done)),
    (by simp (disch := omega) only [dkW, va_n, va_s, hu, h0, upd_n, upd_s]; rfl),
    (by simp (disch := omega) only [dkW, va_n, va_s, hu, h0, upd_n, upd_s]; rfl),
    (by first | exact h.sent | (simp (disch := omega) only [dkW, va_n, va_s, hu, h0, upd_n, upd_s]; exact h.sent) | (simp (disch := omega) only [dkW, va_n, va_s, hu, h0, upd_n, upd_s]; done)),
    (by first | exact h.sentr | (simp (disch := omega) only [dkW, va_n, va_s, hu, h0, upd_n, upd_s]; exact h.sentr) | (simp (disch := omega) only [dkW, va_n, va_s, hu, h0, upd_n, upd_s]; done)),
    (by first | exact h.clear | (simp (disch := omega) only [dkW, va_n, va_s, hu, h0, upd_n, upd_s]; exact h.clear) | (simp (disch := omega) only [dkW, va_n, va_s, hu, h0, upd_n, upd_s]; done)),
    (by simp (disch := omega) only [dkW, va_n, va_s, hu, h0, upd_n, upd_s]; rfl),
    (by simp (disch := omega) only [dkW, va_n, va_s, hu, h0, upd_n, upd_s]; rfl),
    (by first | exact h.lm | (simp (disch := omega) only [dkW, va_n, va_s, hu, h0, upd_n, upd_s]; exact h.lm) | (simp (disch := omega) only [dkW, va_n, va_s, hu, h0, upd_n, upd_s]; done)),
    (by first | exact h.lmr | (simp (disch := omega) only [dkW, va_n, va_s, hu, h0, upd_n, upd_s]; exact h.lmr) | (simp (disch := omega) only [dkW, va_n, va_s, hu, h0, upd_n, upd_s]; done)),
    (by first | exact h.lost | (simp (disch := omega) only [dkW, va_n, va_s, hu, h0, upd_n, upd_s]; exact h.lost) | (simp (disch := omega) only [dkW, va_n, va_s, hu, h0, upd_n, upd_s]; done)),
    (fun k hk => by first | exact h.sby k hk | (simp (disch := omega) only [dkW, va_n, va_s, hu, h0, upd_n, upd_s]; exact h.sby k (by omega))),
    (fun k hk => by first | exact h.lby k hk | (simp (disch := omega) only [dkW, va_n, va_s, hu, h0, upd_n, upd_s]; exact h.lby k (by omega))),
    (fun k hk => by
      simp (disch := omega) only [dkW, va_n, va_s, hu, h0, upd_n, upd_s]
      rw [a0 k (by omega)]
      simp (disch := omega) only [dkW, va_n, va_s, hu, h0, upd_n, upd_s]
      exact h.prio k hk),
    (fun k hk => by
      simp (disch := omega) only [dkW, va_n, va_s, hu, h0, upd_n, upd_s]
      rw [a1 k (by omega), h11 k hk]
      simp (disch := omega) only [dkW, va_n, va_s, hu, h0, upd_n, upd_s]
      rw [h.wants k hk]
      by_cases e : w 11 k = 0
      · rw [if_pos e, if_pos rfl]
      · rw [if_neg e, if_neg (show ¬ (1 : Int32) = 0 by decide)]),
    (fun k hk => by
      simp (disch := omega) only [dkW, va_n, va_s, hu, h0, upd_n, upd_s]
      rw [b2 k hk, h11 k hk]
      simp (disch := omega) only [dkW, va_n, va_s, hu, h0, upd_n, upd_s]
      rw [h.wants k hk]),
    (fun k hk => by
      simp (disch := omega) only [dkW, va_n, va_s, hu, h0, upd_n, upd_s]
      rw [b3 k hk, hl k hk]
      by_cases e : w 11 k = 0
      · rw [if_pos e, hi.idle k hk e]
      · rw [if_neg e]),
    (fun k hk => by
      simp (disch := omega) only [dkW, va_n, va_s, hu, h0, upd_n, upd_s]
      rw [a4 k (by omega)]
      simp (disch := omega) only [dkW, va_n, va_s, hu, h0, upd_n, upd_s]
      exact h.starts k hk),
    (fun k hk => by
      simp (disch := omega) only [dkW, va_n, va_s, hu, h0, upd_n, upd_s]
      rw [a5 k (by omega)]
      simp (disch := omega) only [dkW, va_n, va_s, hu, h0, upd_n, upd_s]
      exact h.ran k hk),
    (fun k hk hw => by
      simp (disch := omega) only [dkW, va_n, va_s, hu, h0, upd_n, upd_s] at hw ⊢
      rw [h11 k hk] at hw
      have e : w 11 k ≠ 0 := fun g => hw (if_pos g)
      rw [b6 k hk, h15 k hk e]),
    (fun k hk => by
      simp (disch := omega) only [dkW, va_n, va_s, hu, h0, upd_n, upd_s]
      rw [b7 k hk, b01_z]),
    (fun k hk => by
      simp (disch := omega) only [dkW, va_n, va_s, hu, h0, upd_n, upd_s]
      rw [b8 k hk, b01_z]),
    (fun k hk => by
      simp (disch := omega) only [dkW, va_n, va_s, hu, h0, upd_n, upd_s]
      rw [b9 k hk, kfl (by omega)]),
    (fun k hk => by
      simp (disch := omega) only [dkW, va_n, va_s, hu, h0, upd_n, upd_s]
      rw [b10 k hk, kfl (by omega)]
      simp (disch := omega) only [dkW, va_n, va_s, hu, h0, upd_n, upd_s]
      exact h.tickr.symm),
    (fun k hk => by
      simp (disch := omega) only [dkW, va_n, va_s, hu, h0, upd_n, upd_s]
      rw [a11 k (by omega)]
      simp (disch := omega) only [dkW, va_n, va_s, hu, h0, upd_n, upd_s]
      exact h.known k hk),
    (fun o ho => by first | exact h.exp o ho | (simp (disch := omega) only [dkW, va_n, va_s, hu, h0, upd_n, upd_s]; exact h.exp o ho)),
    (fun o ho1 ho2 => by
      rw [a11 o ho2]
      simp (disch := omega) only [dkW, va_n, va_s, hu, h0, upd_n, upd_s]
      exact h.knz o ho1 ho2),
    (fun k hk => by omega),
    (fun k hk => by omega),
    (fun k hk => by first | exact h.lear k hk | (simp (disch := omega) only [dkW, va_n, va_s, hu, h0, upd_n, upd_s]; exact h.lear k (by omega)))⟩
theorem dk_iv {w : Nat → Nat → Int32} {n : Nat} {t : Nat} {s : Nat} {c : Nat} {p : Nat} {l : Nat} {f : Nat} {x : Int32} {u : Nat → Nat → Int32} (hi : Iv n t s c p l f w) (hu : ∀ i, i ≠ 11 → i ≠ 12 → i ≠ 15 → u i = (va_up (va_up w 5 (fun _ => w 5 0 + 1)) 1 (fun _ => x)) i) (h11 : ∀ k, k < n → u 11 k = if w 11 k = 0 then 0 else 1) (hl : ∀ k, k < n → u 12 k = if w 11 k = 0 then w 12 k else 0) (h15 : ∀ k, k < n → w 11 k ≠ 0 → u 15 k = -1) : Iv n t s 0 0 l f (dkW u w t) := by
  have h12 := hi.n12
  exact ⟨(by first | exact hi.n12 | (simp (disch := omega) only [dkW, va_n, va_s, hu, upd_n, upd_s]; exact hi.n12) | (have := hi.n12; omega)),
    (by first | exact hi.tb | (simp (disch := omega) only [dkW, va_n, va_s, hu, upd_n, upd_s]; exact hi.tb) | (have := hi.tb; omega)),
    (by first | exact hi.sb | (simp (disch := omega) only [dkW, va_n, va_s, hu, upd_n, upd_s]; exact hi.sb) | (have := hi.sb; omega)),
    (by omega),
    (by first | exact hi.fb | (simp (disch := omega) only [dkW, va_n, va_s, hu, upd_n, upd_s]; exact hi.fb) | (have := hi.fb; omega)),
    (fun k hk => by
      simp (disch := omega) only [dkW, va_n, va_s]
      rw [h11 k hk]
      by_cases e : w 11 k = 0
      · rw [if_pos e]
        exact Or.inl rfl
      · rw [if_neg e]
        exact Or.inr (Or.inl rfl)),
    (fun k hk => by
      simp (disch := omega) only [dkW, va_n, va_s]
      rw [kfl (by omega)]
      exact Or.inl rfl),
    (fun k hk hw => by
      simp (disch := omega) only [dkW, va_n, va_s] at hw ⊢
      rw [h11 k hk] at hw
      have e : w 11 k = 0 := by
        rcases Classical.em (w 11 k = 0) with g | g
        · exact g
        · rw [if_neg g] at hw
          exact absurd hw (by decide)
      rw [hl k hk, if_pos e, hi.idle k hk e]),
    (by first | exact hi.s01 | (simp (disch := omega) only [dkW, va_n, va_s, hu, upd_n, upd_s]; exact hi.s01) | (have := hi.s01; omega)),
    (by first | exact hi.c01 | (simp (disch := omega) only [dkW, va_n, va_s, hu, upd_n, upd_s]; exact hi.c01) | (have := hi.c01; omega)),
    (fun k hk => by omega),
    (by
      simp (disch := omega) only [dkW, va_n, va_s]
      exact ord_0 (fun o ho => kfl (by omega))),
    (by first | exact hi.ordL | (simp (disch := omega) only [dkW, va_n, va_s, hu, upd_n, upd_s]; exact hi.ordL)),
    (fun i h1 h2 => by first | exact hi.kn i h1 h2 | (simp (disch := omega) only [dkW, va_n, va_s, hu, upd_n, upd_s]; exact hi.kn i h1 h2))⟩
theorem dark_e {v : Nat → Nat → Int32} {z : Nat → Nat → Int32} {w : Nat → Nat → Int32} {r : Nat → Int32} {n : Nat} {t : Nat} {s : Nat} {c : Nat} {p : Nat} {l : Nat} {f : Nat} {pk : Int32 × Int32} (hp : Pl v z n) (h : Ev v n t s c p l f pk w r) (hi : Iv n t s c p l f w) (x : Int32) : ∃ w2 r2, qX9_beginBlackout v w x = some w2 ∧ qX11_darkens z r x = some r2 ∧ Ev v n t s 0 0 l f pk w2 r2 ∧ Iv n t s 0 0 l f w2 := by
  obtain ⟨u, e1, hu, h11, hl, h15⟩ := lose_e (w := va_up (va_up w 5 (fun _ => w 5 0 + 1)) 1 (fun _ => (if w 1 0 < w 0 0 + x then w 0 0 + x else w 1 0))) hp
  obtain ⟨ur, e2, hd⟩ := darkens_e hp h x
  have h11' : ∀ k, k < n → u 11 k = if w 11 k = 0 then 0 else 1 := by
    intro k hk
    rw [h11 k hk, va_n (by omega), va_n (by omega)]
  have hl' : ∀ k, k < n → u 12 k = if w 11 k = 0 then w 12 k else 0 := by
    intro k hk
    rw [hl k hk, va_n (by omega), va_n (by omega), va_n (by omega), va_n (by omega)]
  have h15' : ∀ k, k < n → w 11 k ≠ 0 → u 15 k = -1 := by
    intro k hk hw
    exact h15 k hk (by rw [va_n (by omega), va_n (by omega)]; exact hw)
  refine ⟨dkW u w t, ur, ?_, e2, dk_ev h hi hu h11' hl' h15' hd, dk_iv hi hu h11' hl' h15'⟩
  unfold qX9_beginBlackout
  rw [bs_e, bs_e, va_n (show (1 : Nat) ≠ 5 by omega), va_n (show (0 : Nat) ≠ 5 by omega), e1, bd_s]
  unfold qX3_losePower qX1_clear_p dkW
  simp (disch := omega) only [bs_e, bd_s, va_n, va_s, hu, h.tick]
