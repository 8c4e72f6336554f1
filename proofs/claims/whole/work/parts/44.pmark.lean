-- marks, times, starts: how the relation moves
theorem scan_none {ρ : Type} {L : Nat → Int32 → Option ρ} {K : Option ρ} {N : Nat} {hit : Nat → Prop}
    (hs : ∀ g k, k < N → ¬ hit k → L (g + 1) (nI k) = L g (nI (k + 1))) (he : ∀ g, L (g + 1) (nI N) = K) :
    ∀ (m g k : Nat), k + m = N → m < g → (∀ i, k ≤ i → i < N → ¬ hit i) → L g (nI k) = K
  | 0, g, k, hk, hg, _ => by
    obtain ⟨g, rfl⟩ : ∃ g', g = g' + 1 := ⟨g - 1, by omega⟩
    have : k = N := by omega
    subst this
    exact he g
  | m + 1, g, k, hk, hg, hn => by
    obtain ⟨g, rfl⟩ : ∃ g', g = g' + 1 := ⟨g - 1, by omega⟩
    rw [hs g k (by omega) (hn k (Nat.le_refl _) (by omega))]
    exact scan_none hs he m g (k + 1) (by omega) (by omega) (fun i h1 h2 => hn i (by omega) h2)
theorem scan_at {ρ : Type} {L : Nat → Int32 → Option ρ} {G : Nat → Option ρ} {N : Nat} {hit : Nat → Prop}
    (hs : ∀ g k, k < N → ¬ hit k → L (g + 1) (nI k) = L g (nI (k + 1))) (hh : ∀ g k, k < N → hit k → L (g + 1) (nI k) = G k) :
    ∀ (m g k j : Nat), k + m = j → j < N → m < g → hit j → (∀ i, k ≤ i → i < j → ¬ hit i) → L g (nI k) = G j
  | 0, g, k, j, hk, hj, hg, ht, _ => by
    obtain ⟨g, rfl⟩ : ∃ g', g = g' + 1 := ⟨g - 1, by omega⟩
    have : k = j := by omega
    subst this
    exact hh g k hj ht
  | m + 1, g, k, j, hk, hj, hg, ht, hn => by
    obtain ⟨g, rfl⟩ : ∃ g', g = g' + 1 := ⟨g - 1, by omega⟩
    rw [hs g k (by omega) (hn k (Nat.le_refl _) (by omega))]
    exact scan_at hs hh m g (k + 1) j (by omega) hj (by omega) ht (fun i h1 h2 => hn i (by omega) h2)
theorem nI_m1 {k : Nat} (h : k < 2147483648) : ¬ nI k = -1 := by
  intro e
  have h1 := nI_toInt (n := k) h
  rw [e] at h1
  have h2 : (-1 : Int32).toInt = -1 := rfl
  omega
def smW (w : Nat → Nat → Int32) (o : Nat) (x : Int32) (t : Nat) : Nat → Nat → Int32 := va_up (va_up w 18 (upd (w 18) o x)) 19 (upd (w 19) o (nI t))
def smR (r : Nat → Int32) (o : Nat) (x : Int32) (t : Nat) : Nat → Int32 := upd (upd r (51 + 12 * o + 9) x) (51 + 12 * o + 10) (nI t)
theorem setMark_e {v : Nat → Nat → Int32} {w : Nat → Nat → Int32} {t : Nat} {o : Nat} {x : Int32} (ho : o < 12) : qX3_setMark v w (nI o) x (nI t) = some (smW w o x t) := by
  unfold qX3_setMark smW
  simp (disch := omega) only [gdn, cl, bs_e, va_n]
theorem marks_e {z : Nat → Nat → Int32} {r : Nat → Int32} {t : Nat} {o : Nat} {x : Int32} (ho : o < 12) (h0 : r 0 = nI t) (hx : x ≠ 3) : qX11_marks z r (nI o) x = some (smR r o x t) := by
  unfold qX11_marks smR
  rw [ag9, bd_s, gdn (by omega) (by omega), cl (by omega), bs_e, ag10, bd_s, gdn (by omega) (by omega), cl (by omega), bs_e, upd_n (by omega), h0, if_neg hx]
/-- one outlet more in an order -/
theorem ord_out {n : Nat} {p : Nat} {o : Nat} {out place : Nat → Int32} (h : Ord n out place p) (ho : o < n) (h12 : n ≤ 12) (hm : place o = -1) : p < n ∧ ∀ k, k < p → out k ≠ nI o := by
  have hpn := h.pn
  have hne : ∀ k, k < p → out k ≠ nI o := by
    intro k hk e
    obtain ⟨o', h1, h2, h3⟩ := h.inn k hk
    rw [e] at h2
    have := nI_inj (by omega) (by omega) h2
    subst this
    rw [hm] at h3
    exact nI_m1 (by omega) h3.symm
  refine ⟨?_, hne⟩
  rcases Nat.lt_or_ge p n with hl | hl
  · exact hl
  · exfalso
    have hcl : ∀ k, k < p → (out k).toNatClampNeg < n ∧ out k = nI (out k).toNatClampNeg := by
      intro k hk
      obtain ⟨o', h1, h2, h3⟩ := h.inn k hk
      rw [h2, cl (by omega)]
      exact ⟨h1, rfl⟩
    have := fb_holes n (p + 1) (fun k => if k < p then (out k).toNatClampNeg else o) (by
      intro i hi
      show (if i < p then _ else _) < n
      split
      · exact (hcl i (by assumption)).1
      · exact ho) (by
      intro i j hij hj
      show (if i < p then _ else _) ≠ (if j < p then _ else _)
      rw [if_pos (by omega)]
      split
      · intro e
        obtain ⟨o1, h1, h2, h3⟩ := h.inn i (by omega)
        obtain ⟨o2, g1, g2, g3⟩ := h.inn j (by omega)
        rw [h2, g2, cl (by omega), cl (by omega)] at e
        subst e
        rw [h3] at g3
        have := nI_inj (by omega) (by omega) g3
        omega
      · intro e
        exact hne i (by omega) (by rw [(hcl i (by omega)).2, e]))
    omega
theorem ord_in {n : Nat} {p : Nat} {o : Nat} {k : Nat} {out place : Nat → Int32} (h : Ord n out place p) (h12 : n ≤ 12) (hp : p ≤ 12) (hk : k < p) (ho : o < n) (hm : place o = nI k) : out k = nI o ∧ ∀ i, i < p → out i = nI o → i = k := by
  constructor
  · rcases h.plc o ho with e | ⟨i, h1, h2, h3⟩
    · rw [hm] at e
      exact absurd e (nI_m1 (by omega))
    · rw [hm] at h2
      have := nI_inj (by omega) (by omega) h2
      subst this
      exact h3
  · intro i hi e
    obtain ⟨o1, h1, h2, h3⟩ := h.inn i hi
    rw [e] at h2
    have := nI_inj (by omega) (by omega) h2
    subst this
    rw [hm] at h3
    exact (nI_inj (by omega) (by omega) h3).symm
theorem ord_add {n : Nat} {p : Nat} {o : Nat} {out place : Nat → Int32} (h : Ord n out place p) (ho : o < n) (h12 : n ≤ 12) (hm : place o = -1) : Ord n (upd out p (nI o)) (upd place o (nI p)) (p + 1) := by
  obtain ⟨h1, h2⟩ := ord_out h ho h12 hm
  refine ⟨by omega, ?_, ?_⟩
  · intro k hk
    by_cases e : k = p
    · subst e
      exact ⟨o, ho, by rw [upd_s], by rw [upd_s]⟩
    · obtain ⟨o1, g1, g2, g3⟩ := h.inn k (by omega)
      refine ⟨o1, g1, by rw [upd_n e, g2], ?_⟩
      rw [upd_n, g3]
      intro e2
      subst e2
      exact h2 k (by omega) g2
  · intro i hi
    by_cases e : i = o
    · subst e
      exact Or.inr ⟨p, by omega, by rw [upd_s], by rw [upd_s]⟩
    · rcases h.plc i hi with g | ⟨k, g1, g2, g3⟩
      · exact Or.inl (by rw [upd_n e, g])
      · exact Or.inr ⟨k, by omega, by rw [upd_n e, g2], by rw [upd_n (by omega), g3]⟩
theorem ord_0 {n : Nat} {out place : Nat → Int32} (h : ∀ o, o < n → place o = -1) : Ord n out place 0 := ⟨by omega, fun k hk => by omega, fun o ho => Or.inl (h o ho)⟩
theorem sm_ev {v : Nat → Nat → Int32} {w : Nat → Nat → Int32} {r : Nat → Int32} {n : Nat} {t : Nat} {s : Nat} {c : Nat} {p : Nat} {l : Nat} {f : Nat} {o : Nat} {x : Int32} {pk : Int32 × Int32} (h : Ev v n t s c p l f pk w r) (ho6 : o < n) (h12 : n ≤ 12) (hpp : p ≤ 12) (hll : l ≤ 12) : Ev v n t s c p l f pk (smW w o x t) (smR r o x t) :=
  ⟨(by first | exact h.tick | (simp (disch := omega) only [smW, smR, va_n, va_s, upd_n, upd_s]; exact h.tick) | (simp (disch := omega) only [smW, smR, va_n, va_s, upd_n, upd_s]; done)),
    (by first | exact h.tickr | (simp (disch := omega) only [smW, smR, va_n, va_s, upd_n, upd_s]; exact h.tickr) | (simp (disch := omega) only [smW, smR, va_n, va_s, upd_n, upd_s]; done)),
    (by first | exact h.dark | (simp (disch := omega) only [smW, smR, va_n, va_s, upd_n, upd_s]; exact h.dark) | (simp (disch := omega) only [smW, smR, va_n, va_s, upd_n, upd_s]; done)),
    (by first | exact h.fuse | (simp (disch := omega) only [smW, smR, va_n, va_s, upd_n, upd_s]; exact h.fuse) | (simp (disch := omega) only [smW, smR, va_n, va_s, upd_n, upd_s]; done)),
    (by first | exact h.fuser | (simp (disch := omega) only [smW, smR, va_n, va_s, upd_n, upd_s]; exact h.fuser) | (simp (disch := omega) only [smW, smR, va_n, va_s, upd_n, upd_s]; done)),
    (by first | exact h.retry | (simp (disch := omega) only [smW, smR, va_n, va_s, upd_n, upd_s]; exact h.retry) | (simp (disch := omega) only [smW, smR, va_n, va_s, upd_n, upd_s]; done)),
    (by first | exact h.strict | (simp (disch := omega) only [smW, smR, va_n, va_s, upd_n, upd_s]; exact h.strict) | (simp (disch := omega) only [smW, smR, va_n, va_s, upd_n, upd_s]; done)),
    (by first | exact h.blk | (simp (disch := omega) only [smW, smR, va_n, va_s, upd_n, upd_s]; exact h.blk) | (simp (disch := omega) only [smW, smR, va_n, va_s, upd_n, upd_s]; done)),
    (by first | exact h.trips | (simp (disch := omega) only [smW, smR, va_n, va_s, upd_n, upd_s]; exact h.trips) | (simp (disch := omega) only [smW, smR, va_n, va_s, upd_n, upd_s]; done)),
    (by first | exact h.peak | (simp (disch := omega) only [smW, smR, va_n, va_s, upd_n, upd_s]; exact h.peak) | (simp (disch := omega) only [smW, smR, va_n, va_s, upd_n, upd_s]; done)),
    (by first | exact h.peakr | (simp (disch := omega) only [smW, smR, va_n, va_s, upd_n, upd_s]; exact h.peakr) | (simp (disch := omega) only [smW, smR, va_n, va_s, upd_n, upd_s]; done)),
    (by first | exact h.pat | (simp (disch := omega) only [smW, smR, va_n, va_s, upd_n, upd_s]; exact h.pat) | (simp (disch := omega) only [smW, smR, va_n, va_s, upd_n, upd_s]; done)),
    (by first | exact h.wait | (simp (disch := omega) only [smW, smR, va_n, va_s, upd_n, upd_s]; exact h.wait) | (simp (disch := omega) only [smW, smR, va_n, va_s, upd_n, upd_s]; done)),
    (by first | exact h.waitr | (simp (disch := omega) only [smW, smR, va_n, va_s, upd_n, upd_s]; exact h.waitr) | (simp (disch := omega) only [smW, smR, va_n, va_s, upd_n, upd_s]; done)),
    (by first | exact h.sent | (simp (disch := omega) only [smW, smR, va_n, va_s, upd_n, upd_s]; exact h.sent) | (simp (disch := omega) only [smW, smR, va_n, va_s, upd_n, upd_s]; done)),
    (by first | exact h.sentr | (simp (disch := omega) only [smW, smR, va_n, va_s, upd_n, upd_s]; exact h.sentr) | (simp (disch := omega) only [smW, smR, va_n, va_s, upd_n, upd_s]; done)),
    (by first | exact h.clear | (simp (disch := omega) only [smW, smR, va_n, va_s, upd_n, upd_s]; exact h.clear) | (simp (disch := omega) only [smW, smR, va_n, va_s, upd_n, upd_s]; done)),
    (by first | exact h.pm | (simp (disch := omega) only [smW, smR, va_n, va_s, upd_n, upd_s]; exact h.pm) | (simp (disch := omega) only [smW, smR, va_n, va_s, upd_n, upd_s]; done)),
    (by first | exact h.pmr | (simp (disch := omega) only [smW, smR, va_n, va_s, upd_n, upd_s]; exact h.pmr) | (simp (disch := omega) only [smW, smR, va_n, va_s, upd_n, upd_s]; done)),
    (by first | exact h.lm | (simp (disch := omega) only [smW, smR, va_n, va_s, upd_n, upd_s]; exact h.lm) | (simp (disch := omega) only [smW, smR, va_n, va_s, upd_n, upd_s]; done)),
    (by first | exact h.lmr | (simp (disch := omega) only [smW, smR, va_n, va_s, upd_n, upd_s]; exact h.lmr) | (simp (disch := omega) only [smW, smR, va_n, va_s, upd_n, upd_s]; done)),
    (by first | exact h.lost | (simp (disch := omega) only [smW, smR, va_n, va_s, upd_n, upd_s]; exact h.lost) | (simp (disch := omega) only [smW, smR, va_n, va_s, upd_n, upd_s]; done)),
    (fun k hk => by first | exact h.sby k hk | (simp (disch := omega) only [smW, smR, va_n, va_s, upd_n, upd_s]; exact h.sby k (by omega))),
    (fun k hk => by first | exact h.lby k hk | (simp (disch := omega) only [smW, smR, va_n, va_s, upd_n, upd_s]; exact h.lby k (by omega))),
    (fun o ho => by first | exact h.prio o ho | (simp (disch := omega) only [smW, smR, va_n, va_s, upd_n, upd_s]; exact h.prio o ho)),
    (fun o ho => by first | exact h.wants o ho | (simp (disch := omega) only [smW, smR, va_n, va_s, upd_n, upd_s]; exact h.wants o ho)),
    (fun o ho => by first | exact h.how o ho | (simp (disch := omega) only [smW, smR, va_n, va_s, upd_n, upd_s]; exact h.how o ho)),
    (fun o ho => by first | exact h.left o ho | (simp (disch := omega) only [smW, smR, va_n, va_s, upd_n, upd_s]; exact h.left o ho)),
    (fun o ho => by first | exact h.starts o ho | (simp (disch := omega) only [smW, smR, va_n, va_s, upd_n, upd_s]; exact h.starts o ho)),
    (fun o ho => by first | exact h.ran o ho | (simp (disch := omega) only [smW, smR, va_n, va_s, upd_n, upd_s]; exact h.ran o ho)),
    (fun o ho hw => by first | exact h.asked o ho hw | (simp (disch := omega) only [smW, smR, va_n, va_s, upd_n, upd_s] at hw ⊢; exact h.asked o ho hw) | (simp (disch := omega) only [smW, smR, va_n, va_s, upd_n, upd_s]; exact h.asked o ho hw)),
    (fun o ho => by first | exact h.stop o ho | (simp (disch := omega) only [smW, smR, va_n, va_s, upd_n, upd_s]; exact h.stop o ho)),
    (fun o ho => by first | exact h.poll o ho | (simp (disch := omega) only [smW, smR, va_n, va_s, upd_n, upd_s]; exact h.poll o ho)),
    (fun k hk => by
      by_cases e : k = o
      · subst e
        simp (disch := omega) only [smW, smR, va_n, va_s, upd_n, upd_s]
      · simp (disch := omega) only [smW, smR, va_n, va_s, upd_n, upd_s]
        exact h.mark k hk),
    (fun k hk => by
      by_cases e : k = o
      · subst e
        simp (disch := omega) only [smW, smR, va_n, va_s, upd_n, upd_s]
      · simp (disch := omega) only [smW, smR, va_n, va_s, upd_n, upd_s]
        exact h.time k hk),
    (fun o ho => by first | exact h.known o ho | (simp (disch := omega) only [smW, smR, va_n, va_s, upd_n, upd_s]; exact h.known o ho)),
    (fun o ho => by first | exact h.exp o ho | (simp (disch := omega) only [smW, smR, va_n, va_s, upd_n, upd_s]; exact h.exp o ho)),
    (fun o ho1 ho2 => by first | exact h.knz o ho1 ho2 | (simp (disch := omega) only [smW, smR, va_n, va_s, upd_n, upd_s]; exact h.knz o ho1 ho2)),
    (fun k hk => by first | exact h.msg k hk | (simp (disch := omega) only [smW, smR, va_n, va_s, upd_n, upd_s]; exact h.msg k (by omega))),
    (fun k hk => by first | exact h.pres k hk | (simp (disch := omega) only [smW, smR, va_n, va_s, upd_n, upd_s]; exact h.pres k (by omega))),
    (fun k hk => by first | exact h.lear k hk | (simp (disch := omega) only [smW, smR, va_n, va_s, upd_n, upd_s]; exact h.lear k (by omega)))⟩
theorem sm_iv {w : Nat → Nat → Int32} {n : Nat} {t : Nat} {s : Nat} {c : Nat} {p : Nat} {l : Nat} {f : Nat} {o : Nat} {x : Int32} (hi : Iv n t s c p l f w) (hx : x = 0 ∨ x = 1 ∨ x = 2 ∨ x = 3) : Iv n t s c p l f (smW w o x t) :=
  ⟨(by first | exact hi.n12 | (simp (disch := omega) only [smW, smR, va_n, va_s, upd_n, upd_s]; exact hi.n12) | (have := hi.n12; omega)),
    (by first | exact hi.tb | (simp (disch := omega) only [smW, smR, va_n, va_s, upd_n, upd_s]; exact hi.tb) | (have := hi.tb; omega)),
    (by first | exact hi.sb | (simp (disch := omega) only [smW, smR, va_n, va_s, upd_n, upd_s]; exact hi.sb) | (have := hi.sb; omega)),
    (by first | exact hi.cb | (simp (disch := omega) only [smW, smR, va_n, va_s, upd_n, upd_s]; exact hi.cb) | (have := hi.cb; omega)),
    (by first | exact hi.fb | (simp (disch := omega) only [smW, smR, va_n, va_s, upd_n, upd_s]; exact hi.fb) | (have := hi.fb; omega)),
    (fun o ho => by first | exact hi.st o ho | (simp (disch := omega) only [smW, smR, va_n, va_s, upd_n, upd_s]; exact hi.st o ho)),
    (fun k hk => by
      by_cases e : k = o
      · subst e
        simp (disch := omega) only [smW, smR, va_n, va_s, upd_n, upd_s]
        exact hx
      · simp (disch := omega) only [smW, smR, va_n, va_s, upd_n, upd_s]
        exact hi.mk k hk),
    (fun o ho hw => by first | exact hi.idle o ho hw | (simp (disch := omega) only [smW, smR, va_n, va_s, upd_n, upd_s] at hw ⊢; exact hi.idle o ho hw) | (simp (disch := omega) only [smW, smR, va_n, va_s, upd_n, upd_s]; exact hi.idle o ho hw)),
    (by first | exact hi.s01 | (simp (disch := omega) only [smW, smR, va_n, va_s, upd_n, upd_s]; exact hi.s01) | (have := hi.s01; omega)),
    (by first | exact hi.c01 | (simp (disch := omega) only [smW, smR, va_n, va_s, upd_n, upd_s]; exact hi.c01) | (have := hi.c01; omega)),
    (fun k hk => by first | exact hi.msg k hk | (simp (disch := omega) only [smW, smR, va_n, va_s, upd_n, upd_s]; exact hi.msg k hk)),
    (by first | exact hi.ordP | (simp (disch := omega) only [smW, smR, va_n, va_s, upd_n, upd_s]; exact hi.ordP)),
    (by first | exact hi.ordL | (simp (disch := omega) only [smW, smR, va_n, va_s, upd_n, upd_s]; exact hi.ordL)),
    (fun i h1 h2 => by first | exact hi.kn i h1 h2 | (simp (disch := omega) only [smW, smR, va_n, va_s, upd_n, upd_s]; exact hi.kn i h1 h2))⟩
