-- grants are sent, on both sides
theorem lto_c {u w : Nat → Nat → Int32} {a b : Nat} (h1 : u 10 = w 10) (h2 : u 23 = w 23) : lto u a b ↔ lto w a b := by
  unfold lto plc
  rw [h1, h2]
theorem gst_keep {v : Nat → Nat → Int32} {w : Nat → Nat → Int32} {n : Nat} {f : Nat} {m : Nat} {i : Nat} {q : Nat → Nat} (h12 : n ≤ 12) (hq : Qu w n m q) (hi : i < m) : ∀ (d k : Nat) (st : Int32 × Int32 × Bool), i < k → k + d ≤ m → bt (lfold (gstep v w n f q) k d st).1 (q i) = bt st.1 (q i)
  | 0, _, _, _, _ => rfl
  | d + 1, k, st, h1, h2 => by
    show bt (lfold (gstep v w n f q) (k + 1) d (gstep v w n f q k st)).1 (q i) = _
    rw [gst_keep h12 hq hi d (k + 1) _ (by omega) (by omega)]
    have hqi := (hq.2.1 i hi).1
    have hqk := (hq.2.1 k (by omega)).1
    have hne := qu_ne hq i k h1 (by omega)
    unfold gstep
    split
    · rfl
    · split
      · split
        · split <;> rfl
        · show bt (st.1 ||| (1 <<< (nI (q k) &&& 31))) (q i) = _
          rw [bt_so (by omega) (by omega) hne]
      · rfl
theorem sg_rest {v : Nat → Nat → Int32} {w : Nat → Nat → Int32} {m : Nat} {i : Nat} {x : Int32} {q : Nat → Nat} (hq8 : w 8 0 = nI m) (hm : m ≤ 12) (hqn : ∀ j, j < m → q j < 12) (hq9 : ∀ j, j < m → w 9 j = nI (q j)) (K : (Nat → Nat → Int32) → Option (Nat → Nat → Int32)) (hF : ∀ j, i ≤ j → j < m → bt x (q j) = false) : ∀ (d k g : Nat), k + d = m → i ≤ k → d < g → qX9_sendGrants_L7 v x K g (nI k) w = K w
  | 0, k, g, hk, _, hg => by
    obtain ⟨g, rfl⟩ : ∃ g', g = g' + 1 := ⟨g - 1, by omega⟩
    have : k = m := by omega
    subst this
    rw [qX9_sendGrants_L7, hq8, if_pos (Int32.le_refl _)]
  | d + 1, k, g, hk, hik, hg => by
    obtain ⟨g, rfl⟩ : ∃ g', g = g' + 1 := ⟨g - 1, by omega⟩
    have := hqn k (by omega)
    rw [qX9_sendGrants_L7, hq8, if_neg (nle (show k < m by omega) (by omega)), gdn (by omega) (by omega), cl (by omega), hq9 k (by omega), isIn_e _ (by omega), bd_s, jn_e, b01_0.mpr (hF k hik (by omega)), if_pos rfl, p1]
    exact sg_rest hq8 hm hqn hq9 K hF d (k + 1) g (by omega) (by omega) (by omega)
theorem qu_ev {v : Nat → Nat → Int32} {w : Nat → Nat → Int32} {r : Nat → Int32} {n : Nat} {t : Nat} {s : Nat} {c : Nat} {p : Nat} {l : Nat} {f : Nat} {pk : Int32 × Int32} {wq : Nat → Nat → Int32} (h : Ev v n t s c p l f pk w r) (hq : ∀ i, i ≠ 8 → i ≠ 9 → wq i = w i) : Ev v n t s c p l f pk wq r :=
  ⟨(by first | exact h.tick | (simp (disch := omega) only [hq]; exact h.tick) | (simp (disch := omega) only [hq]; done)),
    (by first | exact h.tickr | (simp (disch := omega) only [hq]; exact h.tickr) | (simp (disch := omega) only [hq]; done)),
    (by first | exact h.dark | (simp (disch := omega) only [hq]; exact h.dark) | (simp (disch := omega) only [hq]; done)),
    (by first | exact h.fuse | (simp (disch := omega) only [hq]; exact h.fuse) | (simp (disch := omega) only [hq]; done)),
    (by first | exact h.fuser | (simp (disch := omega) only [hq]; exact h.fuser) | (simp (disch := omega) only [hq]; done)),
    (by first | exact h.retry | (simp (disch := omega) only [hq]; exact h.retry) | (simp (disch := omega) only [hq]; done)),
    (by first | exact h.strict | (simp (disch := omega) only [hq]; exact h.strict) | (simp (disch := omega) only [hq]; done)),
    (by first | exact h.blk | (simp (disch := omega) only [hq]; exact h.blk) | (simp (disch := omega) only [hq]; done)),
    (by first | exact h.trips | (simp (disch := omega) only [hq]; exact h.trips) | (simp (disch := omega) only [hq]; done)),
    (by first | exact h.peak | (simp (disch := omega) only [hq]; exact h.peak) | (simp (disch := omega) only [hq]; done)),
    (by first | exact h.peakr | (simp (disch := omega) only [hq]; exact h.peakr) | (simp (disch := omega) only [hq]; done)),
    (by first | exact h.pat | (simp (disch := omega) only [hq]; exact h.pat) | (simp (disch := omega) only [hq]; done)),
    (by first | exact h.wait | (simp (disch := omega) only [hq]; exact h.wait) | (simp (disch := omega) only [hq]; done)),
    (by first | exact h.waitr | (simp (disch := omega) only [hq]; exact h.waitr) | (simp (disch := omega) only [hq]; done)),
    (by first | exact h.sent | (simp (disch := omega) only [hq]; exact h.sent) | (simp (disch := omega) only [hq]; done)),
    (by first | exact h.sentr | (simp (disch := omega) only [hq]; exact h.sentr) | (simp (disch := omega) only [hq]; done)),
    (by first | exact h.clear | (simp (disch := omega) only [hq]; exact h.clear) | (simp (disch := omega) only [hq]; done)),
    (by first | exact h.pm | (simp (disch := omega) only [hq]; exact h.pm) | (simp (disch := omega) only [hq]; done)),
    (by first | exact h.pmr | (simp (disch := omega) only [hq]; exact h.pmr) | (simp (disch := omega) only [hq]; done)),
    (by first | exact h.lm | (simp (disch := omega) only [hq]; exact h.lm) | (simp (disch := omega) only [hq]; done)),
    (by first | exact h.lmr | (simp (disch := omega) only [hq]; exact h.lmr) | (simp (disch := omega) only [hq]; done)),
    (by first | exact h.lost | (simp (disch := omega) only [hq]; exact h.lost) | (simp (disch := omega) only [hq]; done)),
    (fun k hk => by first | exact h.sby k hk | (simp (disch := omega) only [hq]; exact h.sby k (by omega))),
    (fun k hk => by first | exact h.lby k hk | (simp (disch := omega) only [hq]; exact h.lby k (by omega))),
    (fun o ho => by first | exact h.prio o ho | (simp (disch := omega) only [hq]; exact h.prio o ho)),
    (fun o ho => by first | exact h.wants o ho | (simp (disch := omega) only [hq]; exact h.wants o ho)),
    (fun o ho => by first | exact h.how o ho | (simp (disch := omega) only [hq]; exact h.how o ho)),
    (fun o ho => by first | exact h.left o ho | (simp (disch := omega) only [hq]; exact h.left o ho)),
    (fun o ho => by first | exact h.starts o ho | (simp (disch := omega) only [hq]; exact h.starts o ho)),
    (fun o ho => by first | exact h.ran o ho | (simp (disch := omega) only [hq]; exact h.ran o ho)),
    (fun o ho hw => by first | exact h.asked o ho hw | (simp (disch := omega) only [hq] at hw ⊢; exact h.asked o ho hw) | (simp (disch := omega) only [hq]; exact h.asked o ho hw)),
    (fun o ho => by first | exact h.stop o ho | (simp (disch := omega) only [hq]; exact h.stop o ho)),
    (fun o ho => by first | exact h.poll o ho | (simp (disch := omega) only [hq]; exact h.poll o ho)),
    (fun o ho => by first | exact h.mark o ho | (simp (disch := omega) only [hq]; exact h.mark o ho)),
    (fun o ho => by first | exact h.time o ho | (simp (disch := omega) only [hq]; exact h.time o ho)),
    (fun o ho => by first | exact h.known o ho | (simp (disch := omega) only [hq]; exact h.known o ho)),
    (fun o ho => by first | exact h.exp o ho | (simp (disch := omega) only [hq]; exact h.exp o ho)),
    (fun o ho1 ho2 => by first | exact h.knz o ho1 ho2 | (simp (disch := omega) only [hq]; exact h.knz o ho1 ho2)),
    (fun k hk => by first | exact h.msg k hk | (simp (disch := omega) only [hq]; exact h.msg k (by omega))),
    (fun k hk => by first | exact h.pres k hk | (simp (disch := omega) only [hq]; exact h.pres k (by omega))),
    (fun k hk => by first | exact h.lear k hk | (simp (disch := omega) only [hq]; exact h.lear k (by omega)))⟩
theorem qu_iv {w : Nat → Nat → Int32} {n : Nat} {t : Nat} {s : Nat} {c : Nat} {p : Nat} {l : Nat} {f : Nat} {wq : Nat → Nat → Int32} (hi : Iv n t s c p l f w) (hq : ∀ i, i ≠ 8 → i ≠ 9 → wq i = w i) : Iv n t s c p l f wq :=
  ⟨(by first | exact hi.n12 | (simp (disch := omega) only [hq]; exact hi.n12) | (have := hi.n12; omega)),
    (by first | exact hi.tb | (simp (disch := omega) only [hq]; exact hi.tb) | (have := hi.tb; omega)),
    (by first | exact hi.sb | (simp (disch := omega) only [hq]; exact hi.sb) | (have := hi.sb; omega)),
    (by first | exact hi.cb | (simp (disch := omega) only [hq]; exact hi.cb) | (have := hi.cb; omega)),
    (by first | exact hi.fb | (simp (disch := omega) only [hq]; exact hi.fb) | (have := hi.fb; omega)),
    (fun o ho => by first | exact hi.st o ho | (simp (disch := omega) only [hq]; exact hi.st o ho)),
    (fun o ho => by first | exact hi.mk o ho | (simp (disch := omega) only [hq]; exact hi.mk o ho)),
    (fun o ho hw => by first | exact hi.idle o ho hw | (simp (disch := omega) only [hq] at hw ⊢; exact hi.idle o ho hw) | (simp (disch := omega) only [hq]; exact hi.idle o ho hw)),
    (by first | exact hi.s01 | (simp (disch := omega) only [hq]; exact hi.s01) | (have := hi.s01; omega)),
    (by first | exact hi.c01 | (simp (disch := omega) only [hq]; exact hi.c01) | (have := hi.c01; omega)),
    (fun k hk => by first | exact hi.msg k hk | (simp (disch := omega) only [hq]; exact hi.msg k hk)),
    (by first | exact hi.ordP | (simp (disch := omega) only [hq]; exact hi.ordP)),
    (by first | exact hi.ordL | (simp (disch := omega) only [hq]; exact hi.ordL)),
    (fun i h1 h2 => by first | exact hi.kn i h1 h2 | (simp (disch := omega) only [hq]; exact hi.kn i h1 h2))⟩
theorem grants_key {v : Nat → Nat → Int32} {z : Nat → Nat → Int32} {w : Nat → Nat → Int32} {n : Nat} {t : Nat} {p : Nat} {l : Nat} {f : Nat} {m : Nat} {pk : Int32 × Int32} {wq : Nat → Nat → Int32} {q : Nat → Nat} (hp : Pl v z n) (h12 : n ≤ 12) (e2 : ∀ i, i ≠ 8 → i ≠ 9 → wq i = w i) (e3 : wq 8 0 = nI m) (e4 : ∀ i, i < m → wq 9 i = nI (q i)) (hq : Qu w n m q) : ∀ (d i g g2 b s c : Nat) (st y : Int32) (u : Nat → Nat → Int32) (r : Nat → Int32), i + d = m → d < g → d < g2 → b ≤ 24000 → Lft n i m q y → Ev v n t s c p l f pk u r → Iv n t s c p l f u →
      (∀ j, j < 28 → j ≠ 18 → j ≠ 19 → u j = wq j) → (∀ k, k < n → (u 18 k = 3 ↔ w 18 k = 3)) → (∀ j, i ≤ j → j < m → bt st (q j) = false) → c ≤ 5 * n + i → s ≤ 72 * t + 5 * n + i →
      ∃ u2 r2 s2 c2, qX9_sendGrants_L7 v (lfold (gstep v w n f q) i d (st, nI b, false)).1 (fun (w_6 : Nat → Nat → Int32) => some w_6) g (nI i) u = some u2 ∧
        qX11_grantsOf_L24 z 1 (fun (x3_8 : Int32) (rw_9 : Nat → Int32) => some (x3_8, rw_9)) g2 st y (nI f - nI b) r = some ((lfold (gstep v w n f q) i d (st, nI b, false)).1, r2) ∧
        Ev v n t s2 c2 p l f pk u2 r2 ∧ Iv n t s2 c2 p l f u2 := by
  have hmn := hq.1
  intro d
  induction d with
  | zero =>
    intro i g g2 b s c st y u r hd hg hg2 hb hy h hi hu h3 hst hc hs
    obtain ⟨g, rfl⟩ : ∃ g', g = g' + 1 := ⟨g - 1, by omega⟩
    obtain ⟨g2, rfl⟩ : ∃ g', g2 = g' + 1 := ⟨g2 - 1, by omega⟩
    have : i = m := by omega
    subst this
    refine ⟨u, r, s, c, ?_, ?_, h, hi⟩
    · rw [qX9_sendGrants_L7, hu 8 (by omega) (by omega) (by omega), e3, if_pos (Int32.le_refl _)]
    · rw [qX11_grantsOf_L24, if_pos (lft_0 h12 hy)]
      rfl
  | succ d ih =>
    intro i g g2 b s c st y u r hd hg hg2 hb hy h hi hu h3 hst hc hs
    obtain ⟨g, rfl⟩ : ∃ g', g = g' + 1 := ⟨g - 1, by omega⟩
    obtain ⟨g2, rfl⟩ : ∃ g', g2 = g' + 1 := ⟨g2 - 1, by omega⟩
    have hqi := (hq.2.1 i (by omega)).1
    have hpp := hi.ordP.pn
    have hll := hi.ordL.pn
    have hy2 := lft_s h12 hy (by omega) (fun j hj => (hq.2.1 j hj).1) (qu_ne hq)
    have u8 : u 8 0 = nI m := by rw [hu 8 (by omega) (by omega) (by omega), e3]
    have u9 : ∀ j, j < m → u 9 j = nI (q j) := fun j hj => by rw [hu 9 (by omega) (by omega) (by omega), e4 j hj]
    have u20 : u 20 = w 20 := by rw [hu 20 (by omega) (by omega) (by omega), e2 20 (by omega) (by omega)]
    have u4 : u 4 = w 4 := by rw [hu 4 (by omega) (by omega) (by omega), e2 4 (by omega) (by omega)]
    have u10 : u 10 = w 10 := by rw [hu 10 (by omega) (by omega) (by omega), e2 10 (by omega) (by omega)]
    have u23 : u 23 = w 23 := by rw [hu 23 (by omega) (by omega) (by omega), e2 23 (by omega) (by omega)]
    have ulk : lk3 u n = lk3 w n := bset_cong fun k hk => decide_eq_decide.mpr (h3 k hk)
    have hcl : ∀ F : Int32, qX9_sendGrants_L7 v F (fun (w_6 : Nat → Nat → Int32) => some w_6) (g + 1) (nI i) u = if bt F (q i) = true then bd (qX8_send v (smW u (q i) 2 t) 4 (nI (q i)) (-1)) (fun w_10 => qX9_sendGrants_L7 v F (fun (w_6 : Nat → Nat → Int32) => some w_6) g (nI (i + 1)) w_10) else qX9_sendGrants_L7 v F (fun (w_6 : Nat → Nat → Int32) => some w_6) g (nI (i + 1)) u := by
      intro F
      rw [qX9_sendGrants_L7, u8, if_neg (nle (show i < m by omega) (by omega)), gdn (by omega) (by omega), cl (by omega), u9 i (by omega), isIn_e _ (by omega), bd_s, jn_e, h.tick, setMark_e (by omega), bd_s, p1]
      cases hF : bt F (q i)
      · rw [b01_0.mpr hF, if_pos rfl]
        rfl
      · rw [b01_1.mpr hF, if_neg (show ¬ (1 : Int32) = 0 by decide)]
        rfl
    rw [l24_step hp h hi g2 1 y st _ (show i < m by omega) (fun j hj => (hq.2.1 j hj).1) (fun a b h1 h2 => (lto_c u10 u23).mpr (hq.2.2.1 a b h1 h2)) hy hb, hcl, ulk, u20, u4]
    have hL : lfold (gstep v w n f q) i (d + 1) (st, nI b, false) = lfold (gstep v w n f q) (i + 1) d (gstep v w n f q i (st, nI b, false)) := rfl
    rw [hL]
    rw [gst_keep h12 hq (show i < m by omega) d (i + 1) _ (by omega) (by omega)]
    have hst1 := hst i (Nat.le_refl _) (by omega)
    by_cases c1 : v 14 (q i) &&& (lk3 w n ^^^ (-1)) = 0
    · rw [if_pos c1]
      by_cases c2 : nI f < nI b + w 20 (q i)
      · rw [if_pos c2]
        by_cases c3 : w 4 0 = 0
        · have : gstep v w n f q i (st, nI b, false) = (st, nI b, false) := by
            unfold gstep
            rw [if_neg (show ¬ ((st, nI b, false) : Int32 × Int32 × Bool).2.2 = true from Bool.false_ne_true), if_pos c1, if_pos c2, if_pos c3]
          rw [if_pos c3, this, hst1, if_neg Bool.false_ne_true]
          exact ih (i + 1) g g2 b s c st _ u r (by omega) (by omega) (by omega) hb hy2 h hi hu h3 (fun j h1 h2 => hst j (by omega) h2) (by omega) (by omega)
        · have : gstep v w n f q i (st, nI b, false) = (st, nI b, true) := by
            unfold gstep
            rw [if_neg (show ¬ ((st, nI b, false) : Int32 × Int32 × Bool).2.2 = true from Bool.false_ne_true), if_pos c1, if_pos c2, if_neg c3]
          rw [if_neg c3, this, gst_stop _ _ _ rfl]
          show ∃ u2 r2 s2 c2, (if bt st (q i) = true then _ else qX9_sendGrants_L7 v st _ g (nI (i + 1)) u) = some u2 ∧ _ = some (st, r2) ∧ _ ∧ _
          rw [hst1, if_neg Bool.false_ne_true]
          refine ⟨u, r, s, c, ?_, rfl, h, hi⟩
          exact sg_rest u8 (by omega) (fun j hj => by have := (hq.2.1 j hj).1; omega) u9 _ (i := i) hst d (i + 1) g (by omega) (by omega) (by omega)
      · have : gstep v w n f q i (st, nI b, false) = (st ||| (1 <<< (nI (q i) &&& 31)), nI b + w 20 (q i), false) := by
          unfold gstep
          rw [if_neg (show ¬ ((st, nI b, false) : Int32 × Int32 × Bool).2.2 = true from Bool.false_ne_true), if_pos c1, if_neg c2]
        obtain ⟨b2, hb2, eb2⟩ := gst_b hp h hi hqi st hb (by rw [u20]; exact c2)
        rw [u20] at eb2
        rw [if_neg c2, this, if_neg (show ¬ (1 : Int32) = 0 by decide), eb2]
        show ∃ u2 r2 s2 c2, (if bt (st ||| (1 <<< (nI (q i) &&& 31))) (q i) = true then _ else _) = some u2 ∧ _ ∧ _ ∧ _
        rw [bt_s (by omega), if_pos rfl]
        obtain ⟨w2, r2, c2, g1, g2', g3, g4, g5, g6, g7, g8, g9, g10⟩ := send_e (kd := 4) (x := -1) hp (sm_ev (x := 2) h hqi h12 (by omega) (by omega)) (sm_iv (o := q i) hi (Or.inr (Or.inr (Or.inl rfl)))) (by omega) hqi (by omega) (by omega) (by omega)
        have hr := g10 r (fun i hi2 => by unfold smR; rw [upd_n (by omega), upd_n (by omega)])
        rw [k4] at g1 hr
        have hmx : smR (mix r r2) (q i) 2 t = r2 := by
          funext j
          unfold smR
          rw [upd_apply', upd_apply']
          unfold mix
          by_cases e3 : j = 51 + 12 * q i + 10
          · rw [if_pos e3, g8 j (by omega) (by omega), e3, smR, upd_s]
          · rw [if_neg e3]
            by_cases e5 : j = 51 + 12 * q i + 9
            · rw [if_pos e5, g8 j (by omega) (by omega), e5, smR, upd_n (by omega), upd_s]
            · rw [if_neg e5]
              split
              · rw [g8 j (by omega) (by omega), smR, upd_n e3, upd_n e5]
              · rfl
        have hm0 : mix r r2 0 = nI t := by
          unfold mix
          rw [if_neg (by omega), g9.1, smR, upd_n (by omega), upd_n (by omega), h.tickr]
        rw [g1, bd_s, hr, bd_s, marks_e (by omega) hm0 (by decide), bd_s, hmx]
        refine ih (i + 1) g g2 b2 (s + 1) c2 _ _ w2 r2 (by omega) (by omega) (by omega) hb2 hy2 g3 g4 ?_ ?_ ?_ (by omega) (by omega)
        · intro j h1 h2 h3
          rw [g7 j h1, smW, va_n h3, va_n h2, hu j h1 h2 h3]
        · intro k hk
          rw [g7 18 (by omega), smW, va_n (by omega), va_s, ← h3 k hk]
          by_cases e5 : k = q i
          · rw [e5, upd_s]
            have hw1 := (hq.2.1 i (by omega)).2
            constructor
            · intro e
              exact absurd e (by decide)
            · intro e
              rw [h3 (q i) hqi, hw1] at e
              exact absurd e (by decide)
          · rw [upd_n e5]
        · intro j h1 h2
          have := (hq.2.1 j h2).1
          rw [bt_so (by omega) (by omega) (fun e => qu_ne hq i j (by omega) h2 e.symm)]
          exact hst j (by omega) h2
    · have : gstep v w n f q i (st, nI b, false) = (st, nI b, false) := by
        unfold gstep
        rw [if_neg (show ¬ ((st, nI b, false) : Int32 × Int32 × Bool).2.2 = true from Bool.false_ne_true), if_neg c1]
      rw [if_neg c1, this, hst1, if_neg Bool.false_ne_true]
      exact ih (i + 1) g g2 b s c st _ u r (by omega) (by omega) (by omega) hb hy2 h hi hu h3 (fun j h1 h2 => hst j (by omega) h2) (by omega) (by omega)
theorem grants_all {v : Nat → Nat → Int32} {z : Nat → Nat → Int32} {w : Nat → Nat → Int32} {r : Nat → Int32} {n : Nat} {t : Nat} {s : Nat} {c : Nat} {p : Nat} {l : Nat} {f : Nat} {pk : Int32 × Int32} (hp : Pl v z n) (h : Ev v n t s c p l f pk w r) (hi : Iv n t s c p l f w) (hc : c ≤ 5 * n) (hs : s ≤ 72 * t + 5 * n) : ∃ w2 r2 x s2 c2, qX9_sendGrants v w = some w2 ∧ qX11_grantsOf z r 1 = some (x, r2) ∧ Ev v n t s2 c2 p l f pk w2 r2 ∧ Iv n t s2 c2 p l f w2 := by
  have h12 := hi.n12
  obtain ⟨wq, m, q, e1, e2, e3, e4, hq⟩ := grantable_e hp hi h
  have hmn := hq.1
  obtain ⟨a0, ha0, ea0⟩ := rsv_b hp h
  have key := grants_key (f := f) (pk := pk) (t := t) (p := p) (l := l) hp h12 e2 e3 e4 hq
  have hEq : Ev v n t s c p l f pk wq r := qu_ev h e2
  have hIq : Iv n t s c p l f wq := qu_iv hi e2
  obtain ⟨u2, r2, s2, c2, k1, k2, k3, k4⟩ := key m 0 fu fu a0 s c 0 (bset n (fun k => decide (w 18 k = 1))) wq r (by omega) (by unfold fu; omega) (by unfold fu; omega) ha0 (lft_i h12 hq) hEq hIq (fun j _ _ _ => rfl) (fun k _ => by rw [e2 18 (by omega) (by omega)]) (fun j h1 h2 => b_0 _) (by omega) (by omega)
  refine ⟨u2, r2, (lfold (gstep v w n f q) 0 m (0, nI a0, false)).1, s2, c2, ?_, ?_, k3, k4⟩
  · unfold qX9_sendGrants
    rw [e1, bd2_s, ea0]
    exact k1
  · unfold qX11_grantsOf
    rw [withMark_e hp h, bd_s, reservedAll_e hp h, bd_s, h.fuser, ea0]
    exact k2
