-- polls
theorem isDueToPoll_e {v : Nat → Nat → Int32} {w : Nat → Nat → Int32} {r : Nat → Int32} {n : Nat} {t : Nat} {s : Nat} {c : Nat} {p : Nat} {l : Nat} {f : Nat} {o : Nat} {pk : Int32 × Int32} (h : Ev v n t s c p l f pk w r) (ho : o < n) (h12 : n ≤ 12) : qX3_isDueToPoll v w (nI o) (w 0 0) = some (if (w 18 o = 2 ∧ v 4 0 ≤ nI t - w 19 o) ∨ (w 18 o = 3 ∧ ¬ nI t - w 19 o < 5 * v 4 0) then 1 else 0) := by
  unfold qX3_isDueToPoll
  simp (disch := omega) only [gdn, cl, jn_e, h.tick]
  by_cases e1 : w 18 o = 2
  · have e3 : ¬ w 18 o = 3 := by rw [e1]; decide
    rw [if_pos e1, if_neg e3]
    by_cases e2 : v 4 0 ≤ nI t - w 19 o
    · rw [if_pos e2, if_pos (Or.inl ⟨e1, e2⟩)]
    · rw [if_neg e2, if_neg (show ¬ ((w 18 o = 2 ∧ v 4 0 ≤ nI t - w 19 o) ∨ (w 18 o = 3 ∧ ¬ nI t - w 19 o < 5 * v 4 0)) from fun g => g.elim (fun q => e2 q.2) (fun q => e3 q.1))]
  · rw [if_neg e1]
    by_cases e3 : w 18 o = 3
    · rw [if_pos e3]
      by_cases e2 : nI t - w 19 o < 5 * v 4 0
      · rw [if_pos e2, if_neg (show ¬ ((w 18 o = 2 ∧ v 4 0 ≤ nI t - w 19 o) ∨ (w 18 o = 3 ∧ ¬ nI t - w 19 o < 5 * v 4 0)) from fun g => g.elim (fun q => e1 q.1) (fun q => q.2 e2))]
      · rw [if_neg e2, if_pos (Or.inr ⟨e3, e2⟩)]
    · rw [if_neg e3, if_neg (show ¬ ((w 18 o = 2 ∧ v 4 0 ≤ nI t - w 19 o) ∨ (w 18 o = 3 ∧ ¬ nI t - w 19 o < 5 * v 4 0)) from fun g => g.elim (fun q => e1 q.1) (fun q => e3 q.1))]
theorem poll1 {v : Nat → Nat → Int32} {z : Nat → Nat → Int32} {w : Nat → Nat → Int32} {r : Nat → Int32} {n : Nat} {t : Nat} {s : Nat} {c : Nat} {p : Nat} {l : Nat} {f : Nat} {o : Nat} {pk : Int32 × Int32} (hp : Pl v z n) (h : Ev v n t s c p l f pk w r) (hi : Iv n t s c p l f w) (ho : o < n) (hc : c < 72) (hs : s + 1 ≤ 72 * t + 72) : ∃ w2 r2 s2 c2,
    (∀ (K : (Nat → Nat → Int32) → Option (Nat → Nat → Int32)) (g : Nat), qX9_sendPolls_L2 v K (g + 1) (nI o) w = qX9_sendPolls_L2 v K g (nI (o + 1)) w2) ∧
    (∀ (K : (Nat → Int32) → Option (Nat → Int32)) (g : Nat), qX11_polls_L2 z K (g + 1) (nI o) r = qX11_polls_L2 z K g (nI (o + 1)) r2) ∧
    Ev v n t s2 c2 p l f pk w2 r2 ∧ Iv n t s2 c2 p l f w2 ∧ c2 ≤ c + 1 ∧ s2 ≤ s + 1 := by
  have h12 := hi.n12
  have hpp := hi.ordP.pn
  have hll := hi.ordL.pn
  have hW : ∀ (K : (Nat → Nat → Int32) → Option (Nat → Nat → Int32)) (g : Nat), qX9_sendPolls_L2 v K (g + 1) (nI o) w = if (w 18 o = 2 ∧ v 4 0 ≤ nI t - w 19 o) ∨ (w 18 o = 3 ∧ ¬ nI t - w 19 o < 5 * v 4 0) then bd (qX8_send v (tmW w o t) 5 (nI o) (-1)) (fun w_7 => qX9_sendPolls_L2 v K g (nI (o + 1)) w_7) else qX9_sendPolls_L2 v K g (nI (o + 1)) w := by
    intro K g
    rw [qX9_sendPolls_L2, hp.v0, if_neg (nle ho (by omega)), isDueToPoll_e h ho h12, bd_s]
    simp (disch := omega) only [jn_e, gdn, cl, bs_e, p1, h.tick]
    split
    · rw [if_neg (show ¬ (1 : Int32) = 0 by decide)]
      rfl
    · rw [if_pos rfl]
  have hR : ∀ (K : (Nat → Int32) → Option (Nat → Int32)) (g : Nat), qX11_polls_L2 z K (g + 1) (nI o) r = if (w 18 o = 2 ∧ v 4 0 ≤ nI t - w 19 o) ∨ (w 18 o = 3 ∧ ¬ nI t - w 19 o < 5 * v 4 0) then bd (qX11_sends z r 5 (nI o) (-1)) (fun r_7 => qX11_polls_L2 z K g (nI (o + 1)) (upd r_7 (51 + 12 * o + 10) (r_7 0))) else qX11_polls_L2 z K g (nI (o + 1)) r := by
    intro K g
    rw [qX11_polls_L2, hp.z1, if_neg (nle ho (by omega))]
    simp (disch := omega) only [jn_e, gdn, cl, bs_e, bd_s, p1, ag9, ag10, h.tickr, ← h.mark, ← h.time, ← h.pat]
    rcases hi.mk o ho with e | e | e | e
    · rw [if_pos (show w 18 o < 2 by rw [e]; decide), if_neg (show ¬ ((w 18 o = 2 ∧ v 4 0 ≤ nI t - w 19 o) ∨ (w 18 o = 3 ∧ ¬ nI t - w 19 o < 5 * v 4 0)) by rw [e]; exact fun g => g.elim (fun q => absurd q.1 (by decide)) (fun q => absurd q.1 (by decide)))]
    · rw [if_pos (show w 18 o < 2 by rw [e]; decide), if_neg (show ¬ ((w 18 o = 2 ∧ v 4 0 ≤ nI t - w 19 o) ∨ (w 18 o = 3 ∧ ¬ nI t - w 19 o < 5 * v 4 0)) by rw [e]; exact fun g => g.elim (fun q => absurd q.1 (by decide)) (fun q => absurd q.1 (by decide)))]
    · rw [if_neg (show ¬ w 18 o < 2 by rw [e]; decide), if_pos e]
      by_cases e2 : v 4 0 ≤ nI t - w 19 o
      · rw [if_pos e2, if_pos (Or.inl ⟨e, e2⟩)]
      · rw [if_neg e2, if_neg (show ¬ ((w 18 o = 2 ∧ v 4 0 ≤ nI t - w 19 o) ∨ (w 18 o = 3 ∧ ¬ nI t - w 19 o < 5 * v 4 0)) from fun g => g.elim (fun q => e2 q.2) (fun q => absurd (e.symm.trans q.1) (by decide)))]
    · rw [if_neg (show ¬ w 18 o < 2 by rw [e]; decide), if_neg (show ¬ w 18 o = 2 by rw [e]; decide)]
      by_cases e2 : 5 * v 4 0 ≤ nI t - w 19 o
      · rw [if_pos e2, if_pos (show ((w 18 o = 2 ∧ v 4 0 ≤ nI t - w 19 o) ∨ (w 18 o = 3 ∧ ¬ nI t - w 19 o < 5 * v 4 0)) from Or.inr ⟨e, Int32.not_lt.mpr e2⟩)]
      · rw [if_neg e2, if_neg (show ¬ ((w 18 o = 2 ∧ v 4 0 ≤ nI t - w 19 o) ∨ (w 18 o = 3 ∧ ¬ nI t - w 19 o < 5 * v 4 0)) from fun g => g.elim (fun q => absurd (e.symm.trans q.1) (by decide)) (fun q => e2 (Int32.not_lt.mp q.2)))]
  by_cases e : (w 18 o = 2 ∧ v 4 0 ≤ nI t - w 19 o) ∨ (w 18 o = 3 ∧ ¬ nI t - w 19 o < 5 * v 4 0)
  · obtain ⟨w2, r2, c2, g1, g2, g3, g4, g5, g6, g7, g8, g9, g10⟩ := send_e (kd := 5) (x := -1) hp (tm_ev h ho h12 (by omega) (by omega)) (tm_iv (o := o) hi) (by omega) ho hc hs (by omega)
    have hr := g10 r (fun i hi2 => by unfold tmR; rw [upd_n (by omega)])
    rw [k5] at g1 hr
    have hmx : upd (mix r r2) (51 + 12 * o + 10) ((mix r r2) 0) = r2 := by
      funext i
      rw [upd_apply']
      unfold mix
      by_cases e3 : i = 51 + 12 * o + 10
      · rw [if_pos e3, g8 i (by omega) (by omega), e3, tmR, upd_s, if_neg (by omega), g9.1, tmR, upd_n (by omega), h.tickr]
      · rw [if_neg e3]
        split
        · rw [g8 i (by omega) (by omega), tmR, upd_n e3]
        · rfl
    refine ⟨w2, r2, s + 1, c2, fun K g => ?_, fun K g => ?_, g3, g4, by omega, by omega⟩
    · rw [hW, if_pos e, g1, bd_s]
    · rw [hR, if_pos e, hr, bd_s, hmx]
  · refine ⟨w, r, s, c, fun K g => ?_, fun K g => ?_, h, hi, by omega, by omega⟩
    · rw [hW, if_neg e]
    · rw [hR, if_neg e]
theorem polls_all {v : Nat → Nat → Int32} {z : Nat → Nat → Int32} {w : Nat → Nat → Int32} {r : Nat → Int32} {n : Nat} {t : Nat} {s : Nat} {c : Nat} {p : Nat} {l : Nat} {f : Nat} {pk : Int32 × Int32} (hp : Pl v z n) (h : Ev v n t s c p l f pk w r) (hi : Iv n t s c p l f w) (hc : c ≤ 4 * n) (hs : s ≤ 72 * t + 4 * n) : ∃ w2 r2 s2 c2, qX9_sendPolls v w = some w2 ∧
    qX11_polls z r = some r2 ∧ Ev v n t s2 c2 p l f pk w2 r2 ∧ Iv n t s2 c2 p l f w2 ∧ c2 ≤ 5 * n ∧ s2 ≤ 72 * t + 5 * n := by
  have h12 := hi.n12
  have := lpp (L1 := fun g i w => qX9_sendPolls_L2 v (fun (w_3 : Nat → Nat → Int32) => some w_3) g i w) (L2 := fun g i r => qX11_polls_L2 z (fun (rw_3 : Nat → Int32) => some rw_3) g i r) (K1 := fun w => some w) (K2 := fun r => some r) (N := n)
    (fun k w r => ∃ s2 c2, Ev v n t s2 c2 p l f pk w r ∧ Iv n t s2 c2 p l f w ∧ c2 ≤ 4 * n + k ∧ s2 ≤ 72 * t + 4 * n + k) (by
      intro k w r hk ⟨s2, c2, h1, h2, h3, h4⟩
      obtain ⟨w2, r2, s3, c3, a1, a2, a3, a4, a5, a6⟩ := poll1 hp h1 h2 hk (by omega) (by omega)
      exact ⟨w2, r2, fun g => a1 _ g, fun g => a2 _ g, s3, c3, a3, a4, by omega, by omega⟩) (by
      intro g w r _
      constructor
      · show qX9_sendPolls_L2 v _ (g + 1) (nI n) w = _
        rw [qX9_sendPolls_L2, hp.v0, if_pos (Int32.le_refl _)]
      · show qX11_polls_L2 z _ (g + 1) (nI n) r = _
        rw [qX11_polls_L2, hp.z1, if_pos (Int32.le_refl _)]) n fu fu 0 w r (by omega) (by unfold fu; omega) (by unfold fu; omega) ⟨s, c, h, hi, by omega, by omega⟩
  obtain ⟨w2, r2, a1, a2, s2, c2, a3, a4, a5, a6⟩ := this
  exact ⟨w2, r2, s2, c2, a1, a2, a3, a4, by omega, by omega⟩
