-- all messages are received
theorem rcv1 {v : Nat → Nat → Int32} {z : Nat → Nat → Int32} {w : Nat → Nat → Int32} {r : Nat → Int32} {n : Nat} {t : Nat} {s : Nat} {c : Nat} {p : Nat} {l : Nat} {f : Nat} {k : Nat} {pk : Int32 × Int32} (hp : Pl v z n) (h : Ev v n t s c p l f pk w r) (hi : Iv n t s c p l f w) (hk : k < c) : ∃ w2 r2 p2, (∀ (K : (Nat → Nat → Int32) → Option (Nat → Nat → Int32)) (g : Nat), qX9_receiveMessages_L2 v K (g + 1) (nI k) w = qX9_receiveMessages_L2 v K g (nI (k + 1)) w2) ∧
    qX11_receives z r (195 + 3 * nI k) = some r2 ∧ Ev v n t s c p2 l f pk w2 r2 ∧ Iv n t s c p2 l f w2 := by
  obtain ⟨kd, o, hkd, ho, e1, e2, e3⟩ := hi.msg k hk
  obtain ⟨g1, g2, g3⟩ := h.msg k hk
  have h12 := hi.n12
  have hcb := hi.cb
  have hpp := hi.ordP.pn
  have hll := hi.ordL.pn
  have hR := receives_e hp h hi ho hk (g1.symm.trans e1) (g2.symm.trans e2) (g3.symm.trans rfl) hkd
  have hW : ∀ w2, (if nI kd = 0 then qX3_hearAsk v w (nI o) (nI t) else if nI kd = 1 then qX3_hearRuns v w (nI o) (nI t) else if nI kd = 2 then some (smW w o 0 t) else if nI kd = 3 then qX3_hearState v w (nI o) (w 30 k) (nI t)
      else if nI kd = 4 then qX2_hearGrant v w (nI o) else some (hpW w o)) = some w2 → ∀ (K : (Nat → Nat → Int32) → Option (Nat → Nat → Int32)) (g : Nat), qX9_receiveMessages_L2 v K (g + 1) (nI k) w = qX9_receiveMessages_L2 v K g (nI (k + 1)) w2 := by
    intro w2 hw K g
    rw [qX9_receiveMessages_L2, h.wait, if_neg (nle hk (by omega))]
    unfold qX2_hearPoll
    simp (disch := omega) only [gdn, cl, e1, e2, h.tick, jn_e, bs_e, bd_s, p1, setMark_e]
    rcases (show kd = 0 ∨ kd = 1 ∨ kd = 2 ∨ kd = 3 ∨ kd = 4 ∨ kd = 5 by omega) with e | e | e | e | e | e <;> subst e <;>
      simp only [k0, k1, k2, k3, k4, k5, ne01, ne02, ne03, ne04, ne10, ne12, ne13, ne14, ne20, ne21, ne23, ne24, ne30, ne31, ne32, ne34, ne40, ne41, ne42, ne43, ne50, ne51, ne52, ne53, ne54, e_t, i_t, i_f, if_true, if_false] at hw ⊢
    · rw [hw, bd_s]
    · rw [hw, bd_s]
    · rw [Option.some.inj hw]
    · rw [hw, bd_s]
    · rw [hw, bd_s]
    · rw [← Option.some.inj hw]
      rfl
  rcases (show kd = 0 ∨ kd = 1 ∨ kd = 2 ∨ kd = 3 ∨ kd = 4 ∨ kd = 5 by omega) with e | e | e | e | e | e <;> subst e <;>
    simp only [k0, k1, k2, k3, k4, k5, ne01, ne02, ne03, ne04, ne10, ne12, ne13, ne14, ne20, ne21, ne23, ne24, ne30, ne31, ne32, ne34, ne40, ne41, ne42, ne43, ne50, ne51, ne52, ne53, ne54, e_t, i_t, i_f, if_true, if_false] at hR hW
  · rw [hearAsk_e h hi ho] at hW
    by_cases hm : w 18 o = 0 ∨ w 18 o = 3
    · rw [if_pos hm] at hR hW
      exact ⟨_, _, p, hW _ rfl, hR, sm_ev h ho h12 (by omega) (by omega), sm_iv hi (Or.inr (Or.inl rfl))⟩
    · rw [if_neg hm] at hR hW
      exact ⟨_, _, p, hW _ rfl, hR, h, hi⟩
  · obtain ⟨w2, r2, p2, a1, a2, a3, a4⟩ := runs_e hp h hi ho
    exact ⟨w2, r2, p2, hW _ a1, hR.trans a2, a3, a4⟩
  · exact ⟨_, _, p, hW _ rfl, hR, sm_ev h ho h12 (by omega) (by omega), sm_iv hi (Or.inl rfl)⟩
  · have hx := e3 rfl
    rw [hearState_e h hi ho hx] at hW
    by_cases hm : w 18 o = 2 ∧ w 19 o = nI t - 1
    · rw [if_pos hm] at hR hW
      exact ⟨_, _, p, hW _ rfl, hR, h, hi⟩
    · rw [if_neg hm] at hR hW
      by_cases h3 : w 30 k = 3
      · rw [if_pos h3] at hW
        rw [if_neg (show ¬ w 30 k = 2 by rw [h3]; decide), h3] at hR
        obtain ⟨w2, r2, p2, a1, a2, a3, a4⟩ := runs_e hp h hi ho
        exact ⟨w2, r2, p2, hW _ a1, hR.trans a2, a3, a4⟩
      · rw [if_neg h3] at hW
        by_cases h2 : w 30 k = 2
        · rw [if_pos h2] at hW
          rw [if_pos h2] at hR
          exact ⟨_, _, p, hW _ rfl, hR, tm_ev h ho h12 (by omega) (by omega), tm_iv hi⟩
        · rw [if_neg h2] at hW
          rw [if_neg h2, marks_e (by omega) h.tickr h3] at hR
          exact ⟨_, _, p, hW _ rfl, hR, sm_ev h ho h12 (by omega) (by omega), sm_iv hi hx⟩
  · rw [hearGrant_e h hi ho] at hW
    by_cases hm : w 11 o = 1
    · rw [if_pos hm] at hR hW
      exact ⟨_, _, p, hW _ rfl, hR, hg_ev h ho h12 (by omega) (by omega) hm, hg_iv hi ho⟩
    · rw [if_neg hm] at hR hW
      exact ⟨_, _, p, hW _ rfl, hR, h, hi⟩
  · exact ⟨_, _, p, hW _ rfl, hR, hp_ev h ho h12 (by omega) (by omega), hp_iv hi⟩
theorem rcv_all {v : Nat → Nat → Int32} {z : Nat → Nat → Int32} {w : Nat → Nat → Int32} {r : Nat → Int32} {n : Nat} {t : Nat} {s : Nat} {c : Nat} {p : Nat} {l : Nat} {f : Nat} {pk : Int32 × Int32} (K1 : (Nat → Nat → Int32) → Option (Nat → Nat → Int32)) (K2 : (Nat → Int32) → Option (Int32 × (Nat → Int32))) (hp : Pl v z n) (h : Ev v n t s c p l f pk w r) (hi : Iv n t s c p l f w) : ∃ w2 r2 p2, qX9_receiveMessages_L2 v K1 fu 0 w = K1 w2 ∧
    qX11_ticks_L69 z (nI c) K2 fu 0 r = K2 r2 ∧ Ev v n t s c p2 l f pk w2 r2 ∧ Iv n t s c p2 l f w2 := by
  have hcb := hi.cb
  have := lpp (L1 := fun g i w => qX9_receiveMessages_L2 v K1 g i w) (L2 := fun g i r => qX11_ticks_L69 z (nI c) K2 g i r) (K1 := K1) (K2 := K2) (N := c)
    (fun _ w r => ∃ p2, Ev v n t s c p2 l f pk w r ∧ Iv n t s c p2 l f w) (by
      intro k w r hk ⟨p2, h1, h2⟩
      obtain ⟨w2, r2, p3, a1, a2, a3, a4⟩ := rcv1 hp h1 h2 hk
      refine ⟨w2, r2, fun g => a1 K1 g, fun g => ?_, p3, a3, a4⟩
      show qX11_ticks_L69 z (nI c) K2 (g + 1) (nI k) r = _
      rw [qX11_ticks_L69, if_neg (nle hk (by omega)), a2, bd_s, p1]) (by
      intro g w r ⟨p2, h1, h2⟩
      constructor
      · show qX9_receiveMessages_L2 v K1 (g + 1) (nI c) w = _
        rw [qX9_receiveMessages_L2, h1.wait, if_pos (Int32.le_refl _)]
      · show qX11_ticks_L69 z (nI c) K2 (g + 1) (nI c) r = _
        rw [qX11_ticks_L69, if_pos (Int32.le_refl _)]) c fu fu 0 w r (by omega) (by unfold fu; omega) (by unfold fu; omega) ⟨p, h, hi⟩
  obtain ⟨w2, r2, a1, a2, p2, a3, a4⟩ := this
  exact ⟨w2, r2, p2, a1, a2, a3, a4⟩
