-- run
theorem st_run : St_run Sim := by
  intro tx ps nm v vn hs ww z ⟨n, h⟩ x
  have h0 := smn_0 h
  have hz := z0_0 z
  have hp := h0.pl
  have hn := hp.hn
  have hzz : va_up z 0 (fun _ => 0) = z0 z := rfl
  obtain ⟨t, f, y0, ht, s, c, p, l, hE, hI, hs72, hpk⟩ := h0.now.ex
  unfold qX11_run qX10_run
  rw [bs_e, hzz, isIn_1_200, bd_s, range_e, bd_s]
  by_cases hx : 1 ≤ x ∧ x ≤ 200
  · rw [if_pos hx, if_pos hx, may1 hz, bd2_s, if_pos rfl, if_neg (show ¬ (1 : Int32) = 0 by decide), jn_e, hE.tick, hE.tickr]
    obtain ⟨m, m1, m5, mb, em⟩ := one_of (m := 200) rfl hx
    subst em
    rw [nI_add]
    by_cases ht5 : t + m ≤ 5000
    · rw [if_pos (show nI (t + m) ≤ (5000 : Int32) from nI_le (b := 5000) ht5 (by omega)), if_neg (show ¬ (5000 : Int32) < nI (t + m) from nI_nlt (a := 5000) ht5 (by omega))]
      dsimp only
      obtain ⟨hs2, ww2, z2, q1, q2, q3, q4, q5⟩ := keep_e h0
      have hz2 : z2 0 0 = 0 := by rw [q3 0 (by omega) (by omega)]; exact hz
      have hp2 := q5.pl
      have hS : Sw v n t f (y0, y0) (ww2 0) (z2 10) := by
        rw [q4, q3 10 (by omega) (by omega)]
        exact ⟨s, c, p, l, hE, hI, hs72, hpk⟩
      obtain ⟨w3, z3, y3, a1, a2, a3, a4⟩ := sw_now (m := m) (fun (z_12 : Nat → Nat → Int32) => (qX11_run_L81 z_12 (fun (x2_19 : Int32) => some (x2_19, z_12)) fu 0 0)) hp2 hS (by omega) (by omega)
      have hp3 := pl_c hp2 (fun i b1 b2 => a3 i (by omega))
      obtain ⟨s3, c3, p3, l3, hE3, hI3, hs3, hpk3⟩ := a4
      rw [may1 hz, bd2_s, if_neg (show ¬ (1 : Int32) = 0 by decide), q1, bd2_s, q2, bd_s, a1, bd_s, bs_e, va_s, inState_e hp, bd_s, count_e hn, bd_s, a2, runL_e hp3 hE3]
      have hz3 : z3 = va_up z2 10 (z3 10) := by
        funext i
        rw [va_u]
        split
        · rename_i e
          rw [e]
        · rename_i e
          exact a3 i e
      refine ⟨0, _, _, _, _, z3, rfl, rfl, Or.inl ⟨rfl, by rw [a3 0 (by omega)]; exact hz2, rfl⟩, n, ?_⟩
      rw [hz3]
      exact smn_n q5 ⟨t + m, f, y3, ht5, s3, c3, p3, l3, hE3, hI3, hs3, hpk3⟩
    · rw [if_neg (show ¬ nI (t + m) ≤ (5000 : Int32) from nle (b := 5000) (by omega) (by omega)), if_pos (show (5000 : Int32) < nI (t + m) from nI_lt (a := 5000) (by omega) (by omega))]
      dsimp only
      rw [may0 hz (by decide), bd2_s, if_pos rfl]
      exact ⟨1, 0, hs, ww, 0, va_up (z0 z) 0 (fun _ => 2), rfl, rfl, Or.inr (Or.inr ⟨rfl, by rw [va_s]⟩), n, smn_e h0 _⟩
  · rw [if_neg hx, if_neg hx, may0 hz (by decide), bd2_s, if_neg (show ¬ (3 : Nat) = 0 by decide), if_pos rfl]
    exact ⟨3, 0, hs, ww, 0, va_up (z0 z) 0 (fun _ => 1), rfl, rfl, Or.inr (Or.inl ⟨rfl, by rw [va_s]⟩), n, smn_e h0 _⟩
