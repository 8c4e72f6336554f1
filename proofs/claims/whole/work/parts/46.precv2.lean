-- one message
theorem runs_e {v : Nat → Nat → Int32} {z : Nat → Nat → Int32} {w : Nat → Nat → Int32} {r : Nat → Int32} {n : Nat} {t : Nat} {s : Nat} {c : Nat} {p : Nat} {l : Nat} {f : Nat} {o : Nat} {pk : Int32 × Int32} (hp : Pl v z n) (h : Ev v n t s c p l f pk w r) (hi : Iv n t s c p l f w) (ho : o < n) : ∃ w2 r2 p2, qX3_hearRuns v w (nI o) (nI t) = some w2 ∧ qX11_marks z r (nI o) 3 = some r2 ∧ Ev v n t s c p2 l f pk w2 r2 ∧ Iv n t s c p2 l f w2 := by
  have h12 := hi.n12
  have hpp := hi.ordP.pn
  have hll := hi.ordL.pn
  have e1 := hr_ev h ho h12 (by omega) (by omega)
  have e2 := hr_iv (v := v) hi ho
  have hd := h.tick
  have hm : qX11_marks z r (nI o) 3 = qX11_marks_L38 z (hrR r o t) (nI o) (fun (_u : Unit) => some (adR (hrR r o t) o p)) fu 0 := by
    have h12r : (hrR r o t) 12 = nI p := by
      unfold hrR smR
      rw [upd_n (by omega), upd_n (by omega), upd_n (by omega), h.pmr]
    unfold qX11_marks
    rw [ag9, bd_s, gdn (by omega) (by omega), cl (by omega), bs_e, ag10, bd_s, gdn (by omega) (by omega), cl (by omega), bs_e, upd_n (by omega), h.tickr, if_pos rfl, ag11, bd_s, gdn (by omega) (by omega), cl (by omega), bs_e]
    show qX11_marks_L38 z (hrR r o t) (nI o) (fun (_u : Unit) => gd (vp_in (27 + (hrR r o t) 12) 411) (bs (upd (hrR r o t) (27 + (hrR r o t) 12).toNatClampNeg (nI o)) fun rw_10 => (bs (upd rw_10 12 ((rw_10 12) + 1)) fun rw_11 => some rw_11))) fu 0 = _
    rw [h12r, p27, gdn (by omega) (by omega), cl (by omega), bs_e, bs_e, upd_n (by omega), h12r, p1]
    rfl
  have hw : qX3_hearRuns v w (nI o) (nI t) = some (if w 26 o = -1 then adW (hrW v w o t) o p else hrW v w o t) := by
    unfold qX3_hearRuns
    rw [setMark_e (by omega), bd_s]
    unfold qX1_addOnce
    simp (disch := omega) only [gdn, cl, bs_e, va_n, va_s, smW, h.pm, p1]
    by_cases e : w 26 o = -1
    · obtain ⟨g1, g2⟩ := ord_out hi.ordP ho h12 e
      rw [if_pos e, if_pos e, if_neg (show ¬ (12 : Int32) ≤ nI p from nle (a := 12) (by omega) (by omega)), gdn (by omega) (by omega), bd_s]
      simp (disch := omega) only [adW, hrW, va_n, va_s, smW]
    · rw [if_neg e, if_neg e, bd_s]
      simp (disch := omega) only [hrW, va_n, va_s, smW]
  have h12r : (hrR r o t) 12 = nI p := by
    unfold hrR smR
    rw [upd_n (by omega), upd_n (by omega), upd_n (by omega), h.pmr]
  have hcell : ∀ k, k < p → (hrR r o t) (27 + k) = w 25 k := by
    intro k hk
    unfold hrR smR
    rw [upd_n (by omega), upd_n (by omega), upd_n (by omega), h.pres k hk]
  have hs : ∀ g k, k < p → ¬ ((hrR r o t) (27 + k) = nI o) → qX11_marks_L38 z (hrR r o t) (nI o) (fun (_u : Unit) => some (adR (hrR r o t) o p)) (g + 1) (nI k) = qX11_marks_L38 z (hrR r o t) (nI o) (fun (_u : Unit) => some (adR (hrR r o t) o p)) g (nI (k + 1)) := by
    intro g k hk hne
    rw [qX11_marks_L38, h12r, if_neg (nle hk (by omega)), p27, gdn (by omega) (by omega), cl (by omega), if_neg hne, p1]
  rcases hi.ordP.plc o ho with e | ⟨k, hk, e, hk2⟩
  · obtain ⟨g1, g2⟩ := ord_out hi.ordP ho h12 e
    refine ⟨adW (hrW v w o t) o p, adR (hrR r o t) o p, p + 1, ?_, ?_, ad_ev e1 ho h12 (by omega) (by omega) (by omega), ad_iv e2 ho ?_⟩
    · rw [hw, if_pos e]
    · rw [hm]
      refine scan_none (L := fun g i => qX11_marks_L38 z (hrR r o t) (nI o) (fun (_u : Unit) => some (adR (hrR r o t) o p)) g i) hs ?_ p fu 0 (by omega) (by unfold fu; omega) ?_
      · intro g
        show qX11_marks_L38 z (hrR r o t) (nI o) _ (g + 1) (nI p) = _
        rw [qX11_marks_L38, h12r, if_pos (Int32.le_refl _)]
      · intro i _ h2 h3
        rw [hcell i h2] at h3
        exact g2 i h2 h3
    · simp (disch := omega) only [hrW, smW, va_n]
      exact e
  · refine ⟨hrW v w o t, hrR r o t, p, ?_, ?_, e1, e2⟩
    · rw [hw, if_neg]
      rw [e]
      exact nI_m1 (by omega)
    · rw [hm]
      obtain ⟨g1, g2⟩ := ord_in hi.ordP h12 (by omega) hk ho e
      refine scan_at (L := fun g i => qX11_marks_L38 z (hrR r o t) (nI o) (fun (_u : Unit) => some (adR (hrR r o t) o p)) g i) (G := fun _ => some (hrR r o t)) hs ?_ k fu 0 k (by omega) hk (by unfold fu; omega) ?_ ?_
      · intro g j hj hh
        show qX11_marks_L38 z (hrR r o t) (nI o) _ (g + 1) (nI j) = _
        rw [qX11_marks_L38, h12r, if_neg (nle hj (by omega)), p27, gdn (by omega) (by omega), cl (by omega), if_pos hh]
      · rw [hcell k hk, hk2]
      · intro i _ h2 h3
        rw [hcell i (by omega)] at h3
        have := g2 i (by omega) h3
        omega
