-- who is ahead; the queue
def plc (w : Nat → Nat → Int32) (o : Nat) : Nat := if w 23 o = -1 then 100 else (w 23 o).toNatClampNeg
def lto (w : Nat → Nat → Int32) (a b : Nat) : Prop := (w 10 b).toInt < (w 10 a).toInt ∨ ((w 10 a).toInt = (w 10 b).toInt ∧ (plc w a < plc w b ∨ (plc w a = plc w b ∧ a < b)))
theorem lto_tr {w : Nat → Nat → Int32} {a b c : Nat} (h1 : lto w a b) (h2 : lto w b c) : lto w a c := by
  unfold lto at *
  omega
theorem lto_as {w : Nat → Nat → Int32} {a b : Nat} (h1 : lto w a b) (h2 : lto w b a) : False := by
  unfold lto at *
  omega
theorem lto_tot {w : Nat → Nat → Int32} {a b : Nat} (h : a ≠ b) : lto w a b ∨ lto w b a := by
  unfold lto
  omega
theorem i_eq {x y : Int32} : x = y ↔ x.toInt = y.toInt := ⟨fun h => by rw [h], fun h => Int32.toInt_inj.mp h⟩
theorem plc_c {w : Nat → Nat → Int32} {n : Nat} {t : Nat} {s : Nat} {c : Nat} {p : Nat} {l : Nat} {f : Nat} {o : Nat} (hi : Iv n t s c p l f w) (ho : o < n) : (w 23 o = -1 ∧ plc w o = 100) ∨ (∃ k, k < l ∧ w 23 o = nI k ∧ plc w o = k ∧ w 22 k = nI o) := by
  have h12 := hi.n12
  have hll := hi.ordL.pn
  rcases hi.ordL.plc o ho with e | ⟨k, h1, h2, h3⟩
  · exact Or.inl ⟨e, by unfold plc; rw [if_pos e]⟩
  · refine Or.inr ⟨k, h1, h2, ?_, h3⟩
    unfold plc
    rw [if_neg (by rw [h2]; exact nI_m1 (by omega)), h2, cl (by omega)]
theorem placeOf_e {v : Nat → Nat → Int32} {z : Nat → Nat → Int32} {w : Nat → Nat → Int32} {r : Nat → Int32} {n : Nat} {t : Nat} {s : Nat} {c : Nat} {p : Nat} {l : Nat} {f : Nat} {o : Nat} {pk : Int32 × Int32} (h : Ev v n t s c p l f pk w r) (hi : Iv n t s c p l f w) (ho : o < n) : qX11_placeOf z r (nI o) = some (w 23 o) := by
  have h12 := hi.n12
  have hll := hi.ordL.pn
  have hs : ∀ g k, k < l → ¬ (r (39 + k) = nI o) → qX11_placeOf_L2 z r (nI o) (fun (_u : Unit) => some (-1)) (g + 1) (nI k) = qX11_placeOf_L2 z r (nI o) (fun (_u : Unit) => some (-1)) g (nI (k + 1)) := by
    intro g k hk hne
    rw [qX11_placeOf_L2, h.lmr, if_neg (nle hk (by omega)), p39, gdn (by omega) (by omega), cl (by omega), if_neg hne, p1]
  unfold qX11_placeOf
  rcases hi.ordL.plc o ho with e | ⟨k, hk, e, hk2⟩
  · obtain ⟨-, g2⟩ := ord_out hi.ordL ho h12 e
    rw [e]
    refine scan_none (L := fun g i => qX11_placeOf_L2 z r (nI o) (fun (_u : Unit) => some (-1)) g i) hs ?_ l fu 0 (by omega) (by unfold fu; omega) ?_
    · intro g
      show qX11_placeOf_L2 z r (nI o) _ (g + 1) (nI l) = _
      rw [qX11_placeOf_L2, h.lmr, if_pos (Int32.le_refl _)]
    · intro i _ h2 h3
      rw [← h.lear i h2] at h3
      exact g2 i h2 h3
  · obtain ⟨g1, g2⟩ := ord_in hi.ordL h12 (by omega) hk ho e
    rw [e]
    refine scan_at (L := fun g i => qX11_placeOf_L2 z r (nI o) (fun (_u : Unit) => some (-1)) g i) (G := fun i => some (nI i)) hs ?_ k fu 0 k (by omega) hk (by unfold fu; omega) ?_ ?_
    · intro g j hj hh
      show qX11_placeOf_L2 z r (nI o) _ (g + 1) (nI j) = _
      rw [qX11_placeOf_L2, h.lmr, if_neg (nle hj (by omega)), p39, gdn (by omega) (by omega), cl (by omega), if_pos hh]
    · rw [← h.lear k hk, hk2]
    · intro i _ h2 h3
      rw [← h.lear i (by omega)] at h3
      have := g2 i (by omega) h3
      omega
theorem le_toI {x y : Int32} : x ≤ y ↔ x.toInt ≤ y.toInt := Int32.le_iff_toInt_le
/-- the class's own order: only by priority and place -/
theorem isAheadC_e {v : Nat → Nat → Int32} {w : Nat → Nat → Int32} {n : Nat} {t : Nat} {s : Nat} {c : Nat} {p : Nat} {l : Nat} {f : Nat} {o : Nat} {k : Nat} (hi : Iv n t s c p l f w) (ho : o < n) (hk : k < n) (hok : k < o) : ∃ y, qX9_isAhead v w (nI o) (nI k) = some y ∧ (y = 0 → ¬ lto w o k) ∧ (y ≠ 0 → lto w o k) := by
  have h12 := hi.n12
  have hll := hi.ordL.pn
  unfold qX9_isAhead
  simp (disch := omega) only [gdn, cl]
  by_cases e : w 10 o = w 10 k
  · rw [if_pos e]
    rcases plc_c hi ho with ⟨a1, a2⟩ | ⟨a, a0, a1, a2, a3⟩
    · rw [if_pos a1]
      refine ⟨0, rfl, fun _ => ?_, fun g => absurd rfl g⟩
      unfold lto
      rw [e]
      rcases plc_c hi hk with ⟨b1, b2⟩ | ⟨b, b0, b1, b2, b3⟩ <;> omega
    · rw [if_neg (by rw [a1]; exact nI_m1 (by omega))]
      rcases plc_c hi hk with ⟨b1, b2⟩ | ⟨b, b0, b1, b2, b3⟩
      · rw [if_pos b1]
        refine ⟨1, rfl, fun g => absurd g (by decide), fun _ => ?_⟩
        unfold lto
        rw [e]
        omega
      · rw [if_neg (show ¬ w 23 k = -1 by rw [b1]; exact nI_m1 (by omega)), a1, b1]
        by_cases g : b ≤ a
        · rw [if_pos (nI_le g (by omega))]
          refine ⟨0, rfl, fun _ => ?_, fun g => absurd rfl g⟩
          unfold lto
          rw [e]
          have : a ≠ b := by
            intro q
            subst q
            rw [a3] at b3
            have := nI_inj (by omega) (by omega) b3
            omega
          omega
        · rw [if_neg (nle (by omega) (by omega))]
          refine ⟨1, rfl, fun g => absurd g (by decide), fun _ => ?_⟩
          unfold lto
          rw [e]
          omega
  · rw [if_neg e]
    have e' : ¬ (w 10 o).toInt = (w 10 k).toInt := fun q => e (i_eq.mpr q)
    by_cases g : w 10 o ≤ w 10 k
    · rw [if_pos g]
      refine ⟨0, rfl, fun _ => ?_, fun g => absurd rfl g⟩
      have := le_toI.mp g
      unfold lto
      omega
    · rw [if_neg g]
      refine ⟨1, rfl, fun g => absurd g (by decide), fun _ => ?_⟩
      have : ¬ (w 10 o).toInt ≤ (w 10 k).toInt := fun q => g (le_toI.mpr q)
      unfold lto
      omega
theorem isAheadR_e {v : Nat → Nat → Int32} {z : Nat → Nat → Int32} {w : Nat → Nat → Int32} {r : Nat → Int32} {n : Nat} {t : Nat} {s : Nat} {c : Nat} {p : Nat} {l : Nat} {f : Nat} {o : Nat} {k : Nat} {pk : Int32 × Int32} (h : Ev v n t s c p l f pk w r) (hi : Iv n t s c p l f w) (ho : o < n) (hk : k < n) (hok : k ≠ o) : ∃ y, qX11_isAhead z r (nI o) (nI k) = some y ∧ (y = 0 → ¬ lto w o k) ∧ (y ≠ 0 → lto w o k) := by
  have h12 := hi.n12
  have hll := hi.ordL.pn
  unfold qX11_isAhead
  rw [placeOf_e h hi ho, placeOf_e h hi hk]
  simp (disch := omega) only [gdn, cl, ag0, bd_s, ← h.prio]
  by_cases e : w 10 o = w 10 k
  · rw [if_pos e]
    rcases plc_c hi ho with ⟨a1, a2⟩ | ⟨a, a0, a1, a2, a3⟩
    · rcases plc_c hi hk with ⟨b1, b2⟩ | ⟨b, b0, b1, b2, b3⟩
      · rw [if_pos (show w 23 o = w 23 k by rw [a1, b1])]
        by_cases g : k ≤ o
        · rw [if_pos (nI_le g (by omega))]
          refine ⟨0, rfl, fun _ => ?_, fun g => absurd rfl g⟩
          unfold lto
          rw [e]
          omega
        · rw [if_neg (nle (by omega) (by omega))]
          refine ⟨1, rfl, fun g => absurd g (by decide), fun _ => ?_⟩
          unfold lto
          rw [e]
          omega
      · rw [if_neg (show ¬ w 23 o = w 23 k by rw [a1, b1]; exact fun q => nI_m1 (by omega) q.symm), if_pos a1]
        refine ⟨0, rfl, fun _ => ?_, fun g => absurd rfl g⟩
        unfold lto
        rw [e]
        omega
    · rcases plc_c hi hk with ⟨b1, b2⟩ | ⟨b, b0, b1, b2, b3⟩
      · rw [if_neg (show ¬ w 23 o = w 23 k by rw [a1, b1]; exact nI_m1 (by omega)), if_neg (show ¬ w 23 o = -1 by rw [a1]; exact nI_m1 (by omega)), if_pos b1]
        refine ⟨1, rfl, fun g => absurd g (by decide), fun _ => ?_⟩
        unfold lto
        rw [e]
        omega
      · have hne : a ≠ b := by
          intro q
          subst q
          rw [a3] at b3
          have := nI_inj (by omega) (by omega) b3
          omega
        rw [if_neg (show ¬ w 23 o = w 23 k by rw [a1, b1]; exact nI_ne hne (by omega) (by omega)), if_neg (show ¬ w 23 o = -1 by rw [a1]; exact nI_m1 (by omega)), if_neg (show ¬ w 23 k = -1 by rw [b1]; exact nI_m1 (by omega)), a1, b1]
        by_cases g : b ≤ a
        · rw [if_pos (nI_le g (by omega))]
          refine ⟨0, rfl, fun _ => ?_, fun g => absurd rfl g⟩
          unfold lto
          rw [e]
          omega
        · rw [if_neg (nle (by omega) (by omega))]
          refine ⟨1, rfl, fun g => absurd g (by decide), fun _ => ?_⟩
          unfold lto
          rw [e]
          omega
  · rw [if_neg e]
    have e' : ¬ (w 10 o).toInt = (w 10 k).toInt := fun q => e (i_eq.mpr q)
    by_cases g : w 10 o ≤ w 10 k
    · rw [if_pos g]
      refine ⟨0, rfl, fun _ => ?_, fun g => absurd rfl g⟩
      have := le_toI.mp g
      unfold lto
      omega
    · rw [if_neg g]
      refine ⟨1, rfl, fun g => absurd g (by decide), fun _ => ?_⟩
      have : ¬ (w 10 o).toInt ≤ (w 10 k).toInt := fun q => g (le_toI.mpr q)
      unfold lto
      omega
