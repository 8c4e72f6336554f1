-- names in step
def NmF (n : Nat) (nm : Nat → Int64) (f : Nat → Int32) : Prop := ∀ o, o < n → ∃ k, 0 < k ∧ k ≤ 8 ∧ nm o = pkn (fun i => f (8 * o + i)) k ∧ (∀ i, i < k → 97 ≤ (f (8 * o + i)).toInt ∧ (f (8 * o + i)).toInt ≤ 122) ∧ ∀ i, k ≤ i → i < 8 → f (8 * o + i) = 0
theorem kda_l {L p : Nat} {tx : Nat → Nat → Int32} (h : kda tx L p = 1) : p < L ∧ lett (tx 1 p) = true := by
  unfold kda at h
  by_cases c : p < L
  · rw [if_pos c] at h
    exact ⟨c, kdc_1.mp h⟩
  · rw [if_neg c] at h
    exact absurd h (by decide)
theorem same_e {n L b s : Nat} {nm : Nat → Int64} {f : Nat → Int32} {tx z : Nat → Nat → Int32} (hN : NmF n nm f) (h : Tx L tx z) (hb : b + s ≤ L) (h1 : 1 ≤ s) (h8 : s ≤ 8) (hl : ∀ i, i < s → lett (tx 1 (b + i)) = true) : frs (fun o => decide (nm o = pkn (fun j => tx 1 (b + j)) s)) 0 n = frs (whP f (z 16) b (b + s)) 0 n := by
  refine frs_cong n 0 (fun o _ ho => ?_)
  have g := same_o (nm := nm) (f := f) (tx1 := tx 1) (f2 := z 16) (L := L) (b := b) (k := s) (o := o) (hN o (by omega)) h.ch hb h1 h8 (fun i hi => by
    rw [(h.ch (b + i) (by omega)).1]
    exact lett_0 ((lett_255 (h.ch (b + i) (by omega)).2).1.mp (hl i hi)))
  rw [if_pos ⟨h8, (alr_0 (P := fun i => lett (tx 1 (b + i))) s).mpr hl⟩] at g
  exact Bool.eq_iff_iff.mpr (decide_eq_true_iff.trans g)
theorem k5_1 (k : Int32) : (if k = 5 then (4 : Int32) else k) = 1 ↔ k = 1 := by
  by_cases c5 : k = 5
  · rw [if_pos c5, c5]
    decide
  · rw [if_neg c5]
theorem k5_2 (k : Int32) : (if k = 5 then (4 : Int32) else k) = 2 ↔ k = 2 := by
  by_cases c5 : k = 5
  · rw [if_pos c5, c5]
    decide
  · rw [if_neg c5]
theorem k5_0 (k : Int32) : (if k = 5 then (4 : Int32) else k) = 0 ↔ k = 0 := by
  by_cases c5 : k = 5
  · rw [if_pos c5, c5]
    decide
  · rw [if_neg c5]
theorem nsub (b s : Nat) : nI (b + s) - nI b = nI s := by rw [← nI_add, Int32.add_comm, Int32.add_sub_cancel]
theorem nmh_e {L : Nat} {tx ps z : Nat → Nat → Int32} {nm : Nat → Int64} (h : Rd L tx ps z) (e : ps 3 0 = 0) :
    (∃ ps2 z2 : Nat → Nat → Int32, qX4_nameHere tx ps nm = some (0, ps2) ∧ qX11_isName z = some 0 ∧ qX11_fails z 1 = some z2 ∧ Stq L tx ps z ps2 z2 ∧ ps2 3 0 ≠ 0 ∧ z2 28 0 ≠ 0) ∨
    (∃ b s, Tok L b s 1 tx ps z ∧ s ≤ 8 ∧ 1 ≤ s ∧ (∀ i, i < s → lett (tx 1 (b + i)) = true) ∧ qX4_nameHere tx ps nm = some (pkn (fun j => tx 1 (b + j)) s, ps) ∧ qX11_isName z = some 1 ∧ pkn (fun j => tx 1 (b + j)) s ≠ 0) := by
  obtain ⟨b, s, k, q⟩ := h.tok e
  have e2 : z 28 0 = 0 := by rw [← h.err]; exact e
  have h9 := h.te.l9
  have hbs := q.bs
  obtain ⟨ps2, z2, a1, a2, a3, a4, a5⟩ := stop_e (nm := nm) h 1 (by decide)
  unfold qX4_nameHere qX11_isName
  simp only [jn_e]
  rw [if_pos e, wrong0 e2, bd_s, q.p0, q.z27, q.p1, q.p2, q.z25, q.z26, nsub]
  by_cases c : k = 1
  · rw [if_pos c, if_pos rfl, if_pos ((k5_1 k).mpr c), nameAt_e h.te.tl hbs h9, bd_s]
    have hl : ∀ i, i < s → lett (tx 1 (b + i)) = true := fun i hi => (kda_l (by rw [← c]; exact q.al (Or.inl c) i hi)).2
    by_cases d : s ≤ 8
    · obtain ⟨s', hs'⟩ : ∃ s', s = s' + 1 := ⟨s - 1, by have := q.s1 (by rw [c]; decide); omega⟩
      have hne : pkn (fun j => tx 1 (b + j)) s ≠ 0 := by
        rw [hs']
        exact pkn_ne (fun i hi => hl i (by omega))
      rw [if_pos (show s ≤ 8 ∧ allL tx b s = true from ⟨d, (alr_0 (P := fun i => lett (tx 1 (b + i))) s).mpr hl⟩), if_neg (show ¬ lg_cmp (pkn (fun j => tx 1 (b + j)) s) 0 = 0 from fun g => hne (lg_eq.mp g)), if_neg (show ¬ (8 : Int32) < nI s from Int32.not_lt.mpr (nI_le (b := 8) d (by omega)))]
      exact Or.inr ⟨b, s, by rw [← c]; exact q, d, by omega, hl, rfl, rfl, hne⟩
    · rw [if_neg (show ¬ (s ≤ 8 ∧ allL tx b s = true) from fun g => d g.1), if_pos (show lg_cmp 0 0 = 0 from lg_eq.mpr rfl), a1, bd_s, if_pos (show (8 : Int32) < nI s from Int32.not_le.mp (nle (b := 8) (by omega) (by omega)))]
      exact Or.inl ⟨ps2, z2, rfl, rfl, a2, a3, a4, a5⟩
  · have h0 : qX6_nameAt tx (nI b) 0 = some 0 := by
      refine (nameAt_e (b := b) (k := 0) h.te.tl (by omega) h9).trans (congrArg some ?_)
      split <;> rfl
    rw [if_neg c, if_pos rfl, if_neg (fun g => c ((k5_1 k).mp g)), h0, bd_s, if_pos (show lg_cmp 0 0 = 0 from lg_eq.mpr rfl), a1, bd_s]
    exact Or.inl ⟨ps2, z2, rfl, rfl, a2, a3, a4, a5⟩
theorem look_e {L n : Nat} {tx ps z : Nat → Nat → Int32} {nm : Nat → Int64} (h : Rd L tx ps z) (hn : n ≤ 12) (hv : ps 6 0 = nI n) (hz : z 30 0 = nI n) (hN : NmF n nm (z 22)) :
    (∃ (ps2 : Nat → Nat → Int32) (r2 : Int32) (z2 : Nat → Nat → Int32), qX4_readOutletName tx ps nm = some (-1, ps2) ∧ qX11_looksUp z = some (r2, z2) ∧ Stq L tx ps z ps2 z2 ∧ ps2 3 0 ≠ 0 ∧ z2 28 0 ≠ 0) ∨
    (∃ o, o < n ∧ qX4_readOutletName tx ps nm = some (nI o, ps) ∧ qX11_looksUp z = some (nI o, z) ∧ ps 3 0 = 0 ∧ z 28 0 = 0) ∨
    (∃ ps2 z2 : Nat → Nat → Int32, qX4_readOutletName tx ps nm = some (-1, ps2) ∧ qX11_looksUp z = some (-1, z) ∧ qX11_fails z 4 = some z2 ∧ z 28 0 = 0 ∧ Stq L tx ps z ps2 z2 ∧ ps2 3 0 ≠ 0 ∧ z2 28 0 ≠ 0) := by
  have h9 := h.te.l9
  unfold qX4_readOutletName qX11_looksUp
  simp only [jn_e]
  by_cases e : ps 3 0 = 0
  · have e2 : z 28 0 = 0 := by rw [← h.err]; exact e
    rcases nmh_e (nm := nm) h e with ⟨ps2, z2, a1, a2, a3, a4, a5, a6⟩ | ⟨b, s, q, a1, a2, a3, a4, a5, a6⟩
    · rw [a1, bd2_s, if_pos (show lg_cmp 0 0 = 0 from lg_eq.mpr rfl), a2, bd_s, if_pos rfl, a3, bd_s, wrong1 a6, bd_s, if_neg (show ¬ (1 : Int32) = 0 by decide)]
      exact Or.inl ⟨_, _, _, rfl, rfl, a4, a5, a6⟩
    · have hbs := q.bs
      have hC : qX5_numberOf (fun i => ps (6 + i)) nm (pkn (fun j => tx 1 (b + j)) s) = some (frs (fun o => decide (nm o = pkn (fun j => tx 1 (b + j)) s)) 0 n) := numb_e _ hv hn
      rw [a4, bd2_s, if_neg (show ¬ lg_cmp (pkn (fun j => tx 1 (b + j)) s) 0 = 0 from fun g => a6 (lg_eq.mp g)), hC, bd_s, a5, bd_s, if_neg (show ¬ (1 : Int32) = 0 by decide), wrong0 e2, bd_s, if_pos rfl, hz, q.z26, q.z25, which_e hn (by omega) (by omega), bd_s, ← same_e hN h.te hbs a2 a1 a3]
      rcases frs_c (P := fun o => decide (nm o = pkn (fun j => tx 1 (b + j)) s)) n 0 with g | ⟨i, g1, g2, g3, _⟩
      · obtain ⟨ps2, z2, d1, d2, d3, d4, d5⟩ := stop_e (nm := nm) h 4 (by decide)
        rw [g, if_pos rfl, d1, bd_s]
        exact Or.inr (Or.inr ⟨_, _, rfl, rfl, d2, e2, d3, d4, d5⟩)
      · rw [g3, if_neg (nIm1 (by omega))]
        exact Or.inr (Or.inl ⟨i, by omega, rfl, rfl, e, e2⟩)
  · have e2 : ¬ z 28 0 = 0 := by rw [← h.err]; exact e
    have hc : qX4_nameHere tx ps nm = some (0, ps) := by
      unfold qX4_nameHere
      rw [if_neg e]
    have hr : qX11_isName z = some 0 := by
      unfold qX11_isName
      rw [wrong1 e2, bd_s, if_neg (show ¬ (1 : Int32) = 0 by decide)]
    rw [hc, bd2_s, if_pos (show lg_cmp 0 0 = 0 from lg_eq.mpr rfl), hr, bd_s, if_pos rfl, fails_w e2, bd_s, wrong1 e2, bd_s, if_neg (show ¬ (1 : Int32) = 0 by decide)]
    exact Or.inl ⟨_, _, _, rfl, rfl, stp_r h, e, e2⟩
theorem newn_e {L n : Nat} {tx ps z : Nat → Nat → Int32} {nm : Nat → Int64} (h : Rd L tx ps z) (e : ps 3 0 = 0) (hn : n ≤ 12) (hv : ps 6 0 = nI n) (hz : z 30 0 = nI n) (hN : NmF n nm (z 22)) :
    (∃ (r : Int64) (ps2 : Nat → Nat → Int32) (r2 : Int32) (z2 : Nat → Nat → Int32), qX4_readNewName tx ps nm = some (r, ps2) ∧ qX11_looksUp z = some (r2, z2) ∧ Stq L tx ps z ps2 z2 ∧ ps2 3 0 ≠ 0 ∧ z2 28 0 ≠ 0) ∨
    (∃ (o : Nat) (r : Int64) (ps2 z2 : Nat → Nat → Int32), o < n ∧ qX4_readNewName tx ps nm = some (r, ps2) ∧ qX11_looksUp z = some (nI o, z) ∧ qX11_fails z 3 = some z2 ∧ z 28 0 = 0 ∧ Stq L tx ps z ps2 z2 ∧ ps2 3 0 ≠ 0 ∧ z2 28 0 ≠ 0) ∨
    (∃ b s, Tok L b s 1 tx ps z ∧ s ≤ 8 ∧ 1 ≤ s ∧ (∀ i, i < s → lett (tx 1 (b + i)) = true) ∧ qX4_readNewName tx ps nm = (bd (qX7_goToNext tx ps nm) fun ps_4 => some (pkn (fun j => tx 1 (b + j)) s, ps_4)) ∧ qX11_looksUp z = some (-1, z) ∧ z 28 0 = 0) := by
  have h9 := h.te.l9
  have e2 : z 28 0 = 0 := by rw [← h.err]; exact e
  unfold qX4_readNewName qX11_looksUp
  simp only [jn_e]
  rcases nmh_e (nm := nm) h e with ⟨ps2, z2, a1, a2, a3, a4, a5, a6⟩ | ⟨b, s, q, a1, a2, a3, a4, a5, a6⟩
  · rw [a1, bd2_s, if_pos (show lg_cmp 0 0 = 0 from lg_eq.mpr rfl), if_neg a5, a2, bd_s, if_pos rfl, a3, bd_s, wrong1 a6, bd_s, if_neg (show ¬ (1 : Int32) = 0 by decide)]
    exact Or.inl ⟨_, _, _, _, rfl, rfl, a4, a5, a6⟩
  · have hbs := q.bs
    have hC : qX5_numberOf (fun i => ps (6 + i)) nm (pkn (fun j => tx 1 (b + j)) s) = some (frs (fun o => decide (nm o = pkn (fun j => tx 1 (b + j)) s)) 0 n) := numb_e _ hv hn
    rw [a4, bd2_s, if_neg (show ¬ lg_cmp (pkn (fun j => tx 1 (b + j)) s) 0 = 0 from fun g => a6 (lg_eq.mp g)), hC, bd_s, a5, bd_s, if_neg (show ¬ (1 : Int32) = 0 by decide), wrong0 e2, bd_s, if_pos rfl, hz, q.z26, q.z25, which_e hn (by omega) (by omega), bd_s, ← same_e hN h.te hbs a2 a1 a3]
    rcases frs_c (P := fun o => decide (nm o = pkn (fun j => tx 1 (b + j)) s)) n 0 with g | ⟨i, g1, g2, g3, _⟩
    · rw [g, if_pos rfl, if_pos e]
      exact Or.inr (Or.inr ⟨b, s, q, a1, a2, a3, rfl, rfl, e2⟩)
    · obtain ⟨ps2, z2, d1, d2, d3, d4, d5⟩ := stop_e (nm := nm) h 3 (by decide)
      rw [g3, if_neg (nIm1 (by omega)), d1, bd_s, if_neg d4]
      exact Or.inr (Or.inl ⟨i, _, _, _, by omega, rfl, rfl, d2, e2, d3, d4, d5⟩)
