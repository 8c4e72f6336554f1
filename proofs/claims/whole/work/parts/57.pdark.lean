-- a blackout begins, on both sides
def btW (w : Nat → Nat → Int32) (o : Nat) : Nat → Nat → Int32 := va_up (va_up (va_up w 11 (upd (w 11) o 1)) 12 (upd (w 12) o 0)) 15 (upd (w 15) o (-1))
def lpf (o : Nat) (w : Nat → Nat → Int32) : Nat → Nat → Int32 := if w 11 o = 0 then w else btW w o
theorem lose_e {v : Nat → Nat → Int32} {z : Nat → Nat → Int32} {w : Nat → Nat → Int32} {n : Nat} (hp : Pl v z n) : ∃ u : Nat → Nat → Int32, qX2_losePower v w = some (va_up (va_up u 16 (fun _ => 0)) 17 (fun _ => 0)) ∧ (∀ i, i ≠ 11 → i ≠ 12 → i ≠ 15 → u i = w i) ∧
    (∀ k, k < n → u 11 k = if w 11 k = 0 then 0 else 1) ∧ (∀ k, k < n → u 12 k = if w 11 k = 0 then w 12 k else 0) ∧ (∀ k, k < n → w 11 k ≠ 0 → u 15 k = -1) := by
  have hn := hp.hn
  refine ⟨lfold lpf 0 n w, ?_, ?_⟩
  · unfold qX2_losePower
    refine lp (L := fun g i u => qX2_losePower_L2 v (fun (w_3 : Nat → Nat → Int32) => (bs (va_up w_3 16 (fun _ => 0)) fun w_7 => (bs (va_up w_7 17 (fun _ => 0)) fun w_8 => some w_8))) g i u) (N := n) (K := fun u => some (va_up (va_up u 16 (fun _ => 0)) 17 (fun _ => 0))) (fun _ _ => True) ?_ ?_ n fu 0 w (by omega) (by unfold fu; omega) trivial
    · intro g k u hk _
      refine ⟨?_, trivial⟩
      show qX2_losePower_L2 v _ (g + 1) (nI k) u = qX2_losePower_L2 v _ g (nI (k + 1)) (lpf k u)
      rw [qX2_losePower_L2, hp.v0, if_neg (nle hk (by omega)), doesWant_e (by omega), bd_s, jn_e, p1]
      unfold lpf
      by_cases e : u 11 k = 0
      · rw [if_pos e, if_pos rfl, if_pos e]
      · rw [if_neg e, if_neg (show ¬ (1 : Int32) = 0 by decide), if_neg e]
        unfold qX2_beginToWait btW
        simp (disch := omega) only [gdn, cl, bs_e, bd_s, va_n]
    · intro g u _
      show qX2_losePower_L2 v _ (g + 1) (nI n) u = _
      rw [qX2_losePower_L2, hp.v0, if_pos (Int32.le_refl _), bs_e, bs_e]
  · have := lfold_inv (f := lpf) (fun m u => (∀ i, i ≠ 11 → i ≠ 12 → i ≠ 15 → u i = w i) ∧ (∀ k, u 11 k = if k < m ∧ w 11 k ≠ 0 then 1 else w 11 k) ∧ (∀ k, u 12 k = if k < m ∧ w 11 k ≠ 0 then 0 else w 12 k) ∧ (∀ k, u 15 k = if k < m ∧ w 11 k ≠ 0 then -1 else w 15 k)) n 0 w
      ⟨fun i _ _ _ => rfl, fun k => by rw [if_neg (by omega)], fun k => by rw [if_neg (by omega)], fun k => by rw [if_neg (by omega)]⟩ (by
      intro m u _ hm ⟨h1, h2, h3, h4⟩
      have hum : u 11 m = w 11 m := by rw [h2 m, if_neg (by omega)]
      unfold lpf
      by_cases e : u 11 m = 0
      · rw [if_pos e]
        rw [hum] at e
        refine ⟨h1, fun k => ?_, fun k => ?_, fun k => ?_⟩
        · rw [h2 k]
          by_cases ek : k = m
          · subst ek
            rw [if_neg (by omega), if_neg (fun g => g.2 e)]
          · by_cases e2 : k < m ∧ w 11 k ≠ 0
            · rw [if_pos e2, if_pos ⟨by omega, e2.2⟩]
            · rw [if_neg e2, if_neg (fun g => e2 ⟨by omega, g.2⟩)]
        · rw [h3 k]
          by_cases ek : k = m
          · subst ek
            rw [if_neg (by omega), if_neg (fun g => g.2 e)]
          · by_cases e2 : k < m ∧ w 11 k ≠ 0
            · rw [if_pos e2, if_pos ⟨by omega, e2.2⟩]
            · rw [if_neg e2, if_neg (fun g => e2 ⟨by omega, g.2⟩)]
        · rw [h4 k]
          by_cases ek : k = m
          · subst ek
            rw [if_neg (by omega), if_neg (fun g => g.2 e)]
          · by_cases e2 : k < m ∧ w 11 k ≠ 0
            · rw [if_pos e2, if_pos ⟨by omega, e2.2⟩]
            · rw [if_neg e2, if_neg (fun g => e2 ⟨by omega, g.2⟩)]
      · rw [if_neg e]
        rw [hum] at e
        refine ⟨fun i a b c => ?_, fun k => ?_, fun k => ?_, fun k => ?_⟩
        · unfold btW
          rw [va_n c, va_n b, va_n a, h1 i a b c]
        · by_cases ek : k = m
          · subst ek
            rw [if_pos ⟨by omega, e⟩]
            simp (disch := omega) only [btW, va_n, va_s, upd_s]
          · simp (disch := omega) only [btW, va_n, va_s, upd_n]
            rw [h2 k]
            by_cases e2 : k < m ∧ w 11 k ≠ 0
            · rw [if_pos e2, if_pos ⟨by omega, e2.2⟩]
            · rw [if_neg e2, if_neg (fun g => e2 ⟨by omega, g.2⟩)]
        · by_cases ek : k = m
          · subst ek
            rw [if_pos ⟨by omega, e⟩]
            simp (disch := omega) only [btW, va_n, va_s, upd_s]
          · simp (disch := omega) only [btW, va_n, va_s, upd_n]
            rw [h3 k]
            by_cases e2 : k < m ∧ w 11 k ≠ 0
            · rw [if_pos e2, if_pos ⟨by omega, e2.2⟩]
            · rw [if_neg e2, if_neg (fun g => e2 ⟨by omega, g.2⟩)]
        · by_cases ek : k = m
          · subst ek
            rw [if_pos ⟨by omega, e⟩]
            simp (disch := omega) only [btW, va_n, va_s, upd_s]
          · simp (disch := omega) only [btW, va_n, va_s, upd_n]
            rw [h4 k]
            by_cases e2 : k < m ∧ w 11 k ≠ 0
            · rw [if_pos e2, if_pos ⟨by omega, e2.2⟩]
            · rw [if_neg e2, if_neg (fun g => e2 ⟨by omega, g.2⟩)])
    rw [Nat.zero_add] at this
    obtain ⟨h1, h2, h3, h4⟩ := this
    refine ⟨h1, fun k hk => ?_, fun k hk => ?_, fun k hk hw => ?_⟩
    · rw [h2 k]
      by_cases e : w 11 k = 0
      · rw [if_neg (fun g => g.2 e), if_pos e, e]
      · rw [if_pos ⟨hk, e⟩, if_neg e]
    · rw [h3 k]
      by_cases e : w 11 k = 0
      · rw [if_neg (fun g => g.2 e), if_pos e]
      · rw [if_pos ⟨hk, e⟩, if_neg e]
    · rw [h4 k, if_pos ⟨hk, hw⟩]
def dkf (o : Nat) (r : Nat → Int32) : Nat → Int32 := upd (upd (upd (upd (upd (upd (upd r (51 + 12 * o + 2) (r (51 + 12 * o + 1))) (51 + 12 * o + 3) 0) (51 + 12 * o + 6) (-1)) (51 + 12 * o + 7) 0) (51 + 12 * o + 8) 0) (51 + 12 * o + 9) 0) (51 + 12 * o + 10) (r 0)
def Dk (r : Nat → Int32) (N : Nat) (u : Nat → Int32) : Prop := (∀ i, i < 51 ∨ 195 ≤ i → u i = r i) ∧ (∀ k, k < 12 → u (51 + 12 * k) = r (51 + 12 * k)) ∧ (∀ k, k < 12 → u (51 + 12 * k + 1) = r (51 + 12 * k + 1)) ∧ (∀ k, k < 12 → u (51 + 12 * k + 4) = r (51 + 12 * k + 4)) ∧ (∀ k, k < 12 → u (51 + 12 * k + 5) = r (51 + 12 * k + 5)) ∧ (∀ k, k < 12 → u (51 + 12 * k + 11) = r (51 + 12 * k + 11)) ∧ (∀ k, k < N → u (51 + 12 * k + 2) = r (51 + 12 * k + 1)) ∧ (∀ k, k < N → u (51 + 12 * k + 3) = 0) ∧ (∀ k, k < N → u (51 + 12 * k + 6) = -1) ∧ (∀ k, k < N → u (51 + 12 * k + 7) = 0) ∧ (∀ k, k < N → u (51 + 12 * k + 8) = 0) ∧ (∀ k, k < N → u (51 + 12 * k + 9) = 0) ∧ (∀ k, k < N → u (51 + 12 * k + 10) = r 0)
theorem dkf_all (r : Nat → Int32) (n : Nat) (h12 : n ≤ 12) : Dk r n (lfold dkf 0 n r) := by
  have := lfold_inv (f := dkf) (fun m u => m ≤ n → Dk r m u) n 0 r (fun _ => ⟨fun i _ => rfl, fun k _ => rfl, fun k _ => rfl, fun k _ => rfl, fun k _ => rfl, fun k _ => rfl, fun k h => by omega, fun k h => by omega, fun k h => by omega, fun k h => by omega, fun k h => by omega, fun k h => by omega, fun k h => by omega⟩) (by
    intro m u _ hm ih hm1
    obtain ⟨h0, a0, a1, a4, a5, a11, b2, b3, b6, b7, b8, b9, b10⟩ := ih (by omega)
    refine ⟨?_, ?_, ?_, ?_, ?_, ?_, ?_, ?_, ?_, ?_, ?_, ?_, ?_⟩
    · intro i hi
      unfold dkf
      rw [upd_n (by omega), upd_n (by omega), upd_n (by omega), upd_n (by omega), upd_n (by omega), upd_n (by omega), upd_n (by omega), h0 i hi]
    · intro k hk
      unfold dkf
      rw [upd_n (by omega), upd_n (by omega), upd_n (by omega), upd_n (by omega), upd_n (by omega), upd_n (by omega), upd_n (by omega), a0 k hk]
    · intro k hk
      unfold dkf
      rw [upd_n (by omega), upd_n (by omega), upd_n (by omega), upd_n (by omega), upd_n (by omega), upd_n (by omega), upd_n (by omega), a1 k hk]
    · intro k hk
      unfold dkf
      rw [upd_n (by omega), upd_n (by omega), upd_n (by omega), upd_n (by omega), upd_n (by omega), upd_n (by omega), upd_n (by omega), a4 k hk]
    · intro k hk
      unfold dkf
      rw [upd_n (by omega), upd_n (by omega), upd_n (by omega), upd_n (by omega), upd_n (by omega), upd_n (by omega), upd_n (by omega), a5 k hk]
    · intro k hk
      unfold dkf
      rw [upd_n (by omega), upd_n (by omega), upd_n (by omega), upd_n (by omega), upd_n (by omega), upd_n (by omega), upd_n (by omega), a11 k hk]
    · intro k hk
      by_cases e : k = m
      · subst e
        simp (disch := omega) only [dkf, upd_n, upd_s]
        rw [a1 k (by omega)]
      · simp (disch := omega) only [dkf, upd_n, upd_s]
        rw [b2 k (by omega)]
    · intro k hk
      by_cases e : k = m
      · subst e
        simp (disch := omega) only [dkf, upd_n, upd_s]
      · simp (disch := omega) only [dkf, upd_n, upd_s]
        rw [b3 k (by omega)]
    · intro k hk
      by_cases e : k = m
      · subst e
        simp (disch := omega) only [dkf, upd_n, upd_s]
      · simp (disch := omega) only [dkf, upd_n, upd_s]
        rw [b6 k (by omega)]
    · intro k hk
      by_cases e : k = m
      · subst e
        simp (disch := omega) only [dkf, upd_n, upd_s]
      · simp (disch := omega) only [dkf, upd_n, upd_s]
        rw [b7 k (by omega)]
    · intro k hk
      by_cases e : k = m
      · subst e
        simp (disch := omega) only [dkf, upd_n, upd_s]
      · simp (disch := omega) only [dkf, upd_n, upd_s]
        rw [b8 k (by omega)]
    · intro k hk
      by_cases e : k = m
      · subst e
        simp (disch := omega) only [dkf, upd_n, upd_s]
      · simp (disch := omega) only [dkf, upd_n, upd_s]
        rw [b9 k (by omega)]
    · intro k hk
      by_cases e : k = m
      · subst e
        simp (disch := omega) only [dkf, upd_n, upd_s]
        rw [h0 0 (by omega)]
      · simp (disch := omega) only [dkf, upd_n, upd_s]
        rw [b10 k (by omega)]
    )
  rw [Nat.zero_add] at this
  exact this (Nat.le_refl _)
theorem darkens_e {v : Nat → Nat → Int32} {z : Nat → Nat → Int32} {w : Nat → Nat → Int32} {r : Nat → Int32} {n : Nat} {t : Nat} {s : Nat} {c : Nat} {p : Nat} {l : Nat} {f : Nat} {pk : Int32 × Int32} (hp : Pl v z n) (h : Ev v n t s c p l f pk w r) (x : Int32) : ∃ u : Nat → Int32, qX11_darkens z r x = some u ∧ Dk (upd (upd (upd (upd r 1 (if w 1 0 < w 0 0 + x then w 0 0 + x else w 1 0)) 2 (r 2 + 1)) 11 0) 12 0) n u := by
  have hn := hp.hn
  refine ⟨lfold dkf 0 n (upd (upd (upd (upd r 1 (if w 1 0 < w 0 0 + x then w 0 0 + x else w 1 0)) 2 (r 2 + 1)) 11 0) 12 0), ?_, dkf_all _ n hn⟩
  have hy : (if w 1 0 < w 0 0 + x then w 0 0 + x else w 1 0) = if r 0 + x ≤ r 1 then r 1 else r 0 + x := by
    rw [← h.dark, h.tick, h.tickr]
    by_cases e : nI t + x ≤ w 1 0
    · rw [if_pos e, if_neg (Int32.not_lt.mpr e)]
    · rw [if_neg e, if_pos (Int32.not_le.mp e)]
  have key : ∀ y : Int32, qX11_darkens_L43 z (fun (rw_8 : Nat → Int32) => some rw_8) fu 0 (upd (upd (upd (upd r 1 y) 2 (r 2 + 1)) 11 0) 12 0) = some (lfold dkf 0 n (upd (upd (upd (upd r 1 y) 2 (r 2 + 1)) 11 0) 12 0)) := by
    intro y
    refine lp (L := fun g i u => qX11_darkens_L43 z (fun (rw_8 : Nat → Int32) => some rw_8) g i u) (N := n) (K := fun u => some u) (fun _ _ => True) ?_ ?_ n fu 0 _ (by omega) (by unfold fu; omega) trivial
    · intro g k u hk _
      refine ⟨?_, trivial⟩
      show qX11_darkens_L43 z _ (g + 1) (nI k) u = qX11_darkens_L43 z _ g (nI (k + 1)) (dkf k u)
      rw [qX11_darkens_L43, hp.z1, if_neg (nle hk (by omega))]
      simp (disch := omega) only [ag1, ag2, ag3, ag6, ag7, ag8, ag9, ag10, bd_s, gdn, cl, bs_e, p1, upd_n]
      rfl
    · intro g u _
      show qX11_darkens_L43 z _ (g + 1) (nI n) u = _
      rw [qX11_darkens_L43, hp.z1, if_pos (Int32.le_refl _)]
  unfold qX11_darkens
  rw [hy, jn_e]
  by_cases e : r 0 + x ≤ r 1
  · rw [if_pos e, if_pos e]
    dsimp only
    rw [bs_e, bs_e, bs_e, bs_e, upd_n (show 2 ≠ 1 by omega)]
    exact key _
  · rw [if_neg e, if_neg e]
    dsimp only
    rw [bs_e, bs_e, bs_e, bs_e, upd_n (show 2 ≠ 1 by omega)]
    exact key _
