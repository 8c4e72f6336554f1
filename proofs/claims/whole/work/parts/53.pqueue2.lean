-- the queue is filled
def Qu (w : Nat → Nat → Int32) (k m : Nat) (q : Nat → Nat) : Prop := m ≤ k ∧ (∀ i, i < m → q i < k ∧ w 18 (q i) = 1) ∧ (∀ i j, i < j → j < m → lto w (q i) (q j)) ∧ (∀ o, o < k → w 18 o = 1 → ∃ i, i < m ∧ q i = o)
def qin (q : Nat → Nat) (x k : Nat) : Nat → Nat := fun i => if i < x then q i else if i = x then k else q (i - 1)
theorem qin_l {q : Nat → Nat} {x k i : Nat} (h : i < x) : qin q x k i = q i := if_pos h
theorem qin_e {q : Nat → Nat} {x k : Nat} : qin q x k x = k := by
  unfold qin
  rw [if_neg (by omega), if_pos rfl]
theorem qin_g {q : Nat → Nat} {x k i : Nat} (h : x < i) : qin q x k i = q (i - 1) := by
  unfold qin
  rw [if_neg (by omega), if_neg (by omega)]
theorem qu_in {w : Nat → Nat → Int32} {k m x : Nat} {q : Nat → Nat} (h : Qu w k m q) (hk : w 18 k = 1) (hx : x ≤ m) (ha : ∀ i, x ≤ i → i < m → lto w k (q i)) (hb : x = 0 ∨ ¬ lto w k (q (x - 1))) : Qu w (k + 1) (m + 1) (qin q x k) := by
  obtain ⟨h1, h2, h3, h4⟩ := h
  have hlt : ∀ i, i < x → lto w (q i) k := by
    intro i hi
    rcases hb with e | e
    · omega
    · have g1 : lto w (q (x - 1)) k := by
        rcases lto_tot (w := w) (a := q (x - 1)) (b := k) (by have := (h2 (x - 1) (by omega)).1; omega) with g | g
        · exact g
        · exact absurd g e
      by_cases e2 : i = x - 1
      · rw [e2]
        exact g1
      · exact lto_tr (h3 i (x - 1) (by omega) (by omega)) g1
  refine ⟨by omega, ?_, ?_, ?_⟩
  · intro i hi
    rcases Nat.lt_trichotomy i x with e | e | e
    · rw [qin_l e]
      have := h2 i (by omega)
      exact ⟨by omega, this.2⟩
    · subst e
      rw [qin_e]
      exact ⟨by omega, hk⟩
    · rw [qin_g e]
      have := h2 (i - 1) (by omega)
      exact ⟨by omega, this.2⟩
  · intro i j hij hj
    rcases Nat.lt_trichotomy i x with e | e | e
    · rw [qin_l e]
      rcases Nat.lt_trichotomy j x with e2 | e2 | e2
      · rw [qin_l e2]
        exact h3 i j hij (by omega)
      · rw [e2, qin_e]
        exact hlt i e
      · rw [qin_g e2]
        exact h3 i (j - 1) (by omega) (by omega)
    · rw [e, qin_e, qin_g (by omega)]
      exact ha (j - 1) (by omega) (by omega)
    · rw [qin_g e, qin_g (by omega)]
      exact h3 (i - 1) (j - 1) (by omega) (by omega)
  · intro o ho hm
    by_cases e : o = k
    · exact ⟨x, by omega, by rw [qin_e, e]⟩
    · obtain ⟨i, g1, g2⟩ := h4 o (by omega) hm
      by_cases e2 : i < x
      · exact ⟨i, by omega, by rw [qin_l e2, g2]⟩
      · exact ⟨i + 1, by omega, by rw [qin_g (by omega)]; exact g2⟩
theorem isAhead_c {v : Nat → Nat → Int32} {w : Nat → Nat → Int32} (u : Nat → Nat → Int32) (a b : Int32) (h1 : u 10 = w 10) (h2 : u 23 = w 23) : qX9_isAhead v u a b = qX9_isAhead v w a b := by
  unfold qX9_isAhead
  rw [h1, h2]
theorem nI_dec (x : Nat) : nI (x + 1) + (-1) = nI x := by
  rw [← Int32.sub_eq_add_neg]
  exact nI_pred x
theorem fq_in {v : Nat → Nat → Int32} {w : Nat → Nat → Int32} {n : Nat} {t : Nat} {s : Nat} {c : Nat} {p : Nat} {l : Nat} {f : Nat} {k : Nat} {m : Nat} {q : Nat → Nat} (K : Int32 → (Nat → Nat → Int32) → Option (Nat → Nat → Int32)) (hi : Iv n t s c p l f w) (hk : k < n) (hq : Qu w k m q) : ∀ (x g : Nat) (u : Nat → Nat → Int32), x ≤ m → x < g → (∀ i, i ≠ 8 → i ≠ 9 → u i = w i) → u 8 0 = nI m → (∀ i, i < x → u 9 i = nI (q i)) → (∀ i, x < i → i ≤ m → u 9 i = nI (q (i - 1))) → (∀ i, x ≤ i → i < m → lto w k (q i)) →
    ∃ x2 u2, qX9_fillQueue_L45 v (nI k) K g (nI x) u = K (nI x2) u2 ∧ x2 ≤ m ∧ (∀ i, i ≠ 8 → i ≠ 9 → u2 i = w i) ∧ u2 8 0 = nI m ∧ (∀ i, i < x2 → u2 9 i = nI (q i)) ∧ (∀ i, x2 < i → i ≤ m → u2 9 i = nI (q (i - 1))) ∧ (∀ i, x2 ≤ i → i < m → lto w k (q i)) ∧ (x2 = 0 ∨ ¬ lto w k (q (x2 - 1))) := by
  have h12 := hi.n12
  intro x
  induction x with
  | zero =>
    intro g u hx hg h1 h2 h3 h4 h5
    obtain ⟨g, rfl⟩ : ∃ g', g = g' + 1 := ⟨g - 1, by omega⟩
    refine ⟨0, u, ?_, hx, h1, h2, h3, h4, h5, Or.inl rfl⟩
    rw [qX9_fillQueue_L45, if_pos (show nI 0 ≤ 0 from Int32.le_refl _)]
  | succ x ih =>
    intro g u hx hg h1 h2 h3 h4 h5
    obtain ⟨g, rfl⟩ : ∃ g', g = g' + 1 := ⟨g - 1, by omega⟩
    obtain ⟨q1, q2, q3, q4⟩ := hq
    have hqx := q2 x (by omega)
    obtain ⟨y, e1, e2, e3⟩ := isAheadC_e (v := v) hi hk (show q x < n by omega) (by omega)
    have hstep : qX9_fillQueue_L45 v (nI k) K (g + 1) (nI (x + 1)) u = if y = 0 then K (nI (x + 1)) u else qX9_fillQueue_L45 v (nI k) K g (nI x) (va_up u 9 (upd (u 9) (x + 1) (nI (q x)))) := by
      rw [qX9_fillQueue_L45, if_neg (nI_nle (by omega) (by omega)), nI_pred, gdn (by omega) (by omega), cl (by omega), h3 x (by omega), isAhead_c u _ _ (h1 10 (by omega) (by omega)) (h1 23 (by omega) (by omega)), e1, bd_s, gdn (by omega) (by omega), gdn (by omega) (by omega), cl (by omega), bs_e, nI_dec]
    rw [hstep]
    by_cases ey : y = 0
    · rw [if_pos ey]
      exact ⟨x + 1, u, rfl, hx, h1, h2, h3, h4, h5, Or.inr (e2 ey)⟩
    · rw [if_neg ey]
      refine ih g _ (by omega) (by omega) ?_ ?_ ?_ ?_ ?_
      · intro i a b
        rw [va_n b, h1 i a b]
      · rw [va_n (by omega), h2]
      · intro i a
        rw [va_s, upd_n (by omega), h3 i (by omega)]
      · intro i a b
        rw [va_s]
        by_cases e : i = x + 1
        · rw [e, upd_s]
          rfl
        · rw [upd_n e, h4 i (by omega) b]
      · intro i a b
        by_cases e : i = x
        · rw [e]
          exact e3 ey
        · exact h5 i (by omega) b
/-- the queue of those that asked, first the one that is ahead -/
theorem fillQueue_e {v : Nat → Nat → Int32} {z : Nat → Nat → Int32} {w : Nat → Nat → Int32} {n : Nat} {t : Nat} {s : Nat} {c : Nat} {p : Nat} {l : Nat} {f : Nat} (hp : Pl v z n) (hi : Iv n t s c p l f w) : ∃ wq m q, qX9_fillQueue v w = some wq ∧ (∀ i, i ≠ 8 → i ≠ 9 → wq i = w i) ∧ wq 8 0 = nI m ∧ (∀ i, i < m → wq 9 i = nI (q i)) ∧ Qu w n m q := by
  have h12 := hi.n12
  have key : ∀ (d k g m : Nat) (q : Nat → Nat) (u : Nat → Nat → Int32), k + d = n → d < g → (∀ i, i ≠ 8 → i ≠ 9 → u i = w i) → u 8 0 = nI m → (∀ i, i < m → u 9 i = nI (q i)) → Qu w k m q →
      ∃ wq m q, qX9_fillQueue_L7 v (fun (w_4 : Nat → Nat → Int32) => some w_4) g (nI k) u = some wq ∧ (∀ i, i ≠ 8 → i ≠ 9 → wq i = w i) ∧ wq 8 0 = nI m ∧ (∀ i, i < m → wq 9 i = nI (q i)) ∧ Qu w n m q := by
    intro d
    induction d with
    | zero =>
      intro k g m q u hk hg h1 h2 h3 h4
      obtain ⟨g, rfl⟩ : ∃ g', g = g' + 1 := ⟨g - 1, by omega⟩
      have : k = n := by omega
      subst this
      refine ⟨u, m, q, ?_, h1, h2, h3, h4⟩
      rw [qX9_fillQueue_L7, hp.v0, if_pos (Int32.le_refl _)]
    | succ d ih =>
      intro k g m q u hk hg h1 h2 h3 h4
      obtain ⟨g, rfl⟩ : ∃ g', g = g' + 1 := ⟨g - 1, by omega⟩
      have hmk := h4.1
      rw [qX9_fillQueue_L7, hp.v0, if_neg (nle (show k < n by omega) (by omega)), h2, if_neg (show ¬ (12 : Int32) ≤ nI m from nle (a := 12) (by omega) (by omega)), gdn (by omega) (by omega), cl (by omega), h1 18 (by omega) (by omega), jn_e]
      by_cases e : w 18 k = 1
      · rw [if_pos e]
        obtain ⟨x2, u2, a1, a2, a3, a4, a5, a6, a7, a8⟩ := fq_in (v := v) (fun (x2_9 : Int32) (w_10 : Nat → Nat → Int32) => gd (vp_in x2_9 12) (bs (va_up w_10 9 (upd (w_10 9) x2_9.toNatClampNeg (nI k))) fun w_13 => (bs (va_up w_13 8 (fun _ => ((w_13 8 0) + 1))) fun w_14 => (qX9_fillQueue_L7 v (fun (w_4 : Nat → Nat → Int32) => some w_4) g (nI k + 1) w_14)))) hi (show k < n by omega) h4 m fu u (Nat.le_refl _) (by unfold fu; omega) h1 h2 h3 (fun i b c => by omega) (fun i b c => by omega)
        refine Exists.imp (fun wq h => Exists.imp (fun m' h => Exists.imp (fun q' h => ?_) h) h) (ih (k + 1) g (m + 1) (qin q x2 k) (va_up (va_up u2 9 (upd (u2 9) x2 (nI k))) 8 (fun _ => nI (m + 1))) (by omega) (by omega) ?_ ?_ ?_ (qu_in h4 e a2 a7 a8))
        · refine ⟨?_, h.2⟩
          refine a1.trans (Eq.trans ?_ h.1)
          show gd (vp_in (nI x2) 12) _ = _
          rw [gdn (by omega) (by omega), cl (by omega), bs_e, bs_e, va_n (by omega), a4, p1, p1]
        · intro i b c
          rw [va_n b, va_n c, a3 i b c]
        · rw [va_s]
        · intro i b
          rw [va_n (by omega), va_s]
          rcases Nat.lt_trichotomy i x2 with e2 | e2 | e2
          · rw [upd_n (by omega), qin_l e2, a5 i e2]
          · rw [e2, upd_s, qin_e]
          · rw [upd_n (by omega), qin_g e2, a6 i e2 (by omega)]
      · rw [if_neg e, p1]
        refine ih (k + 1) g m q u (by omega) (by omega) h1 h2 h3 ⟨by omega, fun i a => ?_, h4.2.2.1, fun o a b => ?_⟩
        · have := h4.2.1 i a
          exact ⟨by omega, this.2⟩
        · by_cases e2 : o = k
          · subst e2
            exact absurd b e
          · exact h4.2.2.2 o (by omega) b
  unfold qX9_fillQueue
  rw [bs_e]
  refine key n 0 fu 0 (fun _ => 0) _ (by omega) (by unfold fu; omega) (fun i a b => by rw [va_n a]) (by rw [va_s]; rfl) (fun i a => by omega) ⟨by omega, fun i a => by omega, fun i j a b => by omega, fun o a => by omega⟩
