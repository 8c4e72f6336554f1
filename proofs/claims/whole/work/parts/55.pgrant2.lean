-- the grants of the other side
theorem exp_b {v : Nat → Nat → Int32} {z : Nat → Nat → Int32} {w : Nat → Nat → Int32} {r : Nat → Int32} {n : Nat} {t : Nat} {s : Nat} {c : Nat} {p : Nat} {l : Nat} {f : Nat} {o : Nat} {pk : Int32 × Int32} (hp : Pl v z n) (h : Ev v n t s c p l f pk w r) (ho : o < n) : ∃ k, k < 2000 ∧ w 20 o = nI k := by
  rw [h.exp o ho]
  split
  · exact hp.bpk o ho
  · exact hp.bin o ho
theorem rsv_b {v : Nat → Nat → Int32} {z : Nat → Nat → Int32} {w : Nat → Nat → Int32} {r : Nat → Int32} {n : Nat} {t : Nat} {s : Nat} {c : Nat} {p : Nat} {l : Nat} {f : Nat} {pk : Int32 × Int32} (hp : Pl v z n) (h : Ev v n t s c p l f pk w r) : ∃ a, a ≤ 24000 ∧ sumf n (rsv v w) = nI a := by
  have hn := hp.hn
  have := lfold_inv (f := fun k x => x + rsv v w k) (fun k x => k ≤ n → ∃ a, a ≤ 2000 * k ∧ x = nI a) n 0 0 (fun _ => ⟨0, by omega, rfl⟩) (by
    intro k x _ hk ih hk1
    obtain ⟨a, h1, h2⟩ := ih (by omega)
    have : ∃ b, b < 2000 ∧ rsv v w k = nI b := by
      unfold rsv
      split
      · exact exp_b hp h (by omega)
      · split
        · exact hp.bst k (by omega)
        · exact ⟨0, by omega, rfl⟩
    obtain ⟨b, g1, g2⟩ := this
    exact ⟨a + b, by omega, by rw [h2, g2, nI_add]⟩)
  rw [Nat.zero_add] at this
  obtain ⟨a, h1, h2⟩ := this (Nat.le_refl _)
  exact ⟨a, by omega, h2⟩
def Lft (n i m : Nat) (q : Nat → Nat) (x : Int32) : Prop := (∀ o, o < n → (bt x o = true ↔ ∃ j, i ≤ j ∧ j < m ∧ q j = o)) ∧ ∀ o, n ≤ o → o < 32 → bt x o = false
theorem lft_0 {n : Nat} {m : Nat} {x : Int32} {q : Nat → Nat} (h12 : n ≤ 12) (h : Lft n m m q x) : x = 0 := by
  apply b_ext
  intro i hi
  rw [b_0]
  by_cases e : i < n
  · cases hb : bt x i
    · rfl
    · obtain ⟨j, h1, h2, -⟩ := (h.1 i e).mp hb
      omega
  · exact h.2 i (by omega) hi
theorem lft_n {n : Nat} {m : Nat} {i : Nat} {x : Int32} {q : Nat → Nat} (h12 : n ≤ 12) (h : Lft n i m q x) (hi : i < m) (hq : ∀ j, j < m → q j < n) : ¬ x = 0 := by
  intro e
  have := (h.1 (q i) (hq i hi)).mpr ⟨i, Nat.le_refl _, hi, rfl⟩
  rw [e, b_0] at this
  cases this
theorem lft_s {n : Nat} {m : Nat} {i : Nat} {x : Int32} {q : Nat → Nat} (h12 : n ≤ 12) (h : Lft n i m q x) (hi : i < m) (hq : ∀ j, j < m → q j < n) (hd : ∀ a b, a < b → b < m → q a ≠ q b) : Lft n (i + 1) m q (x &&& ((1 <<< (nI (q i) &&& 31)) ^^^ (-1))) := by
  have hqi := hq i hi
  constructor
  · intro o ho
    rw [b_clr x (by omega) (by omega), Bool.and_eq_true, h.1 o ho]
    constructor
    · intro ⟨⟨j, h1, h2, h3⟩, h4⟩
      refine ⟨j, ?_, h2, h3⟩
      rcases Nat.lt_or_ge i j with g | g
      · omega
      · have : j = i := by omega
        subst this
        rw [h3, decide_eq_true rfl] at h4
        cases h4
    · intro ⟨j, h1, h2, h3⟩
      refine ⟨⟨j, by omega, h2, h3⟩, ?_⟩
      have := hd i j (by omega) h2
      rw [decide_eq_false]
      · rfl
      · intro e
        exact this (e.symm.trans h3.symm)
  · intro o h1 h2
    rw [b_clr x (by omega) h2, h.2 o h1 h2]
    rfl
theorem qu_ne {w : Nat → Nat → Int32} {n : Nat} {m : Nat} {q : Nat → Nat} (hq : Qu w n m q) : ∀ a b, a < b → b < m → q a ≠ q b := by
  intro a b h1 h2 e
  have := hq.2.2.1 a b h1 h2
  rw [e] at this
  exact lto_as this this
theorem lft_i {w : Nat → Nat → Int32} {n : Nat} {m : Nat} {q : Nat → Nat} (h12 : n ≤ 12) (hq : Qu w n m q) : Lft n 0 m q (bset n (fun k => decide (w 18 k = 1))) := by
  constructor
  · intro o ho
    rw [bset_bt h12 _ (by omega), decide_eq_true ho, Bool.true_and, decide_eq_true_eq]
    constructor
    · intro e
      obtain ⟨j, h1, h2⟩ := hq.2.2.2 o ho e
      exact ⟨j, by omega, h1, h2⟩
    · intro ⟨j, h1, h2, h3⟩
      rw [← h3]
      exact (hq.2.1 j h2).2
  · intro o h1 h2
    rw [bset_bt h12 _ h2, decide_eq_false (by omega)]
    rfl
theorem l24_step {v : Nat → Nat → Int32} {z : Nat → Nat → Int32} {w : Nat → Nat → Int32} {r : Nat → Int32} {n : Nat} {t : Nat} {s : Nat} {c : Nat} {p : Nat} {l : Nat} {f : Nat} {m : Nat} {i : Nat} {b : Nat} {pk : Int32 × Int32} {q : Nat → Nat} (hp : Pl v z n) (h : Ev v n t s c p l f pk w r) (hi : Iv n t s c p l f w) (g : Nat) (x y st : Int32) (K : Int32 → (Nat → Int32) → Option (Int32 × (Nat → Int32))) (him : i < m) (hq : ∀ j, j < m → q j < n) (hs : ∀ i j, i < j → j < m → lto w (q i) (q j)) (hx : Lft n i m q y) (ha : b ≤ 24000) :
    qX11_grantsOf_L24 z x K (g + 1) st y (nI f - nI b) r =
      if v 14 (q i) &&& (lk3 w n ^^^ (-1)) = 0 then
        (if nI f < nI b + w 20 (q i) then (if w 4 0 = 0 then qX11_grantsOf_L24 z x K g st (y &&& ((1 <<< (nI (q i) &&& 31)) ^^^ (-1))) (nI f - nI b) r else some (st, r))
        else (if x = 0 then qX11_grantsOf_L24 z x K g (st ||| (1 <<< (nI (q i) &&& 31))) (y &&& ((1 <<< (nI (q i) &&& 31)) ^^^ (-1))) (nI f - (nI b + w 20 (q i))) r
          else bd (qX11_sends z r 4 (nI (q i)) (-1)) fun u => bd (qX11_marks z u (nI (q i)) 2) fun u2 => qX11_grantsOf_L24 z x K g (st ||| (1 <<< (nI (q i) &&& 31))) (y &&& ((1 <<< (nI (q i) &&& 31)) ^^^ (-1))) (nI f - (nI b + w 20 (q i))) u2))
      else qX11_grantsOf_L24 z x K g st (y &&& ((1 <<< (nI (q i) &&& 31)) ^^^ (-1))) (nI f - nI b) r := by
  have h12 := hi.n12
  have hfb := hi.fb
  have hqi := hq i him
  obtain ⟨e, e1, e2⟩ := exp_b hp h hqi
  rw [qX11_grantsOf_L24, if_neg (lft_n h12 hx him hq), sel_e hp h hi _ _ _ _ _ him hq hs (fun o ho => hx.1 o ho)]
  have hl : qX11_lacks z r (nI (q i)) = some (if v 14 (q i) &&& (lk3 w n ^^^ (-1)) = 0 then 0 else 1) := by
    unfold qX11_lacks
    rw [gdn (by omega) (by omega), withMark_e hp h, bd_s, cl (by omega), hp.needed _ hqi]
    show (if v 14 (q i) &&& (lk3 w n ^^^ (-1)) = 0 then some 0 else some 1) = _
    split <;> rfl
  rw [hl, bd_s, expected_e hp h hqi, bd_s]
  by_cases a1 : v 14 (q i) &&& (lk3 w n ^^^ (-1)) = 0
  · rw [if_pos a1, if_pos rfl, if_pos a1]
    have hr := room_e (e := e) (a := b) (f := f) e1 ha hfb.2
    rw [← e2] at hr
    by_cases a2 : nI f < nI b + w 20 (q i)
    · rw [if_pos a2, if_neg (show ¬ w 20 (q i) ≤ nI f - nI b from fun g => hr.mp g a2), ← h.strict]
      rcases hi.s01 with a3 | a3
      · rw [if_neg (show ¬ w 4 0 = 1 by rw [a3]; decide), if_pos a3]
      · rw [if_pos a3, if_neg (show ¬ w 4 0 = 0 by rw [a3]; decide)]
    · rw [if_neg a2, if_pos (hr.mpr a2), bd_s, sub_sub32]
  · rw [if_neg a1, if_neg (show ¬ (1 : Int32) = 0 by decide), if_neg a1]
theorem gst_b {v : Nat → Nat → Int32} {z : Nat → Nat → Int32} {w : Nat → Nat → Int32} {r : Nat → Int32} {n : Nat} {t : Nat} {s : Nat} {c : Nat} {p : Nat} {l : Nat} {f : Nat} {i : Nat} {b : Nat} {pk : Int32 × Int32} {q : Nat → Nat} (hp : Pl v z n) (h : Ev v n t s c p l f pk w r) (hi : Iv n t s c p l f w) (hqi : q i < n) (st : Int32) (ha : b ≤ 24000) (h2 : ¬ nI f < nI b + w 20 (q i)) : ∃ b2, b2 ≤ 24000 ∧ nI b + w 20 (q i) = nI b2 := by
  have hfb := hi.fb
  obtain ⟨e, e1, e2⟩ := exp_b hp h hqi
  refine ⟨b + e, ?_, by rw [e2, nI_add]⟩
  rw [e2, nI_add, nI_ltI (by omega) (by omega)] at h2
  omega
theorem grantsOf0_e {v : Nat → Nat → Int32} {z : Nat → Nat → Int32} {w : Nat → Nat → Int32} {r : Nat → Int32} {n : Nat} {t : Nat} {s : Nat} {c : Nat} {p : Nat} {l : Nat} {f : Nat} {m : Nat} {pk : Int32 × Int32} {q : Nat → Nat} (hp : Pl v z n) (h : Ev v n t s c p l f pk w r) (hi : Iv n t s c p l f w) (hq : Qu w n m q) : qX11_grantsOf z r 0 = some ((lfold (gstep v w n f q) 0 m (0, sumf n (rsv v w), false)).1, r) := by
  have h12 := hi.n12
  have hmn := hq.1
  obtain ⟨a0, ha0, ea0⟩ := rsv_b hp h
  unfold qX11_grantsOf
  rw [withMark_e hp h, bd_s, reservedAll_e hp h, bd_s, h.fuser, ea0]
  have key : ∀ (d i g b : Nat) (st y : Int32), i + d = m → d < g → b ≤ 24000 → Lft n i m q y → qX11_grantsOf_L24 z 0 (fun (x3_8 : Int32) (rw_9 : Nat → Int32) => some (x3_8, rw_9)) g st y (nI f - nI b) r = some ((lfold (gstep v w n f q) i d (st, nI b, false)).1, r) := by
    intro d
    induction d with
    | zero =>
      intro i g b st y hd hg hb hy
      obtain ⟨g, rfl⟩ : ∃ g', g = g' + 1 := ⟨g - 1, by omega⟩
      have : i = m := by omega
      subst this
      rw [qX11_grantsOf_L24, if_pos (lft_0 h12 hy)]
      rfl
    | succ d ih =>
      intro i g b st y hd hg hb hy
      obtain ⟨g, rfl⟩ : ∃ g', g = g' + 1 := ⟨g - 1, by omega⟩
      have hqi := (hq.2.1 i (by omega)).1
      have hy2 := lft_s h12 hy (by omega) (fun j hj => (hq.2.1 j hj).1) (qu_ne hq)
      rw [l24_step hp h hi g 0 y st _ (show i < m by omega) (fun j hj => (hq.2.1 j hj).1) hq.2.2.1 hy hb]
      show _ = some ((lfold (gstep v w n f q) (i + 1) d (gstep v w n f q i (st, nI b, false))).1, r)
      by_cases c1 : v 14 (q i) &&& (lk3 w n ^^^ (-1)) = 0
      · rw [if_pos c1]
        by_cases c2 : nI f < nI b + w 20 (q i)
        · rw [if_pos c2]
          by_cases c3 : w 4 0 = 0
          · have : gstep v w n f q i (st, nI b, false) = (st, nI b, false) := by
              unfold gstep
              rw [if_neg (show ¬ ((st, nI b, false) : Int32 × Int32 × Bool).2.2 = true from Bool.false_ne_true), if_pos c1, if_pos c2, if_pos c3]
            rw [if_pos c3, this]
            exact ih (i + 1) g b st _ (by omega) (by omega) hb hy2
          · have : gstep v w n f q i (st, nI b, false) = (st, nI b, true) := by
              unfold gstep
              rw [if_neg (show ¬ ((st, nI b, false) : Int32 × Int32 × Bool).2.2 = true from Bool.false_ne_true), if_pos c1, if_pos c2, if_neg c3]
            rw [if_neg c3, this, gst_stop _ _ _ rfl]
        · have : gstep v w n f q i (st, nI b, false) = (st ||| (1 <<< (nI (q i) &&& 31)), nI b + w 20 (q i), false) := by
            unfold gstep
            rw [if_neg (show ¬ ((st, nI b, false) : Int32 × Int32 × Bool).2.2 = true from Bool.false_ne_true), if_pos c1, if_neg c2]
          obtain ⟨b2, hb2, eb2⟩ := gst_b hp h hi hqi st hb c2
          rw [if_neg c2, this, if_pos rfl, eb2]
          exact ih (i + 1) g b2 _ _ (by omega) (by omega) hb2 hy2
      · have : gstep v w n f q i (st, nI b, false) = (st, nI b, false) := by
          unfold gstep
          rw [if_neg (show ¬ ((st, nI b, false) : Int32 × Int32 × Bool).2.2 = true from Bool.false_ne_true), if_neg c1]
        rw [if_neg c1, this]
        exact ih (i + 1) g b st _ (by omega) (by omega) hb hy2
  exact key m 0 fu a0 0 _ (by omega) (by unfold fu; omega) ha0 (lft_i h12 hq)
