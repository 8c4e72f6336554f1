-- who is granted: the class's own loop, and the choice of the other side
def lk3 (w : Nat → Nat → Int32) (n : Nat) : Int32 := bset n (fun k => decide (w 18 k = 3))
def gstep (v w : Nat → Nat → Int32) (n f : Nat) (q : Nat → Nat) (i : Nat) (s : Int32 × Int32 × Bool) : Int32 × Int32 × Bool :=
  if s.2.2 = true then s else if v 14 (q i) &&& (lk3 w n ^^^ (-1)) = 0 then (if nI f < s.2.1 + w 20 (q i) then (if w 4 0 = 0 then s else (s.1, s.2.1, true)) else (s.1 ||| (1 <<< (nI (q i) &&& 31)), s.2.1 + w 20 (q i), false)) else s
theorem gst_stop {v : Nat → Nat → Int32} {w : Nat → Nat → Int32} {n : Nat} {f : Nat} {q : Nat → Nat} : ∀ (m k : Nat) (s : Int32 × Int32 × Bool), s.2.2 = true → lfold (gstep v w n f q) k m s = s
  | 0, _, _, _ => rfl
  | m + 1, k, s, h => by
    show lfold (gstep v w n f q) (k + 1) m (gstep v w n f q k s) = s
    have : gstep v w n f q k s = s := by
      unfold gstep
      rw [if_pos h]
    rw [this]
    exact gst_stop m (k + 1) s h
theorem grantable_e {v : Nat → Nat → Int32} {z : Nat → Nat → Int32} {w : Nat → Nat → Int32} {r : Nat → Int32} {n : Nat} {t : Nat} {s : Nat} {c : Nat} {p : Nat} {l : Nat} {f : Nat} {pk : Int32 × Int32} (hp : Pl v z n) (hi : Iv n t s c p l f w) (h : Ev v n t s c p l f pk w r) : ∃ wq m q, qX9_grantable v w = some ((lfold (gstep v w n f q) 0 m (0, sumf n (rsv v w), false)).1, wq) ∧ (∀ i, i ≠ 8 → i ≠ 9 → wq i = w i) ∧ wq 8 0 = nI m ∧ (∀ i, i < m → wq 9 i = nI (q i)) ∧ Qu w n m q := by
  obtain ⟨wq, m, q, e1, e2, e3, e4, e5⟩ := fillQueue_e hp hi
  have h12 := hi.n12
  have hmn := e5.1
  refine ⟨wq, m, q, ?_, e2, e3, e4, e5⟩
  have h18 := e2 18 (by omega) (by omega)
  have hrs : rsv v wq = rsv v w := by
    unfold rsv
    rw [h18, e2 20 (by omega) (by omega)]
  unfold qX9_grantable
  rw [e1, bd_s, markedWith_e hp, bd_s, reservedForAll_e hp, bd_s, hrs, h18]
  have key : ∀ (d i g : Nat) (x y : Int32), i + d = m → d < g → qX9_grantable_L26 v wq (lk3 w n) (fun (x3_9 : Int32) => some (x3_9, wq)) g y x (nI i) = some ((lfold (gstep v w n f q) i d (x, y, false)).1, wq) := by
    intro d
    induction d with
    | zero =>
      intro i g x y hd hg
      obtain ⟨g, rfl⟩ : ∃ g', g = g' + 1 := ⟨g - 1, by omega⟩
      have : i = m := by omega
      subst this
      rw [qX9_grantable_L26, e3, if_pos (Int32.le_refl _)]
      rfl
    | succ d ih =>
      intro i g x y hd hg
      obtain ⟨g, rfl⟩ : ∃ g', g = g' + 1 := ⟨g - 1, by omega⟩
      have hqi := (e5.2.1 i (by omega)).1
      rw [qX9_grantable_L26, e3, if_neg (nle (show i < m by omega) (by omega))]
      simp (disch := omega) only [gdn, cl, e4, jn_e, p1]
      rw [e2 20 (by omega) (by omega), e2 2 (by omega) (by omega), e2 4 (by omega) (by omega), h.fuse]
      show _ = some ((lfold (gstep v w n f q) (i + 1) d (gstep v w n f q i (x, y, false))).1, wq)
      by_cases a : v 14 (q i) &&& (lk3 w n ^^^ (-1)) = 0
      · rw [if_pos a]
        by_cases b : nI f < y + w 20 (q i)
        · rw [if_pos b]
          by_cases c : w 4 0 = 0
          · have : gstep v w n f q i (x, y, false) = (x, y, false) := by
              unfold gstep
              rw [if_neg (show ¬ ((x, y, false) : Int32 × Int32 × Bool).2.2 = true from Bool.false_ne_true), if_pos a, if_pos b, if_pos c]
            rw [if_pos c, this]
            exact ih (i + 1) g x y (by omega) (by omega)
          · have : gstep v w n f q i (x, y, false) = (x, y, true) := by
              unfold gstep
              rw [if_neg (show ¬ ((x, y, false) : Int32 × Int32 × Bool).2.2 = true from Bool.false_ne_true), if_pos a, if_pos b, if_neg c]
            rw [if_neg c, this, gst_stop _ _ _ rfl]
        · have : gstep v w n f q i (x, y, false) = (x ||| (1 <<< (nI (q i) &&& 31)), y + w 20 (q i), false) := by
            unfold gstep
            rw [if_neg (show ¬ ((x, y, false) : Int32 × Int32 × Bool).2.2 = true from Bool.false_ne_true), if_pos a, if_neg b]
          rw [if_neg b, this]
          exact ih (i + 1) g _ _ (by omega) (by omega)
      · have : gstep v w n f q i (x, y, false) = (x, y, false) := by
          unfold gstep
          rw [if_neg (show ¬ ((x, y, false) : Int32 × Int32 × Bool).2.2 = true from Bool.false_ne_true), if_neg a]
        rw [if_neg a, this]
        exact ih (i + 1) g x y (by omega) (by omega)
  exact key m 0 fu 0 _ (by omega) (by unfold fu; omega)
theorem sel_e {v : Nat → Nat → Int32} {z : Nat → Nat → Int32} {w : Nat → Nat → Int32} {r : Nat → Int32} {n : Nat} {t : Nat} {s : Nat} {c : Nat} {p : Nat} {l : Nat} {f : Nat} {m : Nat} {i : Nat} {pk : Int32 × Int32} {q : Nat → Nat} (hp : Pl v z n) (h : Ev v n t s c p l f pk w r) (hi : Iv n t s c p l f w) (a b x y : Int32) (K : Int32 → Option (Int32 × (Nat → Int32))) (him : i < m) (hq : ∀ j, j < m → q j < n) (hs : ∀ i j, i < j → j < m → lto w (q i) (q j)) (hx : ∀ o, o < n → (bt x o = true ↔ ∃ j, i ≤ j ∧ j < m ∧ q j = o)) :
    qX11_grantsOf_L35 z r a b x y K fu (-1) 0 = K (nI (q i)) := by
  have h12 := hi.n12
  have key : ∀ (d k g : Nat) (best : Int32), k + d = n → d < g → ((best = -1 ∧ ∀ o, o < k → ¬ bt x o = true) ∨ ∃ b, b < k ∧ best = nI b ∧ bt x b = true ∧ ∀ o, o < k → bt x o = true → o = b ∨ lto w b o) →
      ∃ b', b' < n ∧ qX11_grantsOf_L35 z r a b x y K g best (nI k) = K (nI b') ∧ bt x b' = true ∧ ∀ o, o < n → bt x o = true → o = b' ∨ lto w b' o := by
    intro d
    induction d with
    | zero =>
      intro k g best hk hg hb
      obtain ⟨g, rfl⟩ : ∃ g', g = g' + 1 := ⟨g - 1, by omega⟩
      have : k = n := by omega
      subst this
      rcases hb with ⟨-, h2⟩ | ⟨c, h1, h2, h3, h4⟩
      · exact absurd ((hx (q i) (hq i him)).mpr ⟨i, Nat.le_refl _, him, rfl⟩) (h2 (q i) (hq i him))
      · refine ⟨c, h1, ?_, h3, h4⟩
        rw [qX11_grantsOf_L35, hp.z1, if_pos (Int32.le_refl _), h2]
    | succ d ih =>
      intro k g best hk hg hb
      obtain ⟨g, rfl⟩ : ∃ g', g = g' + 1 := ⟨g - 1, by omega⟩
      rw [qX11_grantsOf_L35, hp.z1, if_neg (nle (show k < n by omega) (by omega)), jn_e, shr1 _ (by omega), p1]
      by_cases e : bt x k = true
      · rw [if_pos (b01_1.mpr e), jn_e]
        rcases hb with ⟨h1, h2⟩ | ⟨c, h1, h2, h3, h4⟩
        · rw [if_pos h1]
          refine ih (k + 1) g _ (by omega) (by omega) (Or.inr ⟨k, by omega, rfl, e, fun o ho he => ?_⟩)
          by_cases e2 : o = k
          · exact Or.inl e2
          · exact absurd he (h2 o (by omega))
        · rw [h2, if_neg (nI_m1 (by omega))]
          obtain ⟨u, u1, u2, u3⟩ := isAheadR_e (o := k) (k := c) (z := z) h hi (by omega) (by omega) (by omega)
          rw [u1, bd_s]
          by_cases e3 : u = 0
          · rw [if_pos e3]
            have hck : lto w c k := by
              rcases lto_tot (w := w) (a := k) (b := c) (by omega) with g1 | g1
              · exact absurd g1 (u2 e3)
              · exact g1
            refine ih (k + 1) g _ (by omega) (by omega) (Or.inr ⟨c, by omega, rfl, h3, fun o ho he => ?_⟩)
            by_cases e2 : o = k
            · rw [e2]
              exact Or.inr hck
            · exact h4 o (by omega) he
          · rw [if_neg e3]
            refine ih (k + 1) g _ (by omega) (by omega) (Or.inr ⟨k, by omega, rfl, e, fun o ho he => ?_⟩)
            by_cases e2 : o = k
            · exact Or.inl e2
            · rcases h4 o (by omega) he with g1 | g1
              · rw [g1]
                exact Or.inr (u3 e3)
              · exact Or.inr (lto_tr (u3 e3) g1)
      · rw [if_neg (show ¬ b01 x k = 1 from fun g1 => e (b01_1.mp g1))]
        refine ih (k + 1) g _ (by omega) (by omega) ?_
        rcases hb with ⟨h1, h2⟩ | ⟨c, h1, h2, h3, h4⟩
        · refine Or.inl ⟨h1, fun o ho => ?_⟩
          by_cases e2 : o = k
          · rw [e2]
            exact e
          · exact h2 o (by omega)
        · refine Or.inr ⟨c, by omega, h2, h3, fun o ho he => ?_⟩
          by_cases e2 : o = k
          · rw [e2] at he
            exact absurd he e
          · exact h4 o (by omega) he
  obtain ⟨b', g1, g2, g3, g4⟩ := key n 0 fu (-1) (by omega) (by unfold fu; omega) (Or.inl ⟨rfl, fun o ho => by omega⟩)
  have hb' : b' = q i := by
    obtain ⟨j, j1, j2, j3⟩ := (hx b' g1).mp g3
    rcases g4 (q i) (hq i him) ((hx (q i) (hq i him)).mpr ⟨i, Nat.le_refl _, him, rfl⟩) with e | e
    · exact e.symm
    · by_cases e2 : j = i
      · rw [← j3, e2]
      · have := hs i j (by omega) j2
        rw [j3] at this
        exact absurd e (fun e => lto_as this e)
  rw [hb'] at g2
  exact g2
theorem room_e {e a f : Nat} (he : e < 2000) (ha : a ≤ 24000) (hf : f ≤ 9999) : nI e ≤ nI f - nI a ↔ ¬ nI f < nI a + nI e := by
  rw [nI_add, nI_ltI (by omega) (by omega), le_toI, Int32.toInt_sub, nI_toInt (by omega), nI_toInt (by omega), nI_toInt (by omega), Int.bmod_eq_of_le (by omega) (by omega)]
  omega
theorem sub_sub32 (x y g : Int32) : x - y - g = x - (y + g) := by
  rw [Int32.sub_eq_add_neg, Int32.sub_eq_add_neg, Int32.sub_eq_add_neg, Int32.neg_add, Int32.add_assoc, Int32.sub_eq_add_neg]
