-- more reports
theorem st_outlet : St_outlet Sim := by
  intro tx ps nm v vn hs ww z ⟨n, h⟩ x y
  have h0 := smn_0 h
  have hz := z0_0 z
  have hp := h0.pl
  have hn := hp.hn
  obtain ⟨t, f, pk, ht, s, c, p, l, hE, hI, hs72, hpk⟩ := h0.now.ex
  have hpp := hI.ordP.pn
  have hll := hI.ordL.pn
  have hcb := hI.cb
  have hzz : va_up z 0 (fun _ => 0) = z0 z := rfl
  unfold qX11_outlet qX10_outlet
  rw [bs_e, hzz]
  rcases outl_e (tx := tx) (ps := ps) (nm := nm) (vn := vn) (hs := hs) (ww := ww) x hp with ⟨a1, a2, o, ho, ex⟩ | ⟨a1, a2⟩
  · subst ex
    rw [a1, a2, bd_s, bd_s, may1 hz, bd2_s, if_pos rfl, if_neg (show ¬ (1 : Int32) = 0 by decide), isIn_0_9, bd_s]
    by_cases hy : 0 ≤ y ∧ y ≤ 9
    · rw [if_pos hy, may1 hz, bd2_s, if_neg (show ¬ (1 : Int32) = 0 by decide)]
      obtain ⟨j, hj, ej⟩ := inl_of (m := 9) rfl hy
      subst ej
      rcases (show j = 0 ∨ j = 1 ∨ j = 2 ∨ j = 3 ∨ j = 4 ∨ j = 5 ∨ j = 6 ∨ j = 7 ∨ j = 8 ∨ j = 9 by omega) with e | e | e | e | e | e | e | e | e | e <;> subst e
      · simp only [show (nI 0 : Int32) = 0 from rfl, ne01, ne02, ne03, ne04, ne05, ne0_6, ne0_7, ne0_8, ne0_9, ne0_10, ne0_11, ne0_12, ne0_13, e_t, i_t, i_f, if_true, if_false]
        rw [gdn (by omega) (by omega), cl (by omega), if_neg (show ¬ (4 : Int32) ≤ 0 by decide), m4, Int32.add_zero, gdn (by omega) (by omega), cl (by omega)]
        exact ⟨0, _, _, z0 z, rfl, rfl, Or.inl ⟨rfl, hz, (hp.steady o ho).symm⟩, n, h0⟩
      · simp only [show (nI 1 : Int32) = 1 from rfl, ne10, ne12, ne13, ne14, ne15, ne1_6, ne1_7, ne1_8, ne1_9, ne1_10, ne1_11, ne1_12, ne1_13, e_t, i_t, i_f, if_true, if_false]
        rw [gdn (by omega) (by omega), cl (by omega), if_neg (show ¬ (4 : Int32) ≤ 1 by decide), m4, p1, gdn (by omega) (by omega), cl (by omega)]
        exact ⟨0, _, _, z0 z, rfl, rfl, Or.inl ⟨rfl, hz, (hp.inrush o ho).symm⟩, n, h0⟩
      · simp only [show (nI 2 : Int32) = 2 from rfl, ne20, ne21, ne23, ne24, ne25, ne2_6, ne2_7, ne2_8, ne2_9, ne2_10, ne2_11, ne2_12, ne2_13, e_t, i_t, i_f, if_true, if_false]
        rw [gdn (by omega) (by omega), cl (by omega), if_neg (show ¬ (4 : Int32) ≤ 2 by decide), m4, p2, gdn (by omega) (by omega), cl (by omega)]
        exact ⟨0, _, _, z0 z, rfl, rfl, Or.inl ⟨rfl, hz, (hp.peak o ho).symm⟩, n, h0⟩
      · simp only [show (nI 3 : Int32) = 3 from rfl, ne30, ne31, ne32, ne34, ne35, ne3_6, ne3_7, ne3_8, ne3_9, ne3_10, ne3_11, ne3_12, ne3_13, e_t, i_t, i_f, if_true, if_false]
        rw [gdn (by omega) (by omega), cl (by omega), if_neg (show ¬ (4 : Int32) ≤ 3 by decide), m4, p3, gdn (by omega) (by omega), cl (by omega)]
        exact ⟨0, _, _, z0 z, rfl, rfl, Or.inl ⟨rfl, hz, (hp.ticks o ho).symm⟩, n, h0⟩
      · simp only [show (nI 4 : Int32) = 4 from rfl, ne40, ne41, ne42, ne43, ne45, ne4_6, ne4_7, ne4_8, ne4_9, ne4_10, ne4_11, ne4_12, ne4_13, e_t, i_t, i_f, if_true, if_false]
        rw [gdn (by omega) (by omega), cl (by omega), if_pos (show (4 : Int32) ≤ 4 by decide), show (4 : Int32) - 4 = 0 from rfl, ag0, bd_s, gdn (by omega) (by omega), cl (by omega)]
        exact ⟨0, _, _, z0 z, rfl, rfl, Or.inl ⟨rfl, hz, hE.prio o ho⟩, n, h0⟩
      · simp only [show (nI 5 : Int32) = 5 from rfl, ne50, ne51, ne52, ne53, ne54, ne5_6, ne5_7, ne5_8, ne5_9, ne5_10, ne5_11, ne5_12, ne5_13, e_t, i_t, i_f, if_true, if_false]
        rw [doesWant_e (by omega), bd_s, if_pos (show (4 : Int32) ≤ 5 by decide), show (5 : Int32) - 4 = 1 from rfl, ag1, bd_s, gdn (by omega) (by omega), cl (by omega), hE.wants o ho]
        by_cases e : ww 0 11 o = 0
        · rw [if_pos e, if_pos rfl]
          exact ⟨0, 0, 0, z0 z, rfl, rfl, Or.inl ⟨rfl, hz, rfl⟩, n, h0⟩
        · rw [if_neg e, if_neg (show ¬ (1 : Int32) = 0 by decide)]
          exact ⟨0, 1, 1, z0 z, rfl, rfl, Or.inl ⟨rfl, hz, rfl⟩, n, h0⟩
      · simp only [show (nI 6 : Int32) = 6 from rfl, ne6_0, ne6_1, ne6_2, ne6_3, ne6_4, ne6_5, ne6_7, ne6_8, ne6_9, ne6_10, ne6_11, ne6_12, ne6_13, e_t, i_t, i_f, if_true, if_false]
        rw [gdn (by omega) (by omega), cl (by omega), if_pos (show (4 : Int32) ≤ 6 by decide), show (6 : Int32) - 4 = 2 from rfl, ag2, bd_s, gdn (by omega) (by omega), cl (by omega)]
        exact ⟨0, _, _, z0 z, rfl, rfl, Or.inl ⟨rfl, hz, hE.how o ho⟩, n, h0⟩
      · simp only [show (nI 7 : Int32) = 7 from rfl, ne7_0, ne7_1, ne7_2, ne7_3, ne7_4, ne7_5, ne7_6, ne7_8, ne7_9, ne7_10, ne7_11, ne7_12, ne7_13, e_t, i_t, i_f, if_true, if_false]
        rw [gdn (by omega) (by omega), cl (by omega), if_pos (show (4 : Int32) ≤ 7 by decide), show (7 : Int32) - 4 = 3 from rfl, ag3, bd_s, gdn (by omega) (by omega), cl (by omega)]
        exact ⟨0, _, _, z0 z, rfl, rfl, Or.inl ⟨rfl, hz, hE.left o ho⟩, n, h0⟩
      · simp only [show (nI 8 : Int32) = 8 from rfl, ne8_0, ne8_1, ne8_2, ne8_3, ne8_4, ne8_5, ne8_6, ne8_7, ne8_9, ne8_10, ne8_11, ne8_12, ne8_13, e_t, i_t, i_f, if_true, if_false]
        rw [gdn (by omega) (by omega), cl (by omega), if_pos (show (4 : Int32) ≤ 8 by decide), show (8 : Int32) - 4 = 4 from rfl, ag4, bd_s, gdn (by omega) (by omega), cl (by omega)]
        exact ⟨0, _, _, z0 z, rfl, rfl, Or.inl ⟨rfl, hz, hE.starts o ho⟩, n, h0⟩
      · simp only [show (nI 9 : Int32) = 9 from rfl, ne9_0, ne9_1, ne9_2, ne9_3, ne9_4, ne9_5, ne9_6, ne9_7, ne9_8, ne9_10, ne9_11, ne9_12, ne9_13, e_t, i_t, i_f, if_true, if_false]
        rw [gdn (by omega) (by omega), cl (by omega), if_pos (show (4 : Int32) ≤ 9 by decide), show (9 : Int32) - 4 = 5 from rfl, ag5, bd_s, gdn (by omega) (by omega), cl (by omega)]
        exact ⟨0, _, _, z0 z, rfl, rfl, Or.inl ⟨rfl, hz, hE.ran o ho⟩, n, h0⟩
    · rw [if_neg hy, may0 hz (by decide), bd2_s, if_pos rfl]
      rw [if_neg (show ¬ y = 0 from fun e => hy (by rw [e]; decide))]
      rw [if_neg (show ¬ y = 1 from fun e => hy (by rw [e]; decide))]
      rw [if_neg (show ¬ y = 2 from fun e => hy (by rw [e]; decide))]
      rw [if_neg (show ¬ y = 3 from fun e => hy (by rw [e]; decide))]
      rw [if_neg (show ¬ y = 4 from fun e => hy (by rw [e]; decide))]
      rw [if_neg (show ¬ y = 5 from fun e => hy (by rw [e]; decide))]
      rw [if_neg (show ¬ y = 6 from fun e => hy (by rw [e]; decide))]
      rw [if_neg (show ¬ y = 7 from fun e => hy (by rw [e]; decide))]
      rw [if_neg (show ¬ y = 8 from fun e => hy (by rw [e]; decide))]
      rw [if_neg (show ¬ y = 9 from fun e => hy (by rw [e]; decide))]
      exact ⟨3, 0, 0, va_up (z0 z) 0 (fun _ => 2), rfl, rfl, Or.inr (Or.inr ⟨rfl, by rw [va_s]⟩), n, smn_e h0 _⟩
  · rw [a1, a2, bd_s, bd_s, may0 hz (by decide), bd2_s, if_neg (show ¬ (2 : Nat) = 0 by decide), if_pos rfl]
    exact ⟨2, 0, 0, va_up (z0 z) 0 (fun _ => 1), rfl, rfl, Or.inr (Or.inl ⟨rfl, by rw [va_s]⟩), n, smn_e h0 _⟩
theorem st_known : St_known Sim := by
  intro tx ps nm v vn hs ww z ⟨n, h⟩ x y
  have h0 := smn_0 h
  have hz := z0_0 z
  have hp := h0.pl
  have hn := hp.hn
  obtain ⟨t, f, pk, ht, s, c, p, l, hE, hI, hs72, hpk⟩ := h0.now.ex
  have hpp := hI.ordP.pn
  have hll := hI.ordL.pn
  have hcb := hI.cb
  have hzz : va_up z 0 (fun _ => 0) = z0 z := rfl
  unfold qX11_known qX10_known
  rw [bs_e, hzz]
  rcases outl_e (tx := tx) (ps := ps) (nm := nm) (vn := vn) (hs := hs) (ww := ww) x hp with ⟨a1, a2, o, ho, ex⟩ | ⟨a1, a2⟩
  · subst ex
    rw [a1, a2, bd_s, bd_s, may1 hz, bd2_s, if_pos rfl, if_neg (show ¬ (1 : Int32) = 0 by decide), isIn_0_5, bd_s]
    by_cases hy : 0 ≤ y ∧ y ≤ 5
    · rw [if_pos hy, may1 hz, bd2_s, if_neg (show ¬ (1 : Int32) = 0 by decide)]
      obtain ⟨j, hj, ej⟩ := inl_of (m := 5) rfl hy
      subst ej
      rcases (show j = 0 ∨ j = 1 ∨ j = 2 ∨ j = 3 ∨ j = 4 ∨ j = 5 by omega) with e | e | e | e | e | e <;> subst e
      · simp only [show (nI 0 : Int32) = 0 from rfl, ne01, ne02, ne03, ne04, ne05, ne0_6, ne0_7, ne0_8, ne0_9, ne0_10, ne0_11, ne0_12, ne0_13, e_t, i_t, i_f, if_true, if_false]
        rw [gdn (by omega) (by omega), cl (by omega), ag9, bd_s, gdn (by omega) (by omega), cl (by omega)]
        exact ⟨0, _, _, z0 z, rfl, rfl, Or.inl ⟨rfl, hz, hE.mark o ho⟩, n, h0⟩
      · simp only [show (nI 1 : Int32) = 1 from rfl, ne10, ne12, ne13, ne14, ne15, ne1_6, ne1_7, ne1_8, ne1_9, ne1_10, ne1_11, ne1_12, ne1_13, e_t, i_t, i_f, if_true, if_false]
        rw [gdn (by omega) (by omega), cl (by omega), ag10, bd_s, gdn (by omega) (by omega), cl (by omega)]
        exact ⟨0, _, _, z0 z, rfl, rfl, Or.inl ⟨rfl, hz, hE.time o ho⟩, n, h0⟩
      · simp only [show (nI 2 : Int32) = 2 from rfl, ne20, ne21, ne23, ne24, ne25, ne2_6, ne2_7, ne2_8, ne2_9, ne2_10, ne2_11, ne2_12, ne2_13, e_t, i_t, i_f, if_true, if_false]
        rw [gdn (by omega) (by omega), cl (by omega), expected_e hp hE ho, bd_s]
        exact ⟨0, _, _, z0 z, rfl, rfl, Or.inl ⟨rfl, hz, rfl⟩, n, h0⟩
      · simp only [show (nI 3 : Int32) = 3 from rfl, ne30, ne31, ne32, ne34, ne35, ne3_6, ne3_7, ne3_8, ne3_9, ne3_10, ne3_11, ne3_12, ne3_13, e_t, i_t, i_f, if_true, if_false]
        rw [reservedFor_e hp ho, bd_s, reserved_e hp hE ho, bd_s]
        exact ⟨0, _, _, z0 z, rfl, rfl, Or.inl ⟨rfl, hz, rfl⟩, n, h0⟩
      · simp only [show (nI 4 : Int32) = 4 from rfl, ne40, ne41, ne42, ne43, ne45, ne4_6, ne4_7, ne4_8, ne4_9, ne4_10, ne4_11, ne4_12, ne4_13, e_t, i_t, i_f, if_true, if_false]
        rw [gdn (by omega) (by omega), cl (by omega), placeOf_e hE hI ho, bd_s]
        exact ⟨0, _, _, z0 z, rfl, rfl, Or.inl ⟨rfl, hz, rfl⟩, n, h0⟩
      · simp only [show (nI 5 : Int32) = 5 from rfl, ne50, ne51, ne52, ne53, ne54, ne5_6, ne5_7, ne5_8, ne5_9, ne5_10, ne5_11, ne5_12, ne5_13, e_t, i_t, i_f, if_true, if_false]
        rw [isIn_e _ (by omega), bd_s, ag11, bd_s, gdn (by omega) (by omega), cl (by omega), hE.known o ho]
        rcases b01_c (ww 0 21 0) o with e | e
        · rw [e, if_pos rfl]
          exact ⟨0, 0, 0, z0 z, rfl, rfl, Or.inl ⟨rfl, hz, rfl⟩, n, h0⟩
        · rw [e, if_neg (show ¬ (1 : Int32) = 0 by decide)]
          exact ⟨0, 1, 1, z0 z, rfl, rfl, Or.inl ⟨rfl, hz, rfl⟩, n, h0⟩
    · rw [if_neg hy, may0 hz (by decide), bd2_s, if_pos rfl]
      rw [if_neg (show ¬ y = 0 from fun e => hy (by rw [e]; decide))]
      rw [if_neg (show ¬ y = 1 from fun e => hy (by rw [e]; decide))]
      rw [if_neg (show ¬ y = 2 from fun e => hy (by rw [e]; decide))]
      rw [if_neg (show ¬ y = 3 from fun e => hy (by rw [e]; decide))]
      rw [if_neg (show ¬ y = 4 from fun e => hy (by rw [e]; decide))]
      rw [if_neg (show ¬ y = 5 from fun e => hy (by rw [e]; decide))]
      exact ⟨3, 0, 0, va_up (z0 z) 0 (fun _ => 2), rfl, rfl, Or.inr (Or.inr ⟨rfl, by rw [va_s]⟩), n, smn_e h0 _⟩
  · rw [a1, a2, bd_s, bd_s, may0 hz (by decide), bd2_s, if_neg (show ¬ (2 : Nat) = 0 by decide), if_pos rfl]
    exact ⟨2, 0, 0, va_up (z0 z) 0 (fun _ => 1), rfl, rfl, Or.inr (Or.inl ⟨rfl, by rw [va_s]⟩), n, smn_e h0 _⟩
theorem shl_b {x : Int32} {k : Nat} (hx : x = 0 ∨ x = 1) : x <<< (nI k &&& 31) = if x = 1 then (1 <<< (nI k &&& 31)) else 0 := by
  rcases hx with e | e
  · subst e
    rw [if_neg (show ¬ (0 : Int32) = 1 by decide)]
    exact Int32.zero_shiftLeft
  · subst e
    rw [if_pos rfl]
theorem needs_L {v : Nat → Nat → Int32} {z : Nat → Nat → Int32} {n : Nat} {o : Nat} (hp : Pl v z n) (ho : o < n) (y : Int32) (K : Int32 → Option (Int32 × (Nat → Nat → Int32))) : qX11_needs_L25 z (nI o) y K fu 0 0 = K (bset n (fun k => bt (v 14 k) o)) := by
  have hn := hp.hn
  unfold bset
  refine lp (L := fun g i s => qX11_needs_L25 z (nI o) y K g s i) (N := n) (K := K) (fun _ _ => True) ?_ ?_ n fu 0 0 (by omega) (by unfold fu; omega) trivial
  · intro g k s hk _
    refine ⟨?_, trivial⟩
    show qX11_needs_L25 z (nI o) y K (g + 1) s (nI k) = qX11_needs_L25 z (nI o) y K g _ (nI (k + 1))
    rw [qX11_needs_L25, hp.z1, if_neg (nle hk (by omega)), gdn (by omega) (by omega), cl (by omega), shr1 _ (by omega), hp.needed k hk, shl_b (b01_c _ _), p1]
    cases hb : bt (v 14 k) o
    · rw [b01_0.mpr hb, if_neg (show ¬ (0 : Int32) = 1 by decide), Int32.or_zero]
      dsimp only
      rw [if_neg (show ¬ bt (v 14 k) o = true by rw [hb]; exact Bool.false_ne_true)]
    · rw [b01_1.mpr hb, if_pos rfl]
      dsimp only
      rw [if_pos hb]
  · intro g s _
    show qX11_needs_L25 z (nI o) y K (g + 1) s (nI n) = _
    rw [qX11_needs_L25, hp.z1, if_pos (Int32.le_refl _)]
theorem neededBy_e {v : Nat → Nat → Int32} {z : Nat → Nat → Int32} {n : Nat} {o : Nat} (hp : Pl v z n) (ho : o < n) : qX5_neededBy v (nI o) = some (bset n (fun k => bt (v 14 k) o)) := by
  have hn := hp.hn
  unfold qX5_neededBy bset
  refine lp (L := fun g i s => qX5_neededBy_L4 v (nI o) (fun (x2_4 : Int32) => some x2_4) g s i) (N := n) (K := fun s => some s) (fun _ _ => True) ?_ ?_ n fu 0 0 (by omega) (by unfold fu; omega) trivial
  · intro g k s hk _
    refine ⟨?_, trivial⟩
    show qX5_neededBy_L4 v (nI o) _ (g + 1) s (nI k) = qX5_neededBy_L4 v (nI o) _ g _ (nI (k + 1))
    rw [qX5_neededBy_L4, hp.v0, if_neg (nle hk (by omega)), gdn (by omega) (by omega), cl (by omega), isIn_e _ (by omega), bd_s, jn_e, p1]
    cases hb : bt (v 14 k) o
    · rw [b01_0.mpr hb, if_pos rfl]
      dsimp only
      rw [if_neg (show ¬ bt (v 14 k) o = true by rw [hb]; exact Bool.false_ne_true)]
    · rw [b01_1.mpr hb, if_neg (show ¬ (1 : Int32) = 0 by decide)]
      dsimp only
      rw [if_pos hb]
  · intro g s _
    show qX5_neededBy_L4 v (nI o) _ (g + 1) s (nI n) = _
    rw [qX5_neededBy_L4, hp.v0, if_pos (Int32.le_refl _)]
theorem st_needs : St_needs Sim := by
  intro tx ps nm v vn hs ww z ⟨n, h⟩ x y hy
  have h0 := smn_0 h
  have hz := z0_0 z
  have hp := h0.pl
  have hn := hp.hn
  obtain ⟨t, f, pk, ht, s, c, p, l, hE, hI, hs72, hpk⟩ := h0.now.ex
  have hpp := hI.ordP.pn
  have hll := hI.ordL.pn
  have hcb := hI.cb
  have hzz : va_up z 0 (fun _ => 0) = z0 z := rfl
  unfold qX11_needs qX10_needs
  rw [bs_e, hzz]
  rcases outl_e (tx := tx) (ps := ps) (nm := nm) (vn := vn) (hs := hs) (ww := ww) x hp with ⟨a1, a2, o, ho, ex⟩ | ⟨a1, a2⟩
  · subst ex
    rw [a1, a2, bd_s, bd_s, may1 hz, bd2_s, if_pos rfl, if_neg (show ¬ (1 : Int32) = 0 by decide), needs_L hp ho, neededBy_e hp ho, bd_s]
    by_cases e : y = 0
    · rw [if_pos e, if_pos e, gdn (by omega) (by omega), gdn (by omega) (by omega), cl (by omega)]
      exact ⟨0, _, _, z0 z, rfl, rfl, Or.inl ⟨rfl, hz, (hp.needed o ho).symm⟩, n, h0⟩
    · rw [if_neg e, if_neg e]
      exact ⟨0, _, _, z0 z, rfl, rfl, Or.inl ⟨rfl, hz, rfl⟩, n, h0⟩
  · rw [a1, a2, bd_s, bd_s, may0 hz (by decide), bd2_s, if_neg (show ¬ (2 : Nat) = 0 by decide), if_pos rfl]
    exact ⟨2, 0, 0, va_up (z0 z) 0 (fun _ => 1), rfl, rfl, Or.inr ⟨rfl, by rw [va_s]⟩, n, smn_e h0 _⟩
theorem st_outletsWith : St_outletsWith Sim := by
  intro tx ps nm v vn hs ww z ⟨n, h⟩ x y hy
  have h0 := smn_0 h
  have hz := z0_0 z
  have hp := h0.pl
  have hn := hp.hn
  obtain ⟨t, f, pk, ht, s, c, p, l, hE, hI, hs72, hpk⟩ := h0.now.ex
  have hpp := hI.ordP.pn
  have hll := hI.ordL.pn
  have hcb := hI.cb
  have hzz : va_up z 0 (fun _ => 0) = z0 z := rfl
  unfold qX11_outletsWith qX10_outletsWith
  rw [bs_e, hzz, isIn_0_3, bd_s, range_e, bd_s]
  by_cases hx : 0 ≤ x ∧ x ≤ 3
  · rw [if_pos hx, if_pos hx, may1 hz, bd2_s, if_pos rfl, if_neg (show ¬ (1 : Int32) = 0 by decide)]
    rw [jn_e]
    by_cases e : y = 0
    · rw [if_pos e, if_pos e, inState_e hp, bd_s]
      dsimp only
      rw [withHow_e hp hE, bd_s]
      exact ⟨0, _, _, z0 z, rfl, rfl, Or.inl ⟨rfl, hz, rfl⟩, n, h0⟩
    · rw [if_neg e, if_neg e, markedWith_e hp, bd_s]
      dsimp only
      rw [withMark_e hp hE, bd_s]
      exact ⟨0, _, _, z0 z, rfl, rfl, Or.inl ⟨rfl, hz, rfl⟩, n, h0⟩
  · rw [if_neg hx, if_neg hx, may0 hz (by decide), bd2_s, if_neg (show ¬ (3 : Nat) = 0 by decide), if_pos rfl]
    exact ⟨3, 0, 0, va_up (z0 z) 0 (fun _ => 1), rfl, rfl, Or.inr ⟨rfl, by rw [va_s]⟩, n, smn_e h0 _⟩
theorem st_traffic : St_traffic Sim := by
  intro tx ps nm v vn hs ww z ⟨n, h⟩ x y hy
  have h0 := smn_0 h
  have hz := z0_0 z
  have hp := h0.pl
  have hn := hp.hn
  obtain ⟨t, f, pk, ht, s, c, p, l, hE, hI, hs72, hpk⟩ := h0.now.ex
  have hpp := hI.ordP.pn
  have hll := hI.ordL.pn
  have hcb := hI.cb
  have hzz : va_up z 0 (fun _ => 0) = z0 z := rfl
  unfold qX11_traffic qX10_traffic
  rw [bs_e, hzz, isIn_0_5, bd_s, range_e, bd_s]
  by_cases hx : 0 ≤ x ∧ x ≤ 5
  · rw [if_pos hx, if_pos hx, may1 hz, bd2_s, if_pos rfl, if_neg (show ¬ (1 : Int32) = 0 by decide)]
    rw [jn_e]
    obtain ⟨j, hj, ej⟩ := inl_of (m := 5) rfl hx
    subst ej
    by_cases e : y = 0
    · rw [if_pos e, if_pos e, gdn (by omega) (by omega), cl (by omega)]
      dsimp only
      rw [p15, gdn (by omega) (by omega), cl (by omega)]
      exact ⟨0, _, _, z0 z, rfl, rfl, Or.inl ⟨rfl, hz, hE.sby j (by omega)⟩, n, h0⟩
    · rw [if_neg e, if_neg e, gdn (by omega) (by omega), cl (by omega)]
      dsimp only
      rw [p21, gdn (by omega) (by omega), cl (by omega)]
      exact ⟨0, _, _, z0 z, rfl, rfl, Or.inl ⟨rfl, hz, hE.lby j (by omega)⟩, n, h0⟩
  · rw [if_neg hx, if_neg hx, may0 hz (by decide), bd2_s, if_neg (show ¬ (3 : Nat) = 0 by decide), if_pos rfl]
    exact ⟨3, 0, 0, va_up (z0 z) 0 (fun _ => 1), rfl, rfl, Or.inr ⟨rfl, by rw [va_s]⟩, n, smn_e h0 _⟩
theorem st_rights : St_rights Sim := by
  intro tx ps nm v vn hs ww z ⟨n, h⟩
  have h0 := smn_0 h
  have hz := z0_0 z
  have hp := h0.pl
  have hn := hp.hn
  obtain ⟨t, f, pk, ht, s, c, p, l, hE, hI, hs72, hpk⟩ := h0.now.ex
  have hpp := hI.ordP.pn
  have hll := hI.ordL.pn
  have hcb := hI.cb
  have hzz : va_up z 0 (fun _ => 0) = z0 z := rfl
  unfold qX11_rights qX10_rights
  rw [bs_e, hzz, entitled_e hp hE, rightsOf_e hp hE, bd_s, bd_s]
  exact ⟨_, _, z0 z, rfl, rfl, rfl, n, h0⟩
theorem st_load_ : St_load_ Sim := by
  intro tx ps nm v vn hs ww z ⟨n, h⟩ x
  have h0 := smn_0 h
  have hz := z0_0 z
  have hp := h0.pl
  have hn := hp.hn
  obtain ⟨t, f, pk, ht, s, c, p, l, hE, hI, hs72, hpk⟩ := h0.now.ex
  have hpp := hI.ordP.pn
  have hll := hI.ordL.pn
  have hcb := hI.cb
  have hzz : va_up z 0 (fun _ => 0) = z0 z := rfl
  unfold qX11_load_ qX10_load_
  rw [bs_e, hzz, isIn_0_2, bd_s]
  by_cases hx : 0 ≤ x ∧ x ≤ 2
  · rw [if_pos hx, may1 hz, bd2_s, if_neg (show ¬ (1 : Int32) = 0 by decide)]
    obtain ⟨j, hj, ej⟩ := inl_of (m := 2) rfl hx
    subst ej
    rcases (show j = 0 ∨ j = 1 ∨ j = 2 by omega) with e | e | e <;> subst e
    · simp only [show (nI 0 : Int32) = 0 from rfl, ne01, ne02, ne03, ne04, ne05, ne0_6, ne0_7, ne0_8, ne0_9, ne0_10, ne0_11, ne0_12, ne0_13, e_t, i_t, i_f, if_true, if_false]
      rw [drawOfAll_e hp, drawn_e hp hE, bd_s, bd_s]
      exact ⟨0, _, _, z0 z, rfl, rfl, Or.inl ⟨rfl, hz, rfl⟩, n, h0⟩
    · simp only [show (nI 1 : Int32) = 1 from rfl, ne10, ne12, ne13, ne14, ne15, ne1_6, ne1_7, ne1_8, ne1_9, ne1_10, ne1_11, ne1_12, ne1_13, e_t, i_t, i_f, if_true, if_false]
      exact ⟨0, _, _, z0 z, rfl, rfl, Or.inl ⟨rfl, hz, hE.peak.trans hE.peakr.symm⟩, n, h0⟩
    · simp only [show (nI 2 : Int32) = 2 from rfl, ne20, ne21, ne23, ne24, ne25, ne2_6, ne2_7, ne2_8, ne2_9, ne2_10, ne2_11, ne2_12, ne2_13, e_t, i_t, i_f, if_true, if_false]
      rw [reservedForAll_e hp, reservedAll_e hp hE, bd_s, bd_s]
      exact ⟨0, _, _, z0 z, rfl, rfl, Or.inl ⟨rfl, hz, rfl⟩, n, h0⟩
  · rw [if_neg hx, may0 hz (by decide), bd2_s, if_pos rfl]
    rw [if_neg (show ¬ x = 0 from fun e => hx (by rw [e]; decide)), if_neg (show ¬ x = 1 from fun e => hx (by rw [e]; decide)), if_neg (show ¬ x = 2 from fun e => hx (by rw [e]; decide))]
    exact ⟨3, 0, 0, va_up (z0 z) 0 (fun _ => 1), rfl, rfl, Or.inr ⟨rfl, by rw [va_s]⟩, n, smn_e h0 _⟩
theorem below_e (x : Int32) {m : Nat} (hm : m < 100000) : qX11_isIn x.toInt64 0 ((nI m - 1).toInt64) = some (if ¬ x < 0 ∧ x < nI m then 1 else 0) := by
  have h1 : (1 : Int32).toInt = 1 := rfl
  have hle : x ≤ nI m - 1 ↔ x < nI m := by
    rw [Int32.le_iff_toInt_le, Int32.lt_iff_toInt_lt, Int32.toInt_sub, nI_toInt (by omega), Int.bmod_eq_of_le (by omega) (by omega)]
    omega
  rw [show (0 : Int64) = (0 : Int32).toInt64 from rfl, isInR]
  by_cases e1 : x < 0
  · rw [if_neg (show ¬ (0 ≤ x ∧ x ≤ nI m - 1) from fun g => Int32.not_lt.mpr g.1 e1), if_neg (show ¬ (¬ x < 0 ∧ x < nI m) from fun g => g.1 e1)]
  · by_cases e2 : x < nI m
    · rw [if_pos (show 0 ≤ x ∧ x ≤ nI m - 1 from ⟨Int32.not_lt.mp e1, hle.mpr e2⟩), if_pos (show ¬ x < 0 ∧ x < nI m from ⟨e1, e2⟩)]
    · rw [if_neg (show ¬ (0 ≤ x ∧ x ≤ nI m - 1) from fun g => e2 (hle.mp g.2)), if_neg (show ¬ (¬ x < 0 ∧ x < nI m) from fun g => e2 g.2)]
theorem st_learned : St_learned Sim := by
  intro tx ps nm v vn hs ww z ⟨n, h⟩ x
  have h0 := smn_0 h
  have hz := z0_0 z
  have hp := h0.pl
  have hn := hp.hn
  obtain ⟨t, f, pk, ht, s, c, p, l, hE, hI, hs72, hpk⟩ := h0.now.ex
  have hpp := hI.ordP.pn
  have hll := hI.ordL.pn
  have hcb := hI.cb
  have hzz : va_up z 0 (fun _ => 0) = z0 z := rfl
  unfold qX11_learned qX10_learned
  rw [bs_e, hzz, hE.lmr, below_e x (by omega), bd_s, hE.lm, jn_e]
  by_cases e1 : x < 0
  · rw [if_pos e1, if_neg (show ¬ (¬ x < 0 ∧ x < nI l) from fun g => g.1 e1), may0 hz (by decide), bd2_s, if_pos rfl]
    exact ⟨2, 0, 0, va_up (z0 z) 0 (fun _ => 1), rfl, rfl, Or.inr ⟨rfl, by rw [va_s]⟩, n, smn_e h0 _⟩
  · rw [if_neg e1]
    by_cases e2 : x < nI l
    · rw [if_pos e2, if_pos (show ¬ x < 0 ∧ x < nI l from ⟨e1, e2⟩), may1 hz, bd2_s, if_neg (show ¬ (1 : Int32) = 0 by decide)]
      obtain ⟨j, g1, g2⟩ := nI_of e1
      rw [g2] at e2 ⊢
      have hj := (nI_ltI (by omega) (by omega)).mp e2
      rw [gdn (by omega) (by omega), cl (by omega), p39, gdn (by omega) (by omega), cl (by omega)]
      exact ⟨0, _, _, z0 z, rfl, rfl, Or.inl ⟨rfl, hz, hE.lear j hj⟩, n, h0⟩
    · rw [if_neg e2, if_neg (show ¬ (¬ x < 0 ∧ x < nI l) from fun g => e2 g.2), may0 hz (by decide), bd2_s, if_pos rfl]
      exact ⟨2, 0, 0, va_up (z0 z) 0 (fun _ => 1), rfl, rfl, Or.inr ⟨rfl, by rw [va_s]⟩, n, smn_e h0 _⟩
theorem st_message : St_message Sim := by
  intro tx ps nm v vn hs ww z ⟨n, h⟩ x y
  have h0 := smn_0 h
  have hz := z0_0 z
  have hp := h0.pl
  have hn := hp.hn
  obtain ⟨t, f, pk, ht, s, c, p, l, hE, hI, hs72, hpk⟩ := h0.now.ex
  have hpp := hI.ordP.pn
  have hll := hI.ordL.pn
  have hcb := hI.cb
  have hzz : va_up z 0 (fun _ => 0) = z0 z := rfl
  unfold qX11_message qX10_message
  rw [bs_e, hzz, hE.waitr, below_e x (by omega), bd_s, hE.wait, jn_e]
  by_cases e1 : x < 0
  · rw [if_pos e1, if_neg (show ¬ (¬ x < 0 ∧ x < nI c) from fun g => g.1 e1), may0 hz (by decide), bd2_s, if_pos rfl]
    exact ⟨2, 0, 0, va_up (z0 z) 0 (fun _ => 1), rfl, rfl, Or.inr (Or.inl ⟨rfl, by rw [va_s]⟩), n, smn_e h0 _⟩
  · rw [if_neg e1]
    by_cases e2 : x < nI c
    · rw [if_pos e2, if_pos (show ¬ x < 0 ∧ x < nI c from ⟨e1, e2⟩), may1 hz, bd2_s, if_neg (show ¬ (1 : Int32) = 0 by decide), isIn_0_2, bd_s]
      obtain ⟨j, g1, g2⟩ := nI_of e1
      rw [g2] at e2 ⊢
      have hj := (nI_ltI (by omega) (by omega)).mp e2
      by_cases hy : 0 ≤ y ∧ y ≤ 2
      · rw [if_pos hy, may1 hz, bd2_s, if_neg (show ¬ (1 : Int32) = 0 by decide)]
        obtain ⟨i, hi, ei⟩ := inl_of (m := 2) rfl hy
        subst ei
        rw [m3, p195, nI_add, gdn (by omega) (by omega), cl (by omega)]
        obtain ⟨q1, q2, q3⟩ := hE.msg j hj
        rcases (show i = 0 ∨ i = 1 ∨ i = 2 by omega) with e | e | e <;> subst e
        · simp only [show (nI 0 : Int32) = 0 from rfl, ne01, ne02, ne03, ne04, ne05, ne0_6, ne0_7, ne0_8, ne0_9, ne0_10, ne0_11, ne0_12, ne0_13, e_t, i_t, i_f, if_true, if_false]
          rw [gdn (by omega) (by omega), cl (by omega)]
          exact ⟨0, _, _, z0 z, rfl, rfl, Or.inl ⟨rfl, hz, q1⟩, n, h0⟩
        · simp only [show (nI 1 : Int32) = 1 from rfl, ne10, ne12, ne13, ne14, ne15, ne1_6, ne1_7, ne1_8, ne1_9, ne1_10, ne1_11, ne1_12, ne1_13, e_t, i_t, i_f, if_true, if_false]
          rw [gdn (by omega) (by omega), cl (by omega), gdn (by omega) (by omega)]
          exact ⟨0, _, _, z0 z, rfl, rfl, Or.inl ⟨rfl, hz, q2⟩, n, h0⟩
        · simp only [show (nI 2 : Int32) = 2 from rfl, ne20, ne21, ne23, ne24, ne25, ne2_6, ne2_7, ne2_8, ne2_9, ne2_10, ne2_11, ne2_12, ne2_13, e_t, i_t, i_f, if_true, if_false]
          rw [gdn (by omega) (by omega), cl (by omega), gdn (by omega) (by omega)]
          exact ⟨0, _, _, z0 z, rfl, rfl, Or.inl ⟨rfl, hz, q3⟩, n, h0⟩
      · rw [if_neg hy, may0 hz (by decide), bd2_s, if_pos rfl]
        rw [if_neg (show ¬ y = 0 from fun e => hy (by rw [e]; decide)), if_neg (show ¬ y = 1 from fun e => hy (by rw [e]; decide)), if_neg (show ¬ y = 2 from fun e => hy (by rw [e]; decide))]
        exact ⟨3, 0, 0, va_up (z0 z) 0 (fun _ => 2), rfl, rfl, Or.inr (Or.inr ⟨rfl, by rw [va_s]⟩), n, smn_e h0 _⟩
    · rw [if_neg e2, if_neg (show ¬ (¬ x < 0 ∧ x < nI c) from fun g => e2 g.2), may0 hz (by decide), bd2_s, if_pos rfl]
      exact ⟨2, 0, 0, va_up (z0 z) 0 (fun _ => 1), rfl, rfl, Or.inr (Or.inl ⟨rfl, by rw [va_s]⟩), n, smn_e h0 _⟩
