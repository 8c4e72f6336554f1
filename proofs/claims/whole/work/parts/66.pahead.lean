-- grants told, why, and what will be
theorem smn_w {v : Nat → Nat → Int32} {z : Nat → Nat → Int32} {n : Nat} {tx ps hs : Nat → Nat → Int32} {vn : Nat → Int64} {ww ww2 : Nat → Nat → Nat → Int32} (h : Smn n tx ps v vn hs ww z) (hw : ∀ i, 2 ≤ i → ww2 i = ww i) (hN : Now v n (ww2 0) (z 10)) : Smn n tx ps v vn hs ww2 z := by
  obtain ⟨h1, h2, h3, h4, h5, h6, h7⟩ := h
  refine ⟨h1, hN, ⟨?_, h3.flag, ?_⟩, h4, h5, h6, h7⟩
  · obtain ⟨o, c, a1, a2, a3, a4, a5, a6⟩ := h3.ring
    refine ⟨o, c, a1, a2, a3, a4, a5, fun k hk => ?_⟩
    rw [hw _ (by omega)]
    exact a6 k hk
  · intro k hk hb
    rw [hw _ (by omega)]
    exact h3.slot k hk hb
theorem upd_id (z : Nat → Nat → Int32) (i : Nat) : va_up z i (z i) = z := by
  funext j
  rw [va_u]
  split
  · rename_i e
    rw [e]
  · rfl
theorem st_grants : St_grants Sim := by
  intro tx ps nm v vn hs ww z ⟨n, h⟩
  have h0 := smn_0 h
  have hz := z0_0 z
  have hp := h0.pl
  have hn := hp.hn
  obtain ⟨t, f, pk, ht, hS⟩ := h0.now.ex
  have hzz : va_up z 0 (fun _ => 0) = z0 z := rfl
  obtain ⟨s, c, p, l, hE, hI, hs72, hpk⟩ := hS
  have hpp := hI.ordP.pn
  have hll := hI.ordL.pn
  obtain ⟨wq, m, q, e1, e2, e3, e4, e5⟩ := grantable_e hp hI hE
  unfold qX11_grants qX10_grants
  rw [bs_e, hzz, e1, bd2_s, grantsOf0_e hp hE hI e5, bd2_s, bs_e, bs_e, upd_id]
  refine ⟨_, _, _, z0 z, rfl, rfl, rfl, n, smn_w h0 (fun i hi => by rw [va_n (by omega)]) ⟨t, f, pk, ht, s, c, p, l, ?_, ?_, hs72, hpk⟩⟩
  · rw [va_s]
    exact qu_ev hE e2
  · rw [va_s]
    exact qu_iv hI e2
theorem st_why : St_why Sim := by
  intro tx ps nm v vn hs ww z ⟨n, h⟩ x
  have h0 := smn_0 h
  have hz := z0_0 z
  have hp := h0.pl
  have hn := hp.hn
  obtain ⟨t, f, pk, ht, hS⟩ := h0.now.ex
  have hzz : va_up z 0 (fun _ => 0) = z0 z := rfl
  obtain ⟨s, c, p, l, hE, hI, hs72, hpk⟩ := hS
  have hpp := hI.ordP.pn
  have hll := hI.ordL.pn
  unfold qX11_why qX10_why
  rw [bs_e, hzz]
  rcases outl_e (tx := tx) (ps := ps) (nm := nm) (vn := vn) (hs := hs) (ww := ww) x hp with ⟨a1, a2, o, ho, ex⟩ | ⟨a1, a2⟩
  · subst ex
    rw [a1, a2, bd_s, bd_s, may1 hz, bd2_s, if_pos rfl, if_neg (show ¬ (1 : Int32) = 0 by decide)]
    have hW : qX9_isDark v (ww 0) = some (if (ww 0) 1 0 ≤ (ww 0) 0 0 then 0 else 1) := by
      unfold qX9_isDark
      split <;> rfl
    unfold qX9_reasonAgainst
    rw [doesWant_e (by omega), bd_s, ag1, bd_s, gdn (i := 51 + 12 * o + 1) (by omega) (by omega), cl (i := 51 + 12 * o + 1) (by omega), hE.wants o ho]
    have done : ∀ y : Int32, ∃ (e : Nat) (r : Int32) (wwR : Nat → Nat → Nat → Int32) (b : Int32) (zR : Nat → Nat → Int32), (bd2 (some (y, ww 0)) fun r_2 w_3 => (bs (va_up ww 0 w_3) fun ww_4 => some ((0 : Nat), r_2, ww_4))) = some (e, r, wwR) ∧ some (y, z0 z) = some (b, zR) ∧ ((e = 0 ∧ zR 0 0 = 0 ∧ r = b) ∨ (e = 2 ∧ zR 0 0 = 1)) ∧ Sim tx ps nm v vn hs wwR zR := by
      intro y
      refine ⟨0, y, ww, y, z0 z, ?_, rfl, Or.inl ⟨rfl, hz, rfl⟩, n, h0⟩
      rw [bd2_s, bs_e]
      have : va_up ww 0 (ww 0) = ww := by
        funext j
        rw [va_u]
        split
        · rename_i e
          rw [e]
        · rfl
      rw [this]
    by_cases c1 : ww 0 11 o = 0
    · rw [if_pos c1, if_pos rfl, if_pos rfl]
      exact done 1
    · rw [if_neg c1, if_neg (show ¬ (1 : Int32) = 0 by decide), if_neg (show ¬ (1 : Int32) = 0 by decide), gdn (i := o) (by omega) (by omega), cl (i := o) (by omega), ag2, bd_s, gdn (i := 51 + 12 * o + 2) (by omega) (by omega), cl (i := 51 + 12 * o + 2) (by omega), ← hE.how o ho]
      by_cases c2 : ww 0 11 o = 1
      · rw [if_pos c2, if_pos c2, isDark_e (v := v) hE, hW, bd_s, bd_s]
        by_cases c3 : (ww 0) 1 0 ≤ (ww 0) 0 0
        · rw [if_pos c3, if_pos rfl, if_pos rfl, gdn (i := o) (by omega) (by omega), ag9, bd_s, gdn (i := 51 + 12 * o + 9) (by omega) (by omega), cl (i := 51 + 12 * o + 9) (by omega), ← hE.mark o ho]
          by_cases c4 : ww 0 18 o = 1
          · have hl : qX11_lacks (z0 z) (z0 z 10) (nI o) = some (if v 14 o &&& (lk3 (ww 0) n ^^^ (-1)) = 0 then 0 else 1) := by
              unfold qX11_lacks
              rw [gdn (by omega) (by omega), withMark_e hp hE, bd_s, cl (by omega), hp.needed _ ho]
              show (if v 14 o &&& (lk3 (ww 0) n ^^^ (-1)) = 0 then some 0 else some 1) = _
              split <;> rfl
            rw [if_pos c4, if_pos c4, gdn (i := o) (by omega) (by omega), markedWith_e hp, bd_s, hl, bd_s]
            show ∃ (e : Nat) (r : Int32) (wwR : Nat → Nat → Nat → Int32) (b : Int32) (zR : Nat → Nat → Int32), (bd2 (if v 14 o &&& (lk3 (ww 0) n ^^^ (-1)) = 0 then _ else _) _) = _ ∧ _
            by_cases c5 : v 14 o &&& (lk3 (ww 0) n ^^^ (-1)) = 0
            · rw [if_pos c5, if_pos c5, if_pos rfl, gdn (i := o) (by omega) (by omega), expected_e hp hE ho, bd_s, hE.fuser, hE.fuse]
              by_cases c6 : ww 0 20 o ≤ nI f
              · obtain ⟨wq, m, q, e1, e2, e3, e4, e5⟩ := grantable_e hp hI hE
                rw [if_pos c6, if_pos c6, e1, bd2_s, grantsOf0_e hp hE hI e5, bd2_s, bs_e, upd_id, isIn_e _ (by omega), bd_s, shr1 _ (by omega)]
                have hN : Smn n tx ps v vn hs (va_up ww 0 wq) (z0 z) := smn_w h0 (fun i hi => by rw [va_n (by omega)]) ⟨t, f, pk, ht, s, c, p, l, by rw [va_s]; exact qu_ev hE e2, by rw [va_s]; exact qu_iv hI e2, hs72, hpk⟩
                rcases b01_c (lfold (gstep v (ww 0) n f q) 0 m (0, sumf n (rsv v (ww 0)), false)).1 o with g | g
                · rw [g, if_pos rfl, if_neg (show ¬ (0 : Int32) = 1 by decide), bd2_s, bs_e]
                  exact ⟨0, 7, _, 7, z0 z, rfl, rfl, Or.inl ⟨rfl, hz, rfl⟩, n, hN⟩
                · rw [g, if_neg (show ¬ (1 : Int32) = 0 by decide), if_pos rfl, bd2_s, bs_e]
                  exact ⟨0, 0, _, 0, z0 z, rfl, rfl, Or.inl ⟨rfl, hz, rfl⟩, n, hN⟩
              · rw [if_neg c6, if_neg c6]
                exact done 6
            · rw [if_neg c5, if_neg c5, if_neg (show ¬ (1 : Int32) = 0 by decide)]
              exact done 5
          · rw [if_neg c4, if_neg c4]
            exact done 4
        · rw [if_neg c3, if_neg (show ¬ (1 : Int32) = 0 by decide), if_neg (show ¬ (1 : Int32) = 0 by decide)]
          exact done 3
      · rw [if_neg c2, if_neg c2]
        exact done 2
  · rw [a1, a2, bd_s, bd_s, may0 hz (by decide), bd2_s, if_neg (show ¬ (2 : Nat) = 0 by decide), if_pos rfl]
    exact ⟨2, 0, ww, 0, va_up (z0 z) 0 (fun _ => 1), rfl, rfl, Or.inr ⟨rfl, by rw [va_s]⟩, n, smn_e h0 _⟩
theorem lays_e (z : Nat → Nat → Int32) : ∃ z2, qX11_laysThen z = some z2 ∧ (∀ i, i ≠ 11 → z2 i = z i) ∧ ∀ i, i < 411 → z2 11 i = z 10 i := by
  refine ⟨lfold (fun k (u : Nat → Nat → Int32) => va_up u 11 (upd (u 11) k (u 10 k))) 0 411 z, ?_, ?_⟩
  · unfold qX11_laysThen
    refine lp (L := fun g i u => qX11_laysThen_L2 (fun (z_3 : Nat → Nat → Int32) => some z_3) g i u) (N := 411) (K := fun u => some u) (fun _ _ => True) ?_ ?_ 411 fu 0 z (by omega) (by unfold fu; omega) trivial
    · intro g k u hk _
      refine ⟨?_, trivial⟩
      show qX11_laysThen_L2 _ (g + 1) (nI k) u = _
      rw [qX11_laysThen_L2, show (411 : Int32) = nI 411 from rfl, if_neg (nle hk (by omega)), gdn (by omega) (by omega), gdn (by omega) (by omega), cl (by omega), bs_e, p1]
    · intro g u _
      show qX11_laysThen_L2 _ (g + 1) (nI 411) u = _
      rw [qX11_laysThen_L2, if_pos (show (411 : Int32) ≤ nI 411 from Int32.le_refl _)]
  · have := lfold_inv (f := fun k (u : Nat → Nat → Int32) => va_up u 11 (upd (u 11) k (u 10 k))) (fun m u => (∀ i, i ≠ 11 → u i = z i) ∧ ∀ i, i < m → u 11 i = z 10 i) 411 0 z ⟨fun i _ => rfl, fun i hi => by omega⟩ (by
      intro m u _ _ ⟨h1, h2⟩
      refine ⟨fun i hi => ?_, fun i hi => ?_⟩
      · show va_up u 11 _ i = _
        rw [va_n hi, h1 i hi]
      · show va_up u 11 _ 11 i = _
        rw [va_s]
        by_cases e : i = m
        · rw [e, upd_s, h1 10 (by omega)]
        · rw [upd_n e, h2 i (by omega)])
    rw [Nat.zero_add] at this
    exact this
theorem until_e {v : Nat → Nat → Int32} {z : Nat → Nat → Int32} {n : Nat} {t : Nat} {f : Nat} {pk : Int32 × Int32} {tx ps hs : Nat → Nat → Int32} {nm vn : Nat → Int64} {ww : Nat → Nat → Nat → Int32} (x : Int32) (hp : Pl v z n) (h : Sw v n t f pk (ww 1) (z 11)) (ht : t ≤ 5000) : ∃ (ww2 : Nat → Nat → Nat → Int32) (z2 : Nat → Nat → Int32), (∀ i, i ≠ 1 → ww2 i = ww i) ∧ (∀ i, i ≠ 11 → z2 i = z i) ∧
    ((∃ k, k ≤ 500 ∧ qX10_ticksUntilRunning tx ps nm v vn hs ww x = some (0, nI k, ww2) ∧ qX11_until z x = some (nI k, z2)) ∨ (qX10_ticksUntilRunning tx ps nm v vn hs ww x = some (4, 0, ww2) ∧ qX11_until z x = some (-1, z2))) := by
  have key : ∀ (d k g g2 : Nat) (u : Nat → Nat → Nat → Int32) (y : Nat → Nat → Int32) (pk : Int32 × Int32), k + d = 501 → d < g → d < g2 → (∀ i, i ≠ 1 → u i = ww i) → (∀ i, i ≠ 11 → y i = z i) → Sw v n (t + k) f pk (u 1) (y 11) → ∃ (ww2 : Nat → Nat → Nat → Int32) (z2 : Nat → Nat → Int32), (∀ i, i ≠ 1 → ww2 i = ww i) ∧ (∀ i, i ≠ 11 → z2 i = z i) ∧
      ((∃ b, b ≤ 500 ∧ qX10_ticksUntilRunning_L2 tx ps nm v vn hs x (fun (ww_4 : Nat → Nat → Nat → Int32) => some (4, 0, ww_4)) g (nI k) u = some (0, nI b, ww2) ∧ qX11_until_L2 x (fun (x2_4 : Int32) (z_5 : Nat → Nat → Int32) => if x2_4 ≤ 500 then some (x2_4, z_5) else some ((-1), z_5)) g2 (nI k) y = some (nI b, z2)) ∨
        (qX10_ticksUntilRunning_L2 tx ps nm v vn hs x (fun (ww_4 : Nat → Nat → Nat → Int32) => some (4, 0, ww_4)) g (nI k) u = some (4, 0, ww2) ∧ qX11_until_L2 x (fun (x2_4 : Int32) (z_5 : Nat → Nat → Int32) => if x2_4 ≤ 500 then some (x2_4, z_5) else some ((-1), z_5)) g2 (nI k) y = some (-1, z2))) := by
    intro d
    induction d with
    | zero =>
      intro k g g2 u y pk hk hg hg2 h1 h2 hS
      obtain ⟨g, rfl⟩ : ∃ g', g = g' + 1 := ⟨g - 1, by omega⟩
      obtain ⟨g2, rfl⟩ : ∃ g', g2 = g' + 1 := ⟨g2 - 1, by omega⟩
      have : k = 501 := by omega
      subst this
      refine ⟨u, y, h1, h2, Or.inr ⟨?_, ?_⟩⟩
      · rw [qX10_ticksUntilRunning_L2, if_pos (show (500 : Int32) < nI 501 by decide)]
      · rw [qX11_until_L2, if_pos (show (500 : Int32) < nI 501 by decide), if_neg (show ¬ nI 501 ≤ (500 : Int32) by decide)]
    | succ d ih =>
      intro k g g2 u y pk hk hg hg2 h1 h2 hS
      obtain ⟨g, rfl⟩ : ∃ g', g = g' + 1 := ⟨g - 1, by omega⟩
      obtain ⟨g2, rfl⟩ : ∃ g', g2 = g' + 1 := ⟨g2 - 1, by omega⟩
      have hpy := pl_c hp (fun i b1 b2 => h2 i (by omega))
      have hlt : ¬ (500 : Int32) < nI k := nI_nlt (a := 500) (b := k) (by omega) (by omega)
      rw [qX10_ticksUntilRunning_L2, qX11_until_L2, if_neg hlt, if_neg hlt, inState_e hp, bd_s]
      obtain ⟨s, c, p, l, hE, hI, hs72, hpk⟩ := hS
      rw [withHow_e hpy hE, bd_s]
      by_cases e : x &&& (bset n (fun k => decide (u 1 11 k = 3)) ^^^ (-1)) = 0
      · rw [if_pos e, if_pos e, if_pos (show nI k ≤ (500 : Int32) from nI_le (b := 500) (by omega) (by omega))]
        exact ⟨u, y, h1, h2, Or.inl ⟨k, by omega, rfl, rfl⟩⟩
      · rw [if_neg e, if_neg e]
        obtain ⟨w3, r3, x3, a1, a2, a3⟩ := sw_tick hpy ⟨s, c, p, l, hE, hI, hs72, hpk⟩ (by omega)
        rw [a1, bd_s, bs_e, a2, bd2_s, bs_e, p1]
        exact ih (k + 1) g g2 (va_up u 1 w3) (va_up y 11 r3) _ (by omega) (by omega) (by omega) (fun i hi => by rw [va_n hi, h1 i hi]) (fun i hi => by rw [va_n hi, h2 i hi]) (by rw [va_s, va_s]; exact a3)
  obtain ⟨ww2, z2, b1, b2, b3⟩ := key 501 0 fu fu ww z pk (by omega) (by unfold fu; omega) (by unfold fu; omega) (fun i _ => rfl) (fun i _ => rfl) h
  refine ⟨ww2, z2, b1, b2, ?_⟩
  unfold qX10_ticksUntilRunning qX11_until
  exact b3
