-- want: both sides
theorem upd_c {f : Nat → Int32} {i j : Nat} {x y : Int32} (h : i ≠ j) : upd (upd f i x) j y = upd (upd f j y) i x := by
  funext k
  by_cases e1 : k = i
  · subst e1
    rw [upd_n h, upd_s, upd_s]
  · by_cases e2 : k = j
    · subst e2
      rw [upd_s, upd_n e1, upd_s]
    · rw [upd_n e2, upd_n e1, upd_n e1, upd_n e2]
theorem want_c0 {tx ps hs hs2 : Nat → Nat → Int32} {nm vn : Nat → Int64} {ww ww2 : Nat → Nat → Nat → Int32} {v : Nat → Nat → Int32} {o : Nat} (a1 : qX10_checkOutlet tx ps nm v vn hs ww (nI o) = some 0) (q1 : qX0_keep hs ww = some (hs2, ww2)) (hw : qX2_doesWant v (ww2 0) (nI o) = some 0) : qX10_want tx ps nm v vn hs ww (nI o) 0 = some (0, 0, hs2, ww2) := by
  unfold qX10_want
  rw [a1, bd_s, if_pos rfl, q1, bd2_s, hw, bd_s, jn_e, if_pos rfl]
  dsimp only
  rw [if_pos rfl, if_pos rfl, gd_t nb0]
theorem want_c1 {tx ps hs hs2 : Nat → Nat → Int32} {nm vn : Nat → Int64} {ww ww2 : Nat → Nat → Nat → Int32} {v : Nat → Nat → Int32} {o : Nat} {w3 : Nat → Nat → Int32} (a1 : qX10_checkOutlet tx ps nm v vn hs ww (nI o) = some 0) (q1 : qX0_keep hs ww = some (hs2, ww2)) (hw : qX2_doesWant v (ww2 0) (nI o) = some 1) (hb : qX2_becomeIdle v (ww2 0) (nI o) = some w3) : qX10_want tx ps nm v vn hs ww (nI o) 0 = some (0, 1, hs2, va_up ww2 0 w3) := by
  unfold qX10_want
  rw [a1, bd_s, if_pos rfl, q1, bd2_s, hw, bd_s, jn_e, if_pos rfl]
  dsimp only
  rw [if_pos rfl, if_neg (show ¬ (1 : Int32) = 0 by decide), hb, bd_s, bs_e, gd_t nb1]
theorem want_c2 {tx ps hs hs2 : Nat → Nat → Int32} {nm vn : Nat → Int64} {ww ww2 : Nat → Nat → Nat → Int32} {v : Nat → Nat → Int32} {o : Nat} {w3 : Nat → Nat → Int32} (a1 : qX10_checkOutlet tx ps nm v vn hs ww (nI o) = some 0) (q1 : qX0_keep hs ww = some (hs2, ww2)) (hw : qX2_doesWant v (ww2 0) (nI o) = some 0) (hb : qX2_beginToWait v (ww2 0) (nI o) = some w3) : qX10_want tx ps nm v vn hs ww (nI o) 1 = some (0, 0, hs2, va_up ww2 0 w3) := by
  unfold qX10_want
  rw [a1, bd_s, if_pos rfl, q1, bd2_s, hw, bd_s, jn_e, if_neg (show ¬ (1 : Int32) = 0 by decide), if_pos rfl, hb, bd_s, bs_e, gd_t nb0]
theorem want_c3 {tx ps hs hs2 : Nat → Nat → Int32} {nm vn : Nat → Int64} {ww ww2 : Nat → Nat → Nat → Int32} {v : Nat → Nat → Int32} {o : Nat} (a1 : qX10_checkOutlet tx ps nm v vn hs ww (nI o) = some 0) (q1 : qX0_keep hs ww = some (hs2, ww2)) (hw : qX2_doesWant v (ww2 0) (nI o) = some 1) : qX10_want tx ps nm v vn hs ww (nI o) 1 = some (0, 1, hs2, ww2) := by
  unfold qX10_want
  rw [a1, bd_s, if_pos rfl, q1, bd2_s, hw, bd_s, jn_e, if_neg (show ¬ (1 : Int32) = 0 by decide), if_neg (show ¬ (1 : Int32) = 0 by decide)]
  dsimp only
  rw [if_neg (show ¬ (1 : Int32) = 0 by decide), gd_t nb1]
theorem st_want : St_want Sim := by
  intro tx ps nm v vn hs ww z ⟨n, h⟩ x y hy
  have h0 := smn_0 h
  have hz := z0_0 z
  have hp := h0.pl
  have hn := hp.hn
  have hzz : va_up z 0 (fun _ => 0) = z0 z := rfl
  obtain ⟨hs2, ww2, z2, q1, q2, q3, q4, q5⟩ := keep_e h0
  have hz2 : z2 0 0 = 0 := by rw [q3 0 (by omega) (by omega)]; exact hz
  have hp2 := q5.pl
  obtain ⟨t, f, y0, ht, s, c, p, l, hE, hI, hs72, hpk⟩ := q5.now.ex
  have hpp := hI.ordP.pn
  have hll := hI.ordL.pn
  rcases outl_e (tx := tx) (ps := ps) (nm := nm) (vn := vn) (hs := hs) (ww := ww) x hp with ⟨a1, a2, o, ho, ex⟩ | ⟨a1, a2⟩
  · subst ex
    have ho2 : o < 12 := by omega
    have hR : qX11_want z (nI o) y = (jn (fun (y_7 : Int32) => if y_7 = y then gd (narrow .boolean (.int y_7) = .int y_7) (some (y_7, z2)) else bd (qX11_at (nI o) 1) fun r_8 => (jn (fun (y_9 : Int32) => gd (vp_in r_8 411) (bs (va_up z2 10 (upd (z2 10) r_8.toNatClampNeg y_9)) fun z_10 => bd (qX11_at (nI o) 2) fun r_11 => gd (vp_in r_11 411) ((jn (fun (z_12 : Nat → Nat → Int32) => bd (qX11_at (nI o) 2) fun r_13 => (jn (fun (y_14 : Int32) => gd (vp_in r_13 411) (bs (va_up z_12 10 (upd (z_12 10) r_13.toNatClampNeg y_14)) fun z_15 => bd (qX11_at (nI o) 3) fun r_16 => gd (vp_in r_16 411) (bs (va_up z_15 10 (upd (z_15 10) r_16.toNatClampNeg 0)) fun z_17 => bd (qX11_at (nI o) 6) fun r_18 => gd (vp_in r_18 411) (bs (va_up z_17 10 (upd (z_17 10) r_18.toNatClampNeg (-1))) fun z_19 => gd (narrow .boolean (.int y_7) = .int y_7) (some (y_7, z_19)))))) fun j114 => if y = 0 then (j114 0) else (j114 1))) fun j96 => if ((z_10 10) r_11.toNatClampNeg) < 2 then (j96 z_10) else bd (qX11_at (nI o) 7) fun r_20 => gd (vp_in r_20 411) (bs (va_up z_10 10 (upd (z_10 10) r_20.toNatClampNeg 1)) fun z_21 => (j96 z_21)))))) fun j69 => if y = 0 then (j69 0) else (j69 1))) fun j43 => if (if ww2 0 11 o = 0 then (0 : Int32) else 1) = 1 then (j43 1) else (j43 0)) := by
      unfold qX11_want
      rw [hzz, bs_e, a2, bd_s, may1 hz, bd2_s, if_neg (show ¬ (1 : Int32) = 0 by decide), q2, bd_s, ag1, bd_s, gdn (i := 51 + 12 * o + 1) (by omega) (by omega), cl (i := 51 + 12 * o + 1) (by omega), hE.wants o ho]
    rw [hR, jn_e]
    clear hR
    by_cases g : ww2 0 11 o = 0
    · have hw : qX2_doesWant v (ww2 0) (nI o) = some 0 := by rw [doesWant_e ho2, if_pos g]
      rw [if_pos g, if_neg (show ¬ (0 : Int32) = 1 by decide)]
      dsimp only
      rcases hy with e | e
      · subst e
        rw [want_c0 a1 q1 hw, if_pos rfl, gd_t nb0]
        exact ⟨_, _, _, _, _, _, rfl, rfl, Or.inl ⟨rfl, hz2, rfl⟩, n, q5⟩
      · subst e
        have hne : ¬ (if ww2 0 11 o = 0 then (0 : Int32) else 1) = 1 := by rw [if_pos g]; decide
        rw [want_c2 a1 q1 hw (beginToWait_e ho2), if_neg (show ¬ (0 : Int32) = 1 by decide)]
        refine ⟨_, _, _, _, _, _, rfl, (wantR_e (fun z_19 => gd (narrow .boolean (.int 0) = .int 0) (some (0, z_19))) hp2 hE rfl ho 1 (Or.inr rfl) hne hI).trans (gd_t nb0), Or.inl ⟨rfl, by rw [va_n (by omega)]; exact hz2, rfl⟩, n, smn_n q5 ⟨t, f, y0, ht, s, c, p, l, ?_, on_iv hI, hs72, hpk⟩⟩
        rw [if_pos (show ww2 0 11 o < 2 by rw [g]; decide)]
        exact on_ev hE ho hn (by omega) (by omega)
    · have hw : qX2_doesWant v (ww2 0) (nI o) = some 1 := by rw [doesWant_e ho2, if_neg g]
      rw [if_neg g, if_pos rfl]
      dsimp only
      rcases hy with e | e
      · subst e
        have hne : ¬ (if ww2 0 11 o = 0 then (0 : Int32) else 1) = 0 := by rw [if_neg g]; decide
        rw [want_c1 a1 q1 hw (becomeIdle_e ho2), if_neg (show ¬ (1 : Int32) = 0 by decide)]
        refine ⟨_, _, _, _, _, _, rfl, (wantR_e (fun z_19 => gd (narrow .boolean (.int 1) = .int 1) (some (1, z_19))) hp2 hE rfl ho 0 (Or.inl rfl) hne hI).trans (gd_t nb1), Or.inl ⟨rfl, by rw [va_n (by omega)]; exact hz2, rfl⟩, n, smn_n q5 ⟨t, f, y0, ht, s, c, p, l, ?_, ?_, hs72, hpk⟩⟩
        · by_cases g2 : ww2 0 11 o = 2 ∨ ww2 0 11 o = 3
          · rw [if_pos g2, if_neg (show ¬ ww2 0 11 o < 2 by rcases g2 with e | e <;> (rw [e]; decide)), upd_c (show 51 + 12 * o + 1 ≠ 51 + 12 * o + 7 by omega)]
            exact of_ev (sn_ev hE ho hn (by omega) (by omega)) ho hn (by omega) (by omega)
          · have g1 : ww2 0 11 o = 1 := by
              rcases hI.st o ho with e | e | e | e
              · exact absurd e g
              · exact e
              · exact absurd (Or.inl e) g2
              · exact absurd (Or.inr e) g2
            rw [if_neg g2, if_pos (show ww2 0 11 o < 2 by rw [g1]; decide)]
            exact of_ev hE ho hn (by omega) (by omega)
        · by_cases g2 : ww2 0 11 o = 2 ∨ ww2 0 11 o = 3
          · rw [if_pos g2]
            exact of_iv (sn_iv hI)
          · rw [if_neg g2]
            exact of_iv hI
      · subst e
        rw [want_c3 a1 q1 hw, if_pos rfl, gd_t nb1]
        exact ⟨_, _, _, _, _, _, rfl, rfl, Or.inl ⟨rfl, hz2, rfl⟩, n, q5⟩
  · unfold qX11_want qX10_want
    rw [hzz, bs_e, a1, a2, bd_s, bd_s, may0 hz (by decide), bd2_s, if_neg (show ¬ (2 : Nat) = 0 by decide), if_pos rfl]
    exact ⟨2, 0, hs, ww, 0, va_up (z0 z) 0 (fun _ => 1), rfl, rfl, Or.inr ⟨rfl, by rw [va_s]⟩, n, smn_e h0 _⟩
