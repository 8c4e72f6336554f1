-- what will be: the calls
theorem smn_a {v : Nat → Nat → Int32} {z : Nat → Nat → Int32} {n : Nat} {tx ps hs : Nat → Nat → Int32} {vn : Nat → Int64} {ww ww2 : Nat → Nat → Nat → Int32} {z2 : Nat → Nat → Int32} (h : Smn n tx ps v vn hs ww z) (hw : ∀ i, i ≠ 1 → ww2 i = ww i) (hz : ∀ i, i ≠ 0 → i ≠ 11 → z2 i = z i) : Smn n tx ps v vn hs ww2 z2 :=
  smn_z (smn_w h (fun i hi => hw i (by omega)) (by rw [hw 0 (by omega)]; exact h.now)) hz
theorem st_runsIn : St_runsIn Sim := by
  intro tx ps nm v vn hs ww z ⟨n, h⟩ x
  have h0 := smn_0 h
  have hz := z0_0 z
  have hp := h0.pl
  have hn := hp.hn
  obtain ⟨t, f, pk, ht, hS⟩ := h0.now.ex
  have hzz : va_up z 0 (fun _ => 0) = z0 z := rfl
  obtain ⟨z5, l1, l2, l3⟩ := lays_e (z0 z)
  obtain ⟨u, c1, c2⟩ := sw_copy (w2 := ww 1) (ur := z5 11) hS l3
  have hz5 : z5 0 0 = 0 := by rw [l2 0 (by omega)]; exact hz
  have hp5 := pl_c hp (fun i b1 b2 => l2 i (by omega))
  unfold qX11_runsIn qX10_runsIn
  rw [bs_e, hzz]
  rcases outl_e (tx := tx) (ps := ps) (nm := nm) (vn := vn) (hs := hs) (ww := ww) x hp with ⟨a1, a2, o, ho, ex⟩ | ⟨a1, a2⟩
  · subst ex
    rw [a1, a2, bd_s, bd_s, may1 hz, bd2_s, if_pos rfl, if_neg (show ¬ (1 : Int32) = 0 by decide), c1, bd_s, bs_e, l1, bd_s]
    obtain ⟨ww2, z2, b1, b2, b3⟩ := until_e (tx := tx) (ps := ps) (nm := nm) (vn := vn) (hs := hs) (ww := va_up ww 1 u) (z := z5) (1 <<< (nI o &&& 31)) hp5 (by rw [va_s]; exact c2) ht
    have hz2 : z2 0 0 = 0 := by rw [b2 0 (by omega)]; exact hz5
    have hSm : ∀ y : Int32, Smn n tx ps v vn hs ww2 (va_up z2 0 (fun _ => y)) := fun y => smn_a h0 (fun i hi => by rw [b1 i hi, va_n hi]) (fun i g1 g2 => by rw [va_n g1, b2 i g2, l2 i g2])
    have hSn : Smn n tx ps v vn hs ww2 z2 := smn_a h0 (fun i hi => by rw [b1 i hi, va_n hi]) (fun i g1 g2 => by rw [b2 i g2, l2 i g2])
    rcases b3 with ⟨k, k5, d1, d2⟩ | ⟨d1, d2⟩
    · rw [d1, d2, bd3_s, bd2_s, if_pos rfl, jn_e, if_neg (nI_m1 (by omega))]
      dsimp only
      rw [may1 hz2, bd2_s, if_neg (show ¬ (1 : Int32) = 0 by decide)]
      exact ⟨0, _, ww2, _, z2, rfl, rfl, Or.inl ⟨rfl, hz2, rfl⟩, n, hSn⟩
    · rw [d1, d2, bd3_s, bd2_s, if_neg (show ¬ (4 : Nat) = 0 by decide), jn_e, if_pos rfl]
      dsimp only
      rw [may0 hz2 (by decide), bd2_s, if_pos rfl]
      exact ⟨4, 0, ww2, 0, _, rfl, rfl, Or.inr (Or.inr ⟨rfl, by rw [va_s]⟩), n, hSm _⟩
  · rw [a1, a2, bd_s, bd_s, may0 hz (by decide), bd2_s, if_neg (show ¬ (2 : Nat) = 0 by decide), if_pos rfl]
    exact ⟨2, 0, ww, 0, va_up (z0 z) 0 (fun _ => 1), rfl, rfl, Or.inr (Or.inl ⟨rfl, by rw [va_s]⟩), n, smn_e h0 _⟩
theorem allIn_tail {v : Nat → Nat → Int32} {z : Nat → Nat → Int32} {n : Nat} {t : Nat} {f : Nat} {pk : Int32 × Int32} {tx ps hs : Nat → Nat → Int32} {nm vn : Nat → Int64} {ww : Nat → Nat → Nat → Int32} (z1 : Nat → Nat → Int32) (u : Nat → Nat → Int32) (hp : Pl v z n) (h0 : Smn n tx ps v vn hs ww z1) (hz1 : z1 0 0 = 0) (hz : ∀ i, i ≠ 11 → z i = z1 i) (c2 : Sw v n t f pk u (z 11)) (ht : t ≤ 5000) (x1 : Int32) :
    ∃ (e : Nat) (r : Int32) (wwR : Nat → Nat → Nat → Int32) (b : Int32) (zR : Nat → Nat → Int32), (bd (qX9_entitled v ((va_up ww 1 u) 1)) fun r_5 => bd3 (qX10_ticksUntilRunning tx ps nm v vn hs (va_up ww 1 u) r_5) fun e_6 r_7 ww_8 => if e_6 = 0 then some (0, r_7, ww_8) else some (e_6, 0, ww_8)) = some (e, r, wwR) ∧
      (bd (qX11_rightsOf z (z 11)) fun r_10 => bd2 (qX11_until z r_10) fun r_11 z_12 => (jn (fun (y_13 : Int32) => bd2 (qX11_may z_12 y_13 2) fun r_14 z_15 => if r_14 = 0 then some (0, z_15) else some (r_11, z_15)) fun j103 => if r_11 = (-1) then (j103 0) else (j103 1))) = some (b, zR) ∧
      ((e = 0 ∧ zR 0 0 = 0 ∧ r = b) ∨ (e = 3 ∧ zR 0 0 = 1) ∨ (e = 4 ∧ zR 0 0 = 2)) ∧ Sim tx ps nm v vn hs wwR zR := by
  obtain ⟨s, c, p, l, hE, hI, hs72, hpk⟩ := c2
  rw [va_s, entitled_e hp hE, rightsOf_e hp hE, bd_s, bd_s]
  obtain ⟨ww2, z2, b1, b2, b3⟩ := until_e (tx := tx) (ps := ps) (nm := nm) (vn := vn) (hs := hs) (ww := va_up ww 1 u) (z := z) (rgt v u n f) hp (by rw [va_s]; exact ⟨s, c, p, l, hE, hI, hs72, hpk⟩) ht
  have hz2 : z2 0 0 = 0 := by rw [b2 0 (by omega), hz 0 (by omega)]; exact hz1
  have hSm : ∀ y : Int32, Smn n tx ps v vn hs ww2 (va_up z2 0 (fun _ => y)) := fun y => smn_a h0 (fun i hi => by rw [b1 i hi, va_n hi]) (fun i g1 g2 => by rw [va_n g1, b2 i g2, hz i g2])
  have hSn : Smn n tx ps v vn hs ww2 z2 := smn_a h0 (fun i hi => by rw [b1 i hi, va_n hi]) (fun i g1 g2 => by rw [b2 i g2, hz i g2])
  rcases b3 with ⟨k, k5, d1, d2⟩ | ⟨d1, d2⟩
  · rw [d1, d2, bd3_s, bd2_s, if_pos rfl, jn_e, if_neg (nI_m1 (by omega))]
    dsimp only
    rw [may1 hz2, bd2_s, if_neg (show ¬ (1 : Int32) = 0 by decide)]
    exact ⟨0, _, ww2, _, z2, rfl, rfl, Or.inl ⟨rfl, hz2, rfl⟩, n, hSn⟩
  · rw [d1, d2, bd3_s, bd2_s, if_neg (show ¬ (4 : Nat) = 0 by decide), jn_e, if_pos rfl]
    dsimp only
    rw [may0 hz2 (by decide), bd2_s, if_pos rfl]
    exact ⟨4, 0, ww2, 0, _, rfl, rfl, Or.inr (Or.inr ⟨rfl, by rw [va_s]⟩), n, hSm _⟩
theorem va_va {α : Type} (f : Nat → α) (i : Nat) (x y : α) : va_up (va_up f i x) i y = va_up f i y := by
  funext j
  simp only [va_u]
  split <;> rfl
theorem ag1_1 {α : Type} (a : Option α) : gd (narrow .boolean (.int 1) = .int 1 ∧ fits .boolean (.int 1) = true) a = a := gd_t (bo_g (Or.inr rfl))
theorem ag1_0 {α : Type} (a : Option α) : gd (narrow .boolean (.int 0) = .int 0 ∧ fits .boolean (.int 0) = true) a = a := gd_t (bo_g (Or.inl rfl))
theorem st_allIn : St_allIn Sim := by
  intro tx ps nm v vn hs ww z ⟨n, h⟩ x
  have h0 := smn_0 h
  have hz := z0_0 z
  have hp := h0.pl
  have hn := hp.hn
  obtain ⟨t, f, pk, ht, hS⟩ := h0.now.ex
  have hzz : va_up z 0 (fun _ => 0) = z0 z := rfl
  obtain ⟨z5, l1, l2, l3⟩ := lays_e (z0 z)
  obtain ⟨u, c1, c2⟩ := sw_copy (w2 := ww 1) (ur := z5 11) hS l3
  have hz5 : z5 0 0 = 0 := by rw [l2 0 (by omega)]; exact hz
  have hp5 := pl_c hp (fun i b1 b2 => l2 i (by omega))
  unfold qX11_allIn qX10_allIn
  rw [bs_e, hzz, isIn_0_3, bd_s, range_e, bd_s]
  by_cases hx : 0 ≤ x ∧ x ≤ 3
  · rw [if_pos hx, if_pos hx, may1 hz, bd2_s, if_pos rfl, if_neg (show ¬ (1 : Int32) = 0 by decide), c1, bd_s, bs_e, l1, bd_s]
    obtain ⟨s, c, p, l, hE, hI, hs72, hpk⟩ := c2
    have hpp := hI.ordP.pn
    have hll := hI.ordL.pn
    obtain ⟨j, hj, ej⟩ := inl_of (m := 3) rfl hx
    subst ej
    rcases (show j = 0 ∨ j = 1 ∨ j = 2 ∨ j = 3 by omega) with e | e | e | e <;> subst e
    · have T := allIn_tail (tx := tx) (ps := ps) (nm := nm) (vn := vn) (hs := hs) (ww := ww) (z0 z) _ hp5 h0 hz (fun i hi => l2 i hi) ⟨s, c, p, l, hE, hI, hs72, hpk⟩ ht 0
      simp only [show (nI 0 : Int32) = 0 from rfl, ne01, ne02, ne03, jn_e, bs_e, bd_s, va_s, va_va, bd2_s, e_t, i_t, i_f, if_true, if_false, ag1_1, ag1_0] at T ⊢
      exact T
    · have T := allIn_tail (tx := tx) (ps := ps) (nm := nm) (vn := vn) (hs := hs) (ww := ww) (z := va_up z5 11 (upd (z5 11) 14 1)) (z0 z) _ (pl_c hp5 (fun i b1 b2 => va_n (by omega))) h0 hz (fun i hi => by rw [va_n hi, l2 i hi]) (by rw [va_s]; exact ⟨s, c, p, l, ls_ev hE hn (by omega) (by omega), ls_iv hI (Or.inr rfl), hs72, hpk⟩) ht 0
      simp only [show (nI 1 : Int32) = 1 from rfl, ne10, ne12, ne13, jn_e, bs_e, bd_s, va_s, va_va, bd2_s, e_t, i_t, i_f, if_true, if_false, ag1_1, ag1_0] at T ⊢
      exact T
    · rcases hI.s01 with e | e
      · have hy : (1 : Int32) - z5 11 9 = 1 := by rw [← hE.strict, e]; rfl
        have T := allIn_tail (tx := tx) (ps := ps) (nm := nm) (vn := vn) (hs := hs) (ww := ww) (z := va_up z5 11 (upd (z5 11) 9 1)) (z0 z) _ (pl_c hp5 (fun i b1 b2 => va_n (by omega))) h0 hz (fun i hi => by rw [va_n hi, l2 i hi]) (by rw [va_s]; exact ⟨s, c, p, l, sx_ev hE hn (by omega) (by omega), sx_iv hI (Or.inr rfl), hs72, hpk⟩) ht 0
        simp only [show (nI 2 : Int32) = 2 from rfl, ne20, ne21, ne23, jn_e, bs_e, bd_s, va_s, va_va, bd2_s, e_t, i_t, i_f, if_true, if_false, ag1_1, ag1_0, e, hy] at T ⊢
        exact T
      · have hy : (1 : Int32) - z5 11 9 = 0 := by rw [← hE.strict, e]; rfl
        have T := allIn_tail (tx := tx) (ps := ps) (nm := nm) (vn := vn) (hs := hs) (ww := ww) (z := va_up z5 11 (upd (z5 11) 9 0)) (z0 z) _ (pl_c hp5 (fun i b1 b2 => va_n (by omega))) h0 hz (fun i hi => by rw [va_n hi, l2 i hi]) (by rw [va_s]; exact ⟨s, c, p, l, sx_ev hE hn (by omega) (by omega), sx_iv hI (Or.inl rfl), hs72, hpk⟩) ht 0
        simp only [show (nI 2 : Int32) = 2 from rfl, ne20, ne21, ne23, jn_e, bs_e, bd_s, va_s, va_va, bd2_s, e_t, i_t, i_f, if_true, if_false, ag1_1, ag1_0, e, hy, ne10] at T ⊢
        exact T
    · have T := allIn_tail (tx := tx) (ps := ps) (nm := nm) (vn := vn) (hs := hs) (ww := ww) (z := va_up z5 11 (fgR (z5 11))) (z0 z) _ (pl_c hp5 (fun i b1 b2 => va_n (by omega))) h0 hz (fun i hi => by rw [va_n hi, l2 i hi]) (by rw [va_s]; exact ⟨s, c, p, 0, fg_ev hp5 hE hn (by omega) (by omega), fg_iv hI, hs72, hpk⟩) ht 0
      simp only [show (nI 3 : Int32) = 3 from rfl, ne30, ne31, ne32, jn_e, bs_e, bd_s, va_s, va_va, bd2_s, e_t, i_t, i_f, if_true, if_false, ag1_1, ag1_0, forgetL_e, forgets_e] at T ⊢
      exact T
  · rw [if_neg hx, if_neg hx, may0 hz (by decide), bd2_s, if_neg (show ¬ (3 : Nat) = 0 by decide), if_pos rfl]
    exact ⟨3, 0, ww, 0, va_up (z0 z) 0 (fun _ => 1), rfl, rfl, Or.inr (Or.inl ⟨rfl, by rw [va_s]⟩), n, smn_e h0 _⟩
