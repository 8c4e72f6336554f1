-- want: the call
theorem wantR_e {v : Nat → Nat → Int32} {z : Nat → Nat → Int32} {w : Nat → Nat → Int32} {r : Nat → Int32} {n : Nat} {t : Nat} {s : Nat} {c : Nat} {p : Nat} {l : Nat} {f : Nat} {o : Nat} {pk : Int32 × Int32} (K : (Nat → Nat → Int32) → Option (Int32 × (Nat → Nat → Int32))) (hp : Pl v z n) (h : Ev v n t s c p l f pk w r) (hz : z 10 = r) (ho : o < n) (y : Int32) (hy : y = 0 ∨ y = 1) (hne : ¬ (if w 11 o = 0 then (0 : Int32) else 1) = y) (hi : Iv n t s c p l f w) :
    (bd (qX11_at (nI o) 1) fun r_8 => (jn (fun (y_9 : Int32) => gd (vp_in r_8 411) (bs (va_up z 10 (upd (z 10) r_8.toNatClampNeg y_9)) fun z_10 => bd (qX11_at (nI o) 2) fun r_11 => gd (vp_in r_11 411) ((jn (fun (z_12 : Nat → Nat → Int32) => bd (qX11_at (nI o) 2) fun r_13 => (jn (fun (y_14 : Int32) => gd (vp_in r_13 411) (bs (va_up z_12 10 (upd (z_12 10) r_13.toNatClampNeg y_14)) fun z_15 => bd (qX11_at (nI o) 3) fun r_16 => gd (vp_in r_16 411) (bs (va_up z_15 10 (upd (z_15 10) r_16.toNatClampNeg 0)) fun z_17 => bd (qX11_at (nI o) 6) fun r_18 => gd (vp_in r_18 411) (bs (va_up z_17 10 (upd (z_17 10) r_18.toNatClampNeg (-1))) fun z_19 => K z_19)))) fun j114 => if y = 0 then (j114 0) else (j114 1))) fun j96 => if ((z_10 10) r_11.toNatClampNeg) < 2 then (j96 z_10) else bd (qX11_at (nI o) 7) fun r_20 => gd (vp_in r_20 411) (bs (va_up z_10 10 (upd (z_10 10) r_20.toNatClampNeg 1)) fun z_21 => (j96 z_21)))))) fun j69 => if y = 0 then (j69 0) else (j69 1))) =
      K (va_up z 10 (upd (upd (upd (if w 11 o < 2 then upd r (51 + 12 * o + 1) y else upd (upd r (51 + 12 * o + 1) y) (51 + 12 * o + 7) 1) (51 + 12 * o + 2) y) (51 + 12 * o + 3) 0) (51 + 12 * o + 6) (-1))) := by
  have hn := hp.hn
  rcases hy with e | e
  · subst e
    simp (disch := omega) only [bd_s, ag1, ag2, ag3, ag6, ag7, gdn, cl, bs_e, e_t, if_true, jn_e, va_va, va_s, upd_n, hz, ← h.how]
    by_cases g : w 11 o < 2
    · rw [if_pos g, if_pos g]
    · rw [if_neg g, if_neg g]
  · subst e
    simp (disch := omega) only [bd_s, ag1, ag2, ag3, ag6, ag7, gdn, cl, bs_e, ne10, if_false, jn_e, va_va, va_s, upd_n, hz, ← h.how]
    by_cases g : w 11 o < 2
    · rw [if_pos g, if_pos g]
    · rw [if_neg g, if_neg g]
