-- an outlet in step
theorem pkn_c : ∀ (q : Nat) {u u2 : Nat → Int32}, (∀ i, i < q → u i = u2 i) → pkn u q = pkn u2 q
  | 0, _, _, _ => rfl
  | q + 1, u, u2, hu => by
    show (pkn u q <<< (8 : Int64)) ||| (u q).toInt64 = (pkn u2 q <<< (8 : Int64)) ||| (u2 q).toInt64
    rw [pkn_c q (fun i hi => hu i (by omega)), hu q (by omega)]
theorem updL_s (f : Nat → Int64) (i : Nat) (x : Int64) : vp_updL f i x i = x := by
  unfold vp_updL
  exact if_pos rfl
theorem updL_n {f : Nat → Int64} {i j : Nat} {x : Int64} (h : j ≠ i) : vp_updL f i x j = f j := by
  unfold vp_updL
  exact if_neg h
theorem cpN_e {L n b s : Nat} {tx z : Nat → Nat → Int32} (h : Tx L tx z) (hn : n < 12) (hb : b + s ≤ 900) (e1 : z 26 0 = nI b) (e2 : z 25 0 = nI (b + s)) (e3 : z 30 0 = nI n) (K : (Nat → Nat → Int32) → Option (Nat → Nat → Int32)) : ∃ z2 : Nat → Nat → Int32, qX11_outletLine_L58 K fu 0 z = K z2 ∧ (∀ i, i ≠ 22 → z2 i = z i) ∧ (∀ i, i < 8 → z2 22 (8 * n + i) = whv (z 16) b (b + s) i) ∧ ∀ j, j < 8 * n → z2 22 j = z 22 j := by
  have key := lp (L := fun g i y => qX11_outletLine_L58 K g i y) (N := 8) (K := K) (f := fun k y => va_up y 22 (upd (y 22) (8 * n + k) (whv (z 16) b (b + s) k))) (fun _ y => ∀ i, i ≠ 22 → y i = z i) (by
    intro g k y hk hy
    refine ⟨?_, fun i hi => by rw [va_n hi]; exact hy i hi⟩
    show qX11_outletLine_L58 K (g + 1) (nI k) y = qX11_outletLine_L58 K g (nI (k + 1)) _
    rw [qX11_outletLine_L58, if_neg (show ¬ (8 : Int32) ≤ nI k from nle (a := 8) (by omega) (by omega))]
    simp only [jn_e]
    rw [hy 25 (by omega), hy 26 (by omega), hy 30 (by omega), hy 16 (by omega), e1, e2, e3, nI_add, m8, nI_add, p1, gdn (i := 8 * n + k) (by omega) (by omega), cl (i := 8 * n + k) (by omega), bs_e]
    unfold whv
    by_cases c : b + k < b + s
    · rw [if_pos c, if_neg (nle c (by omega)), gdn (i := b + k) (by omega) (by omega), gdn (i := 8 * n + k) (by omega) (by omega), cl (i := b + k) (by omega), bs_e]
    · rw [if_neg c, if_pos (nI_le (by omega) (by omega))]) (by
    intro g y hy
    show qX11_outletLine_L58 K (g + 1) (nI 8) y = K y
    rw [qX11_outletLine_L58, if_pos (show (8 : Int32) ≤ nI 8 from Int32.le_refl _)]) 8 fu 0 z (by omega) (by unfold fu; omega) (fun _ _ => rfl)
  refine ⟨_, key, ?_⟩
  have inv := lfold_inv (f := fun k y => va_up y 22 (upd (y 22) (8 * n + k) (whv (z 16) b (b + s) k))) (fun m y => m ≤ 8 → (∀ i, i ≠ 22 → y i = z i) ∧ (∀ i, i < m → y 22 (8 * n + i) = whv (z 16) b (b + s) i) ∧ ∀ j, j < 8 * n → y 22 j = z 22 j) 8 0 z (fun _ => ⟨fun _ _ => rfl, fun i hi => absurd hi (Nat.not_lt_zero i), fun _ _ => rfl⟩) (by
    intro i y _ hi hy hm
    obtain ⟨g1, g2, g3⟩ := hy (by omega)
    refine ⟨fun j hj => by rw [va_n hj]; exact g1 j hj, fun j hj => ?_, fun j hj => by rw [va_s, upd_n (by omega)]; exact g3 j hj⟩
    rw [va_s]
    by_cases d : j = i
    · subst d
      exact upd_s _ _ _
    · rw [upd_n (by omega)]
      exact g2 j (by omega))
  exact inv (Nat.le_refl _)
theorem numC_w {tx ps : Nat → Nat → Int32} {nm : Nat → Int64} (h : ¬ ps 3 0 = 0) (lo hi : Int32) : qX4_readNumber tx ps nm lo hi = some (-1, ps) := by
  unfold qX4_readNumber
  rw [if_neg h]
theorem fw_e {L : Nat} {tx ps z : Nat → Nat → Int32} {nm : Nat → Int64} (h : Rd L tx ps z) (lo hi lo2 hi2 : Int32) (hl : ps 3 0 = 0 → lo2 = lo ∧ hi2 = hi) (i j n q : Nat) (hi5 : 5 ≤ i) (hj : j < 16 ∨ j = 17 ∨ j = 18) : ∃ (r : Int32) (ps2 : Nat → Nat → Int32) (r2 : Int32) (z2 : Nat → Nat → Int32), qX4_readNumber tx ps nm lo hi = some (r, ps2) ∧ qX11_figure z lo2 hi2 = some (r2, z2) ∧ Rd L tx (va_up ps2 i (upd (ps2 i) n r)) (va_up z2 j (upd (z2 j) q r2)) ∧ (∀ k, 5 ≤ k → ps2 k = ps k) ∧ (∀ k, k < 25 ∨ 29 < k → z2 k = z k) ∧ (va_up ps2 i (upd (ps2 i) n r) 3 0 = 0 → ps 3 0 = 0 ∧ r2 = r ∧ lo ≤ r ∧ r ≤ hi ∧ ∃ m, m ≤ 9999 ∧ r = nI m) ∧ po ps ≤ po (va_up ps2 i (upd (ps2 i) n r)) := by
  obtain ⟨r, ps2, r2, z2, b1, b2, b3, b4⟩ := figu_e (nm := nm) h lo hi lo2 hi2 hl
  refine ⟨r, ps2, r2, z2, b1, b2, rd_c b3.rd (fun k hk => va_n (by omega)) (fun k hk => va_n (by omega)), b3.fp, b3.fz, fun g => ?_, ?_⟩
  · rw [va_n (by omega)] at g
    exact ⟨b3.ok g, b4 g⟩
  · have m1 := b3.mo
    have m2 : po (va_up ps2 i (upd (ps2 i) n r)) = po ps2 := by
      unfold po
      rw [va_n (by omega)]
    omega
theorem tail_w {tx ps : Nat → Nat → Int32} {nm_5 : Nat → Int64} {n : Nat} (hn : n < 12) (h : ¬ ps 3 0 = 0) : ∃ ps1 : Nat → Nat → Int32, (bd2 (qX4_readNumber tx ps nm_5 0 999) fun r_6 ps_7 => gd (vp_in (nI n) 12) (bs (va_up ps_7 15 (upd (ps_7 15) (nI n).toNatClampNeg r_6)) fun ps_8 => gd (vp_in (nI n) 12) (bd2 (qX4_readNumber tx ps_8 nm_5 ((ps_8 15) (nI n).toNatClampNeg) 1999) fun r_9 ps_10 => gd (vp_in (nI n) 12) (bs (va_up ps_10 16 (upd (ps_10 16) (nI n).toNatClampNeg r_9)) fun ps_11 => gd (vp_in (nI n) 12) (gd (vp_in (nI n) 12) (bd2 (qX4_readNumber tx ps_11 nm_5 ((ps_11 15) (nI n).toNatClampNeg) ((ps_11 16) (nI n).toNatClampNeg)) fun r_12 ps_13 => gd (vp_in (nI n) 12) (bs (va_up ps_13 17 (upd (ps_13 17) (nI n).toNatClampNeg r_12)) fun ps_14 => bd2 (qX4_readNumber tx ps_14 nm_5 1 20) fun r_15 ps_16 => gd (vp_in (nI n) 12) (bs (va_up ps_16 18 (upd (ps_16 18) (nI n).toNatClampNeg r_15)) fun ps_17 => bd2 (qX4_readNumber tx ps_17 nm_5 0 9) fun r_18 ps_19 => gd (vp_in (nI n) 12) (bs (va_up ps_19 19 (upd (ps_19 19) (nI n).toNatClampNeg r_18)) fun ps_20 => gd (vp_in (nI n) 12) (bs (va_up ps_20 20 (upd (ps_20 20) (nI n).toNatClampNeg 0)) fun ps_21 => (bs (va_up ps_21 6 (fun _ => (nI n + 1))) fun ps_22 => some (ps_22, nm_5)))))))))))) = some (ps1, nm_5) ∧ ∀ i, i < 5 → ps1 i = ps i := by
  simp (disch := omega) only [gdn, cl]
  rw [numC_w h, bd2_s, bs_e]
  have h0 : ¬ (va_up ps 15 (upd (ps 15) n (-1))) 3 0 = 0 := by rw [va_n (by omega)]; exact h
  rw [numC_w h0, bd2_s, bs_e]
  have h1 : ¬ (va_up (va_up ps 15 (upd (ps 15) n (-1))) 16 (upd ((va_up ps 15 (upd (ps 15) n (-1))) 16) n (-1))) 3 0 = 0 := by rw [va_n (by omega), va_n (by omega)]; exact h
  rw [numC_w h1, bd2_s, bs_e]
  have h2 : ¬ (va_up (va_up (va_up ps 15 (upd (ps 15) n (-1))) 16 (upd ((va_up ps 15 (upd (ps 15) n (-1))) 16) n (-1))) 17 (upd ((va_up (va_up ps 15 (upd (ps 15) n (-1))) 16 (upd ((va_up ps 15 (upd (ps 15) n (-1))) 16) n (-1))) 17) n (-1))) 3 0 = 0 := by rw [va_n (by omega), va_n (by omega), va_n (by omega)]; exact h
  rw [numC_w h2, bd2_s, bs_e]
  have h3 : ¬ (va_up (va_up (va_up (va_up ps 15 (upd (ps 15) n (-1))) 16 (upd ((va_up ps 15 (upd (ps 15) n (-1))) 16) n (-1))) 17 (upd ((va_up (va_up ps 15 (upd (ps 15) n (-1))) 16 (upd ((va_up ps 15 (upd (ps 15) n (-1))) 16) n (-1))) 17) n (-1))) 18 (upd ((va_up (va_up (va_up ps 15 (upd (ps 15) n (-1))) 16 (upd ((va_up ps 15 (upd (ps 15) n (-1))) 16) n (-1))) 17 (upd ((va_up (va_up ps 15 (upd (ps 15) n (-1))) 16 (upd ((va_up ps 15 (upd (ps 15) n (-1))) 16) n (-1))) 17) n (-1))) 18) n (-1))) 3 0 = 0 := by rw [va_n (by omega), va_n (by omega), va_n (by omega), va_n (by omega)]; exact h
  rw [numC_w h3, bd2_s, bs_e]
  rw [bs_e, bs_e]
  exact ⟨_, rfl, fun i hi => by rw [va_n (by omega), va_n (by omega), va_n (by omega), va_n (by omega), va_n (by omega), va_n (by omega), va_n (by omega)]⟩
theorem tail_e {L n : Nat} {tx ps z : Nat → Nat → Int32} {nm_5 : Nat → Int64} (h : Rd L tx ps z) (hn : n < 12) (hz : z 30 0 = nI n) : ∃ ps1 ps2 z2 : Nat → Nat → Int32, (bd2 (qX4_readNumber tx ps nm_5 0 999) fun r_6 ps_7 => gd (vp_in (nI n) 12) (bs (va_up ps_7 15 (upd (ps_7 15) (nI n).toNatClampNeg r_6)) fun ps_8 => gd (vp_in (nI n) 12) (bd2 (qX4_readNumber tx ps_8 nm_5 ((ps_8 15) (nI n).toNatClampNeg) 1999) fun r_9 ps_10 => gd (vp_in (nI n) 12) (bs (va_up ps_10 16 (upd (ps_10 16) (nI n).toNatClampNeg r_9)) fun ps_11 => gd (vp_in (nI n) 12) (gd (vp_in (nI n) 12) (bd2 (qX4_readNumber tx ps_11 nm_5 ((ps_11 15) (nI n).toNatClampNeg) ((ps_11 16) (nI n).toNatClampNeg)) fun r_12 ps_13 => gd (vp_in (nI n) 12) (bs (va_up ps_13 17 (upd (ps_13 17) (nI n).toNatClampNeg r_12)) fun ps_14 => bd2 (qX4_readNumber tx ps_14 nm_5 1 20) fun r_15 ps_16 => gd (vp_in (nI n) 12) (bs (va_up ps_16 18 (upd (ps_16 18) (nI n).toNatClampNeg r_15)) fun ps_17 => bd2 (qX4_readNumber tx ps_17 nm_5 0 9) fun r_18 ps_19 => gd (vp_in (nI n) 12) (bs (va_up ps_19 19 (upd (ps_19 19) (nI n).toNatClampNeg r_18)) fun ps_20 => gd (vp_in (nI n) 12) (bs (va_up ps_20 20 (upd (ps_20 20) (nI n).toNatClampNeg 0)) fun ps_21 => (bs (va_up ps_21 6 (fun _ => (nI n + 1))) fun ps_22 => some (ps_22, nm_5)))))))))))) = some (ps1, nm_5) ∧ qX4_readSemicolon tx ps1 nm_5 = some ps2 ∧ (bd2 (qX11_figure z 0 999) fun r_15 z_16 => gd (vp_in (4 * (z 30 0)) 48) (bs (va_up z_16 18 (upd (z_16 18) (4 * (z 30 0)).toNatClampNeg r_15)) fun z_17 => gd (vp_in (4 * (z 30 0)) 48) (bd2 (qX11_figure z_17 ((z_17 18) (4 * (z 30 0)).toNatClampNeg) 1999) fun r_18 z_19 => gd (vp_in ((4 * (z 30 0)) + 1) 48) (bs (va_up z_19 18 (upd (z_19 18) ((4 * (z 30 0)) + 1).toNatClampNeg r_18)) fun z_20 => gd (vp_in (4 * (z 30 0)) 48) (gd (vp_in ((4 * (z 30 0)) + 1) 48) (bd2 (qX11_figure z_20 ((z_20 18) (4 * (z 30 0)).toNatClampNeg) ((z_20 18) ((4 * (z 30 0)) + 1).toNatClampNeg)) fun r_21 z_22 => gd (vp_in ((4 * (z 30 0)) + 2) 48) (bs (va_up z_22 18 (upd (z_22 18) ((4 * (z 30 0)) + 2).toNatClampNeg r_21)) fun z_23 => bd2 (qX11_figure z_23 1 20) fun r_24 z_25 => gd (vp_in ((4 * (z 30 0)) + 3) 48) (bs (va_up z_25 18 (upd (z_25 18) ((4 * (z 30 0)) + 3).toNatClampNeg r_24)) fun z_26 => bd (qX11_at (z_26 30 0) 0) fun r_27 => bd2 (qX11_figure z_26 0 9) fun r_28 z_29 => gd (vp_in r_27 411) (bs (va_up z_29 17 (upd (z_29 17) r_27.toNatClampNeg r_28)) fun z_30 => bd (qX11_semicolon z_30) fun z_31 => bd (qX11_at (z_31 30 0) 1) fun r_32 => gd (vp_in r_32 411) (bs (va_up z_31 17 (upd (z_31 17) r_32.toNatClampNeg 1)) fun z_33 => gd (vp_in (z_33 30 0) 12) (bs (va_up z_33 19 (upd (z_33 19) (z_33 30 0).toNatClampNeg 0)) fun z_34 => (bs (va_up z_34 30 (fun _ => ((z_34 30 0) + 1))) fun z_35 => some z_35)))))))))))) = some z2 ∧ Rd L tx ps2 z2 ∧ po ps ≤ po ps2 ∧ (∀ i, i < 16 ∨ i = 23 → z2 i = z i) ∧ (ps2 3 0 = 0 → ∃ r1 r2 r3 r4 r5 : Int32, (∃ k, k < 2000 ∧ r1 = nI k) ∧ (∃ k, k < 2000 ∧ r2 = nI k) ∧ (∃ k, k < 2000 ∧ r3 = nI k) ∧ ps2 6 = (fun _ => nI (n + 1)) ∧ ps2 15 = upd (ps 15) n r1 ∧ ps2 16 = upd (ps 16) n r2 ∧ ps2 17 = upd (ps 17) n r3 ∧ ps2 18 = upd (ps 18) n r4 ∧ ps2 19 = upd (ps 19) n r5 ∧ ps2 20 = upd (ps 20) n 0 ∧ (∀ i, 5 ≤ i → i ≠ 6 → i < 15 ∨ 20 < i → ps2 i = ps i) ∧ z2 17 = upd (upd (z 17) (51 + 12 * n) r5) (51 + 12 * n + 1) 1 ∧ z2 18 = upd (upd (upd (upd (z 18) (4 * n) r1) (4 * n + 1) r2) (4 * n + 2) r3) (4 * n + 3) r4 ∧ z2 19 = upd (z 19) n 0 ∧ z2 30 = (fun _ => nI (n + 1)) ∧ ∀ i, i < 25 ∨ 29 < i → i ≠ 17 → i ≠ 18 → i ≠ 19 → i ≠ 30 → z2 i = z i) := by
  simp (disch := omega) only [gdn, cl]
  obtain ⟨r0, q0, s0, y0, c0, d0, h0, fp0, fz0, o0, mo0⟩ := fw_e (nm := nm_5) h 0 999 0 999 (fun _ => ⟨rfl, rfl⟩) 15 18 n (4 * n) (by omega) (by omega)
  obtain ⟨r1, q1, s1, y1, c1, d1, h1, fp1, fz1, o1, mo1⟩ := fw_e (nm := nm_5) h0 ((va_up q0 15 (upd (q0 15) n r0)) 15 n) 1999 ((va_up y0 18 (upd (y0 18) (4 * n) s0)) 18 (4 * n)) 1999 (fun g => ⟨by rw [va_s, va_s, upd_s, upd_s]; exact (o0 g).2.1, rfl⟩) 16 18 n (4 * n + 1) (by omega) (by omega)
  obtain ⟨r2, q2, s2, y2, c2, d2, h2, fp2, fz2, o2, mo2⟩ := fw_e (nm := nm_5) h1 ((va_up q1 16 (upd (q1 16) n r1)) 15 n) ((va_up q1 16 (upd (q1 16) n r1)) 16 n) ((va_up y1 18 (upd (y1 18) (4 * n + 1) s1)) 18 (4 * n)) ((va_up y1 18 (upd (y1 18) (4 * n + 1) s1)) 18 (4 * n + 1)) (fun g => ⟨by rw [va_n (show (15 : Nat) ≠ 16 by omega), va_s, upd_n (show 4 * n ≠ 4 * n + 1 by omega), fp1 15 (by omega), va_s, fz1 18 (by omega), va_s, upd_s, upd_s]; exact (o0 (o1 g).1).2.1, by rw [va_s, va_s, upd_s, upd_s]; exact (o1 g).2.1⟩) 17 18 n (4 * n + 2) (by omega) (by omega)
  obtain ⟨r3, q3, s3, y3, c3, d3, h3, fp3, fz3, o3, mo3⟩ := fw_e (nm := nm_5) h2 1 20 1 20 (fun _ => ⟨rfl, rfl⟩) 18 18 n (4 * n + 3) (by omega) (by omega)
  obtain ⟨r4, q4, s4, y4, c4, d4, h4, fp4, fz4, o4, mo4⟩ := fw_e (nm := nm_5) h3 0 9 0 9 (fun _ => ⟨rfl, rfl⟩) 19 17 n (51 + 12 * n) (by omega) (by omega)
  have hF : Rd L tx (va_up (va_up (va_up q4 19 (upd (q4 19) n r4)) 20 (upd ((va_up q4 19 (upd (q4 19) n r4)) 20) n 0)) 6 (fun _ => nI (n + 1))) (va_up y4 17 (upd (y4 17) (51 + 12 * n) s4)) := rd_c h4 (fun i hi => by rw [va_n (by omega), va_n (by omega)]) (fun i hi => rfl)
  obtain ⟨ps6, z6, u1, u2, u3⟩ := semi_e (nm := nm_5) hF
  have k3 : (va_up y3 18 (upd (y3 18) (4 * n + 3) s3)) 30 0 = nI n := by rw [va_n (by omega), fz3 30 (by omega), va_n (by omega), fz2 30 (by omega), va_n (by omega), fz1 30 (by omega), va_n (by omega), fz0 30 (by omega)]; exact hz
  have k6 : z6 30 0 = nI n := by rw [u3.fz 30 (by omega), va_n (by omega), fz4 30 (by omega)]; exact k3
  refine ⟨(va_up (va_up (va_up q4 19 (upd (q4 19) n r4)) 20 (upd ((va_up q4 19 (upd (q4 19) n r4)) 20) n 0)) 6 (fun _ => nI (n + 1))), ps6, va_up (va_up (va_up z6 17 (upd (z6 17) (51 + 12 * n + 1) 1)) 19 (upd (z6 19) n 0)) 30 (fun _ => nI (n + 1)), ?_, u1, ?_, rd_c u3.rd (fun _ _ => rfl) (fun i hi => by rw [va_n (by omega), va_n (by omega), va_n (by omega)]), ?_, fun i hi => ?_, fun g => ?_⟩
  · rw [c0, bd2_s, bs_e, c1, bd2_s, bs_e, c2, bd2_s, bs_e, c3, bd2_s, bs_e, c4, bd2_s, bs_e, bs_e, p1, bs_e]
  · rw [hz, m4, d0, bd2_s, gdn (i := 4 * n) (by omega) (by omega), cl (i := 4 * n) (by omega), bs_e, gdn (i := 4 * n) (by omega) (by omega), d1, bd2_s, p1, p2, p3, gdn (i := 4 * n + 1) (by omega) (by omega), cl (i := 4 * n + 1) (by omega), bs_e, gdn (i := 4 * n) (by omega) (by omega), gdn (i := 4 * n + 1) (by omega) (by omega), d2, bd2_s, gdn (i := 4 * n + 2) (by omega) (by omega), cl (i := 4 * n + 2) (by omega), bs_e, d3, bd2_s, gdn (i := 4 * n + 3) (by omega) (by omega), cl (i := 4 * n + 3) (by omega), bs_e, k3, ag0, bd_s, d4, bd2_s, gdn (i := 51 + 12 * n) (by omega) (by omega), cl (i := 51 + 12 * n) (by omega), bs_e, u2, bd_s, k6, ag1, bd_s, gdn (i := 51 + 12 * n + 1) (by omega) (by omega), cl (i := 51 + 12 * n + 1) (by omega), bs_e, va_n (show (30 : Nat) ≠ 17 by omega), k6, gdn (i := n) (by omega) (by omega), cl (i := n) (by omega), bs_e, va_n (show (30 : Nat) ≠ 19 by omega), va_n (show (30 : Nat) ≠ 17 by omega), k6, p1, bs_e, va_n (show (19 : Nat) ≠ 17 by omega)]
  · have v1 := u3.mo
    have v2 : po (va_up (va_up (va_up q4 19 (upd (q4 19) n r4)) 20 (upd ((va_up q4 19 (upd (q4 19) n r4)) 20) n 0)) 6 (fun _ => nI (n + 1))) = po (va_up q4 19 (upd (q4 19) n r4)) := by
      unfold po
      rw [va_n (by omega), va_n (by omega)]
    omega
  · rw [va_n (by omega), va_n (by omega), va_n (by omega), u3.fz i (by omega), va_n (by omega), fz4 i (by omega), va_n (by omega), fz3 i (by omega), va_n (by omega), fz2 i (by omega), va_n (by omega), fz1 i (by omega), va_n (by omega), fz0 i (by omega)]
  · have g4 := u3.ok g
    rw [va_n (show (3 : Nat) ≠ 6 by omega), va_n (show (3 : Nat) ≠ 20 by omega)] at g4
    obtain ⟨g3, e4, _⟩ := o4 g4
    obtain ⟨g2, e3, _⟩ := o3 g3
    obtain ⟨g1, e2, l2, l2', t2, t2', w2⟩ := o2 g2
    obtain ⟨g0, e1, l1, l1', t1, t1', w1⟩ := o1 g1
    obtain ⟨_, e0, l0, l0', t0, t0', w0⟩ := o0 g0
    have hb1 : ∃ k, k < 2000 ∧ r0 = nI k := ⟨t0, by rw [w0] at l0'; have := (nI_leI (b := 999) (by omega) (by omega)).mp l0'; omega, w0⟩
    have hb2 : ∃ k, k < 2000 ∧ r1 = nI k := ⟨t1, by rw [w1] at l1'; have := (nI_leI (b := 1999) (by omega) (by omega)).mp l1'; omega, w1⟩
    have hb3 : ∃ k, k < 2000 ∧ r2 = nI k := by
      obtain ⟨k, hk, ek⟩ := hb2
      rw [va_s, upd_s, ek, w2] at l2'
      exact ⟨t2, by have := (nI_leI (by omega) (by omega)).mp l2'; omega, w2⟩
    subst e0 e1 e2 e3 e4
    refine ⟨s0, s1, s2, s3, s4, hb1, hb2, hb3, by rw [u3.fp 6 (by omega), va_s], by rw [u3.fp 15 (by omega), va_n (by omega), va_n (by omega), va_n (by omega), fp4 15 (by omega), va_n (by omega), fp3 15 (by omega), va_n (by omega), fp2 15 (by omega), va_n (by omega), fp1 15 (by omega), va_s, fp0 15 (by omega)], by rw [u3.fp 16 (by omega), va_n (by omega), va_n (by omega), va_n (by omega), fp4 16 (by omega), va_n (by omega), fp3 16 (by omega), va_n (by omega), fp2 16 (by omega), va_s, fp1 16 (by omega), va_n (by omega), fp0 16 (by omega)], by rw [u3.fp 17 (by omega), va_n (by omega), va_n (by omega), va_n (by omega), fp4 17 (by omega), va_n (by omega), fp3 17 (by omega), va_s, fp2 17 (by omega), va_n (by omega), fp1 17 (by omega), va_n (by omega), fp0 17 (by omega)], by rw [u3.fp 18 (by omega), va_n (by omega), va_n (by omega), va_n (by omega), fp4 18 (by omega), va_s, fp3 18 (by omega), va_n (by omega), fp2 18 (by omega), va_n (by omega), fp1 18 (by omega), va_n (by omega), fp0 18 (by omega)], by rw [u3.fp 19 (by omega), va_n (by omega), va_n (by omega), va_s, fp4 19 (by omega), va_n (by omega), fp3 19 (by omega), va_n (by omega), fp2 19 (by omega), va_n (by omega), fp1 19 (by omega), va_n (by omega), fp0 19 (by omega)], by rw [u3.fp 20 (by omega), va_n (by omega), va_s, va_n (by omega), fp4 20 (by omega), va_n (by omega), fp3 20 (by omega), va_n (by omega), fp2 20 (by omega), va_n (by omega), fp1 20 (by omega), va_n (by omega), fp0 20 (by omega)], fun i h5 h6 hi => ?_, ?_, ?_, ?_, ?_, fun i hi n1 n2 n3 n4 => ?_⟩
    · rw [u3.fp i h5, va_n h6, va_n (by omega), va_n (by omega), fp4 i h5, va_n (by omega), fp3 i h5, va_n (by omega), fp2 i h5, va_n (by omega), fp1 i h5, va_n (by omega), fp0 i h5]
    · rw [va_n (by omega), va_n (by omega), va_s, u3.fz 17 (by omega), va_s, fz4 17 (by omega), va_n (by omega), fz3 17 (by omega), va_n (by omega), fz2 17 (by omega), va_n (by omega), fz1 17 (by omega), va_n (by omega), fz0 17 (by omega)]
    · rw [va_n (by omega), va_n (by omega), va_n (by omega), u3.fz 18 (by omega), va_n (by omega), fz4 18 (by omega), va_s, fz3 18 (by omega), va_s, fz2 18 (by omega), va_s, fz1 18 (by omega), va_s, fz0 18 (by omega)]
    · rw [va_n (by omega), va_s, u3.fz 19 (by omega), va_n (by omega), fz4 19 (by omega), va_n (by omega), fz3 19 (by omega), va_n (by omega), fz2 19 (by omega), va_n (by omega), fz1 19 (by omega), va_n (by omega), fz0 19 (by omega)]
    · rw [va_s]
    · rw [va_n n4, va_n n3, va_n n1, u3.fz i hi, va_n n1, fz4 i hi, va_n n2, fz3 i hi, va_n n2, fz2 i hi, va_n n2, fz1 i hi, va_n n2, fz0 i hi]
theorem d1_out {n : Nat} {nm nm2 : Nat → Int64} {a6 a15 a16 a17 a18 a20 y18 y19 y22 y30 y31 y22' : Nat → Int32} (h : D1 n nm a6 a15 a16 a17 a18 a20 y18 y19 y22 y30 y31) (hn : n < 12) {r1 r2 r3 r4 : Int32} (b1 : ∃ k, k < 2000 ∧ r1 = nI k) (b2 : ∃ k, k < 2000 ∧ r2 = nI k) (b3 : ∃ k, k < 2000 ∧ r3 = nI k) (hN : NmF (n + 1) nm2 y22') : D1 (n + 1) nm2 (fun _ => nI (n + 1)) (upd a15 n r1) (upd a16 n r2) (upd a17 n r3) (upd a18 n r4) (upd a20 n 0) (upd (upd (upd (upd y18 (4 * n) r1) (4 * n + 1) r2) (4 * n + 2) r3) (4 * n + 3) r4) (upd y19 n 0) y22' (fun _ => nI (n + 1)) y31 := by
  refine ⟨hn, rfl, rfl, fun o ho => ?_, fun o ho => ?_, fun o ho => ?_, fun o ho i h1 h2 => ?_, ?_, hN⟩
  · by_cases c : o = n
    · subst c
      refine ⟨?_, ?_, ?_, ?_⟩
      · rw [upd_n (by omega), upd_n (by omega), upd_n (by omega), upd_s, upd_s]
      · rw [upd_n (by omega), upd_n (by omega), upd_s, upd_s]
      · rw [upd_n (by omega), upd_s, upd_s]
      · rw [upd_s, upd_s]
    · simp (disch := omega) only [upd_n]
      exact h.four o (by omega)
  · by_cases c : o = n
    · subst c
      rw [upd_s, upd_s, upd_s]
      exact ⟨b1, b2, b3⟩
    · rw [upd_n c, upd_n c, upd_n c]
      exact h.rng o (by omega)
  · by_cases c : o = n
    · subst c
      rw [upd_s, upd_s]
    · rw [upd_n c, upd_n c]
      exact h.need o (by omega)
  · by_cases c : o = n
    · subst c
      rw [upd_s]
      exact b_0 i
    · rw [upd_n c]
      exact h.neb o (by omega) i h1 h2
  · obtain ⟨k, q1, q2, q3⟩ := h.many
    refine ⟨k, q1, q2, ?_⟩
    rw [sumf_s, upd_s, ← q3, sumf_g (f := fun o => pop (a20 o)) (fun o ho => by rw [upd_n (by omega)])]
    have hp : pop 0 = 0 := by decide +kernel
    rw [hp, Int32.add_zero]
theorem d2_out {n : Nat} {a7 a8 a9 a10 a11 a19 y : Nat → Int32} (h : D2 n a7 a8 a9 a10 a11 a19 y) (hn : n < 12) (r5 : Int32) : D2 (n + 1) a7 a8 a9 a10 a11 (upd a19 n r5) (upd (upd y (51 + 12 * n) r5) (51 + 12 * n + 1) 1) := by
  obtain ⟨h1, h2, h3, h4, h5, h6, h7, h8, h9, h10⟩ := h
  refine ⟨fun o ho => ?_, fun o ho => ?_, fun i g1 g2 => h3 i (by omega) g2, by rw [upd_n (by omega), upd_n (by omega)]; exact h4, by rw [upd_n (by omega), upd_n (by omega)]; exact h5, by rw [upd_n (by omega), upd_n (by omega)]; exact h6, by rw [upd_n (by omega), upd_n (by omega)]; exact h7, h8, h9, fun i g1 g2 g3 => ?_⟩
  · by_cases c : o = n
    · subst c
      rw [upd_n (by omega), upd_s, upd_s]
    · rw [upd_n (by omega), upd_n (by omega), upd_n c]
      exact h1 o (by omega)
  · by_cases c : o = n
    · subst c
      rw [upd_s, h3 o (Nat.le_refl _) (by omega)]
      rfl
    · rw [upd_n (by omega), upd_n (by omega)]
      exact h2 o (by omega)
  · have := g3 n (by omega)
    rw [upd_n (by omega), upd_n (by omega)]
    exact h10 i g1 g2 (fun o ho => g3 o (by omega))
theorem nmf_out {n L b s : Nat} {nm : Nat → Int64} {f f' : Nat → Int32} {tx z : Nat → Nat → Int32} (hN : NmF n nm f) (ht : Tx L tx z) (hb : b + s ≤ L) (h1 : 1 ≤ s) (h8 : s ≤ 8) (hl : ∀ i, i < s → lett (tx 1 (b + i)) = true) (hc : ∀ i, i < 8 → f' (8 * n + i) = whv (z 16) b (b + s) i) (ho : ∀ j, j < 8 * n → f' j = f j) : NmF (n + 1) (vp_updL nm n (pkn (fun j => tx 1 (b + j)) s)) f' := by
  intro o hon
  by_cases c : o = n
  · subst c
    have hi : ∀ i, i < s → f' (8 * o + i) = tx 1 (b + i) := by
      intro i hi
      rw [hc i (by omega)]
      unfold whv
      rw [if_pos (by omega), (ht.ch (b + i) (by omega)).1, (lett_255 (ht.ch (b + i) (by omega)).2).2 (hl i hi)]
    refine ⟨s, h1, h8, ?_, fun i h => ?_, fun i g1 g2 => ?_⟩
    · rw [updL_s]
      exact pkn_c s (fun i h => (hi i h).symm)
    · rw [hi i h]
      exact lett_i.mp (hl i h)
    · rw [hc i g2]
      unfold whv
      exact if_neg (by omega)
  · obtain ⟨k, k0, k8, e1, e2, e3⟩ := hN o (by omega)
    refine ⟨k, k0, k8, ?_, fun i h => ?_, fun i g1 g2 => ?_⟩
    · rw [updL_n c, e1]
      exact pkn_c k (fun i h => (ho _ (by omega)).symm)
    · rw [ho _ (by omega)]
      exact e2 i h
    · rw [ho _ (by omega)]
      exact e3 i g1 g2
theorem outlet_e {L n : Nat} {tx ps z : Nat → Nat → Int32} {nm : Nat → Int64} (h : Rd L tx ps z) (e : ps 3 0 = 0) (h0 : ps 0 0 ≠ 0) (hd : Dr n nm ps z) : ∃ (n2 : Nat) (ps1 : Nat → Nat → Int32) (nm2 : Nat → Int64) (ps2 z2 : Nat → Nat → Int32), qX4_readOutlet tx ps nm = some (ps1, nm2) ∧ qX4_readSemicolon tx ps1 nm2 = some ps2 ∧ qX11_outletLine z = some z2 ∧ Rr n2 nm2 L tx ps z ps2 z2 := by
  have e2 : z 28 0 = 0 := by rw [← h.err]; exact e
  have hn := hd.d1.n12
  unfold qX4_readOutlet qX11_outletLine
  rw [jn_e, jn_e, hd.d1.p6, hd.d1.z30, if_neg (nI_pos (show n < 2 ^ 31 by omega))]
  by_cases c : n < 12
  · obtain ⟨ps2, z2, a1, a2, a3, a4, a5, a6⟩ := adv_e (nm := nm) h e
    have hm := a6 h0
    have d := dr_c hd a3.fp a3.fz
    have hz2 : z2 30 0 = nI n := d.d1.z30
    rw [if_pos (show nI n < (12 : Int32) from (nI_ltI (b := 12) (by omega) (by omega)).mpr c), if_neg (show ¬ nI n = 12 from fun g => by have := nI_inj (b := 12) (by omega) (by omega) g; omega), a1, bd_s]
    dsimp only
    rw [wrong0 e2, bd_s, if_pos rfl, a2, bd_s]
    have hbad : ∀ (ps4 z4 : Nat → Nat → Int32) (r : Int64), Stq L tx ps2 z2 ps4 z4 → ps4 3 0 ≠ 0 → ∃ (ps1 : Nat → Nat → Int32) (nm2 : Nat → Int64) (psb zb : Nat → Nat → Int32), (gd (vp_in (nI n) 12) (bs (vp_updL nm (nI n).toNatClampNeg r) fun nm_5 => bd2 (qX4_readNumber tx ps4 nm_5 0 999) fun r_6 ps_7 => gd (vp_in (nI n) 12) (bs (va_up ps_7 15 (upd (ps_7 15) (nI n).toNatClampNeg r_6)) fun ps_8 => gd (vp_in (nI n) 12) (bd2 (qX4_readNumber tx ps_8 nm_5 ((ps_8 15) (nI n).toNatClampNeg) 1999) fun r_9 ps_10 => gd (vp_in (nI n) 12) (bs (va_up ps_10 16 (upd (ps_10 16) (nI n).toNatClampNeg r_9)) fun ps_11 => gd (vp_in (nI n) 12) (gd (vp_in (nI n) 12) (bd2 (qX4_readNumber tx ps_11 nm_5 ((ps_11 15) (nI n).toNatClampNeg) ((ps_11 16) (nI n).toNatClampNeg)) fun r_12 ps_13 => gd (vp_in (nI n) 12) (bs (va_up ps_13 17 (upd (ps_13 17) (nI n).toNatClampNeg r_12)) fun ps_14 => bd2 (qX4_readNumber tx ps_14 nm_5 1 20) fun r_15 ps_16 => gd (vp_in (nI n) 12) (bs (va_up ps_16 18 (upd (ps_16 18) (nI n).toNatClampNeg r_15)) fun ps_17 => bd2 (qX4_readNumber tx ps_17 nm_5 0 9) fun r_18 ps_19 => gd (vp_in (nI n) 12) (bs (va_up ps_19 19 (upd (ps_19 19) (nI n).toNatClampNeg r_18)) fun ps_20 => gd (vp_in (nI n) 12) (bs (va_up ps_20 20 (upd (ps_20 20) (nI n).toNatClampNeg 0)) fun ps_21 => (bs (va_up ps_21 6 (fun _ => (nI n + 1))) fun ps_22 => some (ps_22, nm_5))))))))))))) = some (ps1, nm2) ∧ qX4_readSemicolon tx ps1 nm2 = some psb ∧ some z4 = some zb ∧ Rr n nm2 L tx ps z psb zb := by
      intro ps4 z4 r hs hw
      rw [gdn (i := n) (by omega) (by omega), bs_e]
      obtain ⟨psT, t1, t2⟩ := tail_w (tx := tx) (ps := ps4) (nm_5 := vp_updL nm (nI n).toNatClampNeg r) c hw
      have hw2 : ¬ psT 3 0 = 0 := by rw [t2 3 (by omega)]; exact hw
      exact ⟨psT, _, psT, z4, t1, semC_w hw2, rfl, rd_c hs.rd t2 (fun _ _ => rfl), fun g => absurd g hw2, fun g => absurd g hw2, fun i hi => by rw [hs.fz i (by omega), a3.fz i (by omega)]⟩
    rcases newn_e (nm := nm) a3.rd a4 hn d.d1.p6 d.d1.z30 d.d1.name with ⟨r, ps4, r4, z4, b1, b2, b3, b4, b5⟩ | ⟨o, r, ps4, z4, ho, b1, b2, b3, b4, b5, b6, b7⟩ | ⟨b, s, q, b1, b2, b3, b4, b5, b6⟩
    · rw [b1, bd2_s, b2, bd2_s, wrong1 b5, bd_s, jn_e, if_neg (show ¬ (1 : Int32) = 0 by decide)]
      dsimp only
      rw [wrong1 b5, bd_s, if_neg (show ¬ (1 : Int32) = 0 by decide)]
      obtain ⟨x1, x2, x3, x4, x5⟩ := hbad ps4 z4 r b3 b4
      exact ⟨n, x1, x2, x3, x4, x5⟩
    · rw [b1, bd2_s, b2, bd2_s, wrong0 b4, bd_s, jn_e, if_pos rfl, if_neg (nIm1 (show o < 2147483648 by omega)), b3, bd_s]
      dsimp only
      rw [wrong1 b7, bd_s, if_neg (show ¬ (1 : Int32) = 0 by decide)]
      obtain ⟨x1, x2, x3, x4, x5⟩ := hbad ps4 z4 r b5 b6
      exact ⟨n, x1, x2, x3, x4, x5⟩
    · have h9 := h.te.l9
      have hbs := q.bs
      obtain ⟨zN, w1, w2, w3, w4⟩ := cpN_e (b := b) (s := s) a3.rd.te c (by omega) q.z26 q.z25 hz2 (fun (z_11 : Nat → Nat → Int32) => bd (qX11_token z_11) fun z_14 => bd2 (qX11_figure z_14 0 999) fun r_15 z_16 => gd (vp_in (4 * (z_14 30 0)) 48) (bs (va_up z_16 18 (upd (z_16 18) (4 * (z_14 30 0)).toNatClampNeg r_15)) fun z_17 => gd (vp_in (4 * (z_14 30 0)) 48) (bd2 (qX11_figure z_17 ((z_17 18) (4 * (z_14 30 0)).toNatClampNeg) 1999) fun r_18 z_19 => gd (vp_in ((4 * (z_14 30 0)) + 1) 48) (bs (va_up z_19 18 (upd (z_19 18) ((4 * (z_14 30 0)) + 1).toNatClampNeg r_18)) fun z_20 => gd (vp_in (4 * (z_14 30 0)) 48) (gd (vp_in ((4 * (z_14 30 0)) + 1) 48) (bd2 (qX11_figure z_20 ((z_20 18) (4 * (z_14 30 0)).toNatClampNeg) ((z_20 18) ((4 * (z_14 30 0)) + 1).toNatClampNeg)) fun r_21 z_22 => gd (vp_in ((4 * (z_14 30 0)) + 2) 48) (bs (va_up z_22 18 (upd (z_22 18) ((4 * (z_14 30 0)) + 2).toNatClampNeg r_21)) fun z_23 => bd2 (qX11_figure z_23 1 20) fun r_24 z_25 => gd (vp_in ((4 * (z_14 30 0)) + 3) 48) (bs (va_up z_25 18 (upd (z_25 18) ((4 * (z_14 30 0)) + 3).toNatClampNeg r_24)) fun z_26 => bd (qX11_at (z_26 30 0) 0) fun r_27 => bd2 (qX11_figure z_26 0 9) fun r_28 z_29 => gd (vp_in r_27 411) (bs (va_up z_29 17 (upd (z_29 17) r_27.toNatClampNeg r_28)) fun z_30 => bd (qX11_semicolon z_30) fun z_31 => bd (qX11_at (z_31 30 0) 1) fun r_32 => gd (vp_in r_32 411) (bs (va_up z_31 17 (upd (z_31 17) r_32.toNatClampNeg 1)) fun z_33 => gd (vp_in (z_33 30 0) 12) (bs (va_up z_33 19 (upd (z_33 19) (z_33 30 0).toNatClampNeg 0)) fun z_34 => (bs (va_up z_34 30 (fun _ => ((z_34 30 0) + 1))) fun z_35 => some z_35))))))))))))
      have hrd : Rd L tx ps2 zN := rd_c a3.rd (fun _ _ => rfl) (fun i hi => w2 i (by omega))
      obtain ⟨ps4, z4, c1, c2, c3, c4, c5, _⟩ := adv_e (nm := nm) hrd a4
      obtain ⟨ps5, ps6, z6, t1, t2, t3, t4, t5, t6, t7⟩ := tail_e (nm_5 := vp_updL nm (nI n).toNatClampNeg (pkn (fun j => tx 1 (b + j)) s)) c3.rd c (by rw [c3.fz 30 (by omega), w2 30 (by omega)]; exact hz2)
      rw [b4, c1, bd_s, bd2_s, gdn (i := n) (by omega) (by omega), bs_e, b5, bd2_s, wrong0 b6, bd_s, jn_e, if_pos rfl, if_pos rfl]
      dsimp only
      rw [wrong0 b6, bd_s, if_pos rfl, w1, c2, bd_s, t1, t3]
      refine ⟨n + 1, ps5, _, ps6, z6, rfl, t2, rfl, t4, fun g => ?_, fun _ => by have := c3.mo; omega, fun i hi => by rw [t6 i hi, c3.fz i (by omega), w2 i (by omega), a3.fz i (by omega)]⟩
      obtain ⟨r1, r2, r3, r4, r5, k1, k2, k3, k4, k5, k6, k7, k8, k9, k10, k11, k12, k13, k14, k15, k16⟩ := t7 g
      have fz : ∀ i, i < 25 ∨ 29 < i → i ≠ 22 → z4 i = z2 i := fun i hi h22 => by rw [c3.fz i hi, w2 i h22]
      rw [cl (by omega)]
      refine ⟨?_, ?_, ?_, ?_, ?_⟩
      · rw [k4, k5, k6, k7, k8, k10, k13, k14, k15, k16 22 (by omega) (by omega) (by omega) (by omega) (by omega), k16 31 (by omega) (by omega) (by omega) (by omega) (by omega), c3.fp 15 (by omega), c3.fp 16 (by omega), c3.fp 17 (by omega), c3.fp 18 (by omega), c3.fp 20 (by omega), fz 18 (by omega) (by omega), fz 19 (by omega) (by omega), fz 31 (by omega) (by omega), c3.fz 22 (by omega)]
        exact d1_out d.d1 c k1 k2 k3 (nmf_out d.d1.name a3.rd.te hbs b2 b1 b3 w3 w4)
      · rw [k9, k12, k11 7 (by omega) (by omega) (by omega), k11 8 (by omega) (by omega) (by omega), k11 9 (by omega) (by omega) (by omega), k11 10 (by omega) (by omega) (by omega), k11 11 (by omega) (by omega) (by omega), c3.fp 7 (by omega), c3.fp 8 (by omega), c3.fp 9 (by omega), c3.fp 10 (by omega), c3.fp 11 (by omega), c3.fp 19 (by omega), fz 17 (by omega) (by omega)]
        exact d2_out d.d2 c r5
      · rw [k11 12 (by omega) (by omega) (by omega), k11 13 (by omega) (by omega) (by omega), k16 20 (by omega) (by omega) (by omega) (by omega) (by omega), k16 32 (by omega) (by omega) (by omega) (by omega) (by omega), c3.fp 12 (by omega), c3.fp 13 (by omega), fz 20 (by omega) (by omega), fz 32 (by omega) (by omega)]
        exact d.d3
      · rw [k11 14 (by omega) (by omega) (by omega), k11 21 (by omega) (by omega) (by omega), k11 22 (by omega) (by omega) (by omega), k16 21 (by omega) (by omega) (by omega) (by omega) (by omega), k16 33 (by omega) (by omega) (by omega) (by omega) (by omega), c3.fp 14 (by omega), c3.fp 21 (by omega), c3.fp 22 (by omega), fz 21 (by omega) (by omega), fz 33 (by omega) (by omega)]
        exact d.d4
      · rw [k11 5 (by omega) (by omega) (by omega), k16 34 (by omega) (by omega) (by omega) (by omega) (by omega), c3.fp 5 (by omega), fz 34 (by omega) (by omega)]
        exact d.d5
  · obtain ⟨ps2, z2, a1, a2, a3, a4, a5⟩ := stop_e (nm := nm) h 5 (by decide)
    have hn12 : n = 12 := by omega
    subst hn12
    rw [if_neg (show ¬ nI 12 < (12 : Int32) by decide), a1, bd_s, if_pos (show nI 12 = 12 from rfl), a2, bd_s]
    dsimp only
    rw [wrong1 a5, bd_s, if_neg (show ¬ (1 : Int32) = 0 by decide)]
    exact ⟨12, ps2, nm, ps2, z2, rfl, semC_w a4, rfl, a3.rd, fun g => absurd g a4, fun g => absurd g a4, fun i hi => a3.fz i (by omega)⟩
