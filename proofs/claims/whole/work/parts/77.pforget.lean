-- forget, run
theorem st_forget : St_forget Sim := by
  intro tx ps nm v vn hs ww z ⟨n, h⟩
  have h0 := smn_0 h
  have hz := z0_0 z
  have hp := h0.pl
  have hn := hp.hn
  have hzz : va_up z 0 (fun _ => 0) = z0 z := rfl
  obtain ⟨hs2, ww2, z2, q1, q2, q3, q4, q5⟩ := keep_e h0
  have hz2 : z2 0 0 = 0 := by rw [q3 0 (by omega) (by omega)]; exact hz
  have hp2 := q5.pl
  obtain ⟨t, f, y0, ht, s, c, p, l, hE, hI, hs72, hpk⟩ := q5.now.ex
  have hpp := hI.ordP.pn
  have hll := hI.ordL.pn
  unfold qX11_forget qX10_forget
  rw [bs_e, hzz, q1, bd2_s, q2, bd_s, bitc_e _ (fun i h1 h2 => hI.kn i (by omega) h2), bd_s, forgetL_e, bd_s, bs_e, forgets_e, bd2_s, bs_e]
  have hN : fgN (z2 10) = lfold (fun k y => y + b01 (ww2 0 21 0) k) 0 12 0 := by
    unfold fgN
    refine lfold_cong 12 0 0 (fun i y _ hi => ?_)
    show y + z2 10 (51 + 12 * i + 11) = y + b01 (ww2 0 21 0) i
    by_cases e : i < n
    · rw [hE.known i e]
    · rw [hE.knz i (by omega) (by omega), b01_0.mpr (hI.kn i (by omega) (by omega))]
  exact ⟨_, _, _, _, _, rfl, rfl, hN.symm, n, smn_n q5 ⟨t, f, y0, ht, s, c, p, 0, fg_ev hp2 hE hn (by omega) (by omega), fg_iv hI, hs72, hpk⟩⟩
theorem lfold_add {σ : Type} (F : Nat → σ → σ) : ∀ (a b k : Nat) (x : σ), lfold F k (a + b) x = lfold F (k + a) b (lfold F k a x)
  | 0, b, k, x => by rw [Nat.zero_add]; rfl
  | a + 1, b, k, x => by
    rw [show a + 1 + b = (a + b) + 1 by omega]
    show lfold F (k + 1) (a + b) (F k x) = _
    rw [lfold_add F a b (k + 1) (F k x), show k + 1 + a = k + (a + 1) by omega]
    rfl
theorem lfold_id {σ : Type} {F : Nat → σ → σ} : ∀ (b k : Nat) (x : σ), (∀ i x, k ≤ i → i < k + b → F i x = x) → lfold F k b x = x
  | 0, _, _, _ => rfl
  | b + 1, k, x, h => by
    show lfold F (k + 1) b (F k x) = x
    rw [h k x (by omega) (by omega)]
    exact lfold_id b (k + 1) x (fun i x h1 h2 => h i x (by omega) (by omega))
theorem count_e {n : Nat} (h12 : n ≤ 12) (P : Nat → Bool) : qJ6_bitCount_0f7a4 (bset n P) = some (lfold (fun k y => y + (if P k = true then 1 else 0)) 0 n 0) := by
  rw [bitc_e _ (fun i h1 h2 => by rw [bset_bt h12 _ h2, decide_eq_false (by omega), Bool.false_and])]
  refine congrArg some ?_
  obtain ⟨d, hd⟩ : ∃ d, 12 = n + d := ⟨12 - n, by omega⟩
  rw [hd, lfold_add, lfold_id]
  · refine lfold_cong n 0 0 (fun i y _ hi => ?_)
    show y + b01 (bset n P) i = y + _
    unfold b01
    rw [bset_bt h12 _ (by omega), decide_eq_true (by omega), Bool.true_and]
  · intro i y h1 h2
    show y + b01 (bset n P) i = y
    rw [b01_0.mpr (by rw [bset_bt h12 _ (by omega), decide_eq_false (by omega), Bool.false_and]), Int32.add_zero]
theorem runL_e {v : Nat → Nat → Int32} {z : Nat → Nat → Int32} {w : Nat → Nat → Int32} {n : Nat} {t : Nat} {s : Nat} {c : Nat} {p : Nat} {l : Nat} {f : Nat} {pk : Int32 × Int32} (hp : Pl v z n) (h : Ev v n t s c p l f pk w (z 10)) (K : Int32 → Option (Int32 × (Nat → Nat → Int32))) : qX11_run_L81 z K fu 0 0 = K (lfold (fun k y => y + (if decide (w 11 k = 3) = true then 1 else 0)) 0 n 0) := by
  have hn := hp.hn
  refine lp (L := fun g i y => qX11_run_L81 z K g y i) (N := n) (K := K) (fun _ _ => True) ?_ ?_ n fu 0 0 (by omega) (by unfold fu; omega) trivial
  · intro g k y hk _
    refine ⟨?_, trivial⟩
    show qX11_run_L81 z K (g + 1) y (nI k) = qX11_run_L81 z K g _ (nI (k + 1))
    rw [qX11_run_L81, hp.z1, if_neg (nle hk (by omega)), ag2, bd_s, gdn (by omega) (by omega), cl (by omega), ← h.how k hk, jn_e, p1]
    by_cases e : w 11 k = 3
    · rw [if_pos e, if_pos (show decide (w 11 k = 3) = true from decide_eq_true e)]
    · rw [if_neg e, if_neg (show ¬ decide (w 11 k = 3) = true by rw [decide_eq_false e]; exact Bool.false_ne_true)]
  · intro g y _
    show qX11_run_L81 z K (g + 1) y (nI n) = _
    rw [qX11_run_L81, hp.z1, if_pos (Int32.le_refl _)]
