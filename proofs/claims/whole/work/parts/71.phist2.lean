-- the history: a state is kept
theorem keep_e {v : Nat → Nat → Int32} {z : Nat → Nat → Int32} {n : Nat} {tx ps hs : Nat → Nat → Int32} {vn : Nat → Int64} {ww : Nat → Nat → Nat → Int32} (h : Smn n tx ps v vn hs ww z) : ∃ (hs2 : Nat → Nat → Int32) (ww2 : Nat → Nat → Nat → Int32) (z2 : Nat → Nat → Int32), qX0_keep hs ww = some (hs2, ww2) ∧ qX11_keeps z = some z2 ∧ (∀ i, i ≠ 12 → i ≠ 15 → z2 i = z i) ∧ ww2 0 = ww 0 ∧ Smn n tx ps v vn hs2 ww2 z2 := by
  obtain ⟨o, c, ho, hc, e0, e1, e2, hk⟩ := h.his.ring
  have hpl := h.pl
  have hidx : ((hs 0 0 + hs 1 0) &&& 7) = nI ((o + c) % 8) := by rw [e0, e1, nI_add, and7 _ (by omega)]
  have hlt : (o + c) % 8 < 8 := Nat.mod_lt _ (by omega)
  have hW : ∀ u, qX10_copyState (ww 0) (ww ((o + c) % 8 + 2)) = some u → qX0_keep hs ww = if c = 8 then some (va_up hs 0 (fun _ => nI ((o + 1) % 8)), va_up ww ((o + c) % 8 + 2) u) else some (va_up hs 1 (fun _ => nI (c + 1)), va_up ww ((o + c) % 8 + 2) u) := by
    intro u hu
    unfold qX0_keep
    rw [hidx, gdn (by omega) (by omega), cl (by omega), hu, bd_s, bs_e, bs_e, bs_e, e1, e0, p1, and7 _ (by omega), p1]
    by_cases c8 : c = 8
    · rw [if_pos (show (8 : Int32) ≤ nI c from nI_le (a := 8) (by omega) (by omega)), if_pos c8]
    · rw [if_neg (show ¬ (8 : Int32) ≤ nI c from nle (a := 8) (by omega) (by omega)), if_neg c8]
  have hfl : ∀ (hs2 : Nat → Nat → Int32) (ww2 : Nat → Nat → Nat → Int32) (z2 : Nat → Nat → Int32), (∀ i, i ≠ 12 → i ≠ 15 → z2 i = z i) → (∀ i, i < 2 ∨ 10 ≤ i → ww2 i = ww i) → hs2 2 = hs 2 → (∃ o h, o < 8 ∧ h ≤ 8 ∧ hs2 0 0 = nI o ∧ hs2 1 0 = nI h ∧ z2 15 0 = nI h ∧ ∀ k, k < h → Now v n (ww2 ((o + k) % 8 + 2)) (fun i => z2 12 (411 * k + i))) → Smn n tx ps v vn hs2 ww2 z2 := by
    intro hs2 ww2 z2 a1 a2 a3 a4
    obtain ⟨h1, h2, h3, h4, h5, h6, h7⟩ := h
    refine ⟨pl_c h1 (fun i b1 b2 => a1 i (by omega) (by omega)), ?_, ⟨a4, ?_, ?_⟩, ?_, ?_, ?_, ?_⟩
    · rw [a1 10 (by omega) (by omega), a2 0 (by omega)]
      exact h2
    · rw [a1 14 (by omega) (by omega), a3]
      exact h3.flag
    · rw [a1 13 (by omega) (by omega), a3]
      intro k hk hb
      rw [a2 _ (by omega)]
      exact h3.slot k hk hb
    · unfold Txt at h4 ⊢
      rw [a1 23 (by omega) (by omega), a1 16 (by omega) (by omega)]
      exact h4
    · unfold Nam at h5 ⊢
      rw [a1 9 (by omega) (by omega)]
      exact h5
    · rw [a1 28 (by omega) (by omega)]
      exact h6
    · rw [a1 29 (by omega) (by omega)]
      exact h7
  by_cases c8 : c = 8
  · subst c8
    have hz7 : (va_up z 15 (fun _ => nI 7)) 15 0 = nI 7 := by rw [va_s]
    obtain ⟨z3, s1, s2, s3⟩ := shift_e hz7 (fun (z_10 : Nat → Nat → Int32) => qX11_keeps_L57 (fun (z_4 : Nat → Nat → Int32) => (bs (va_up z_4 15 (fun _ => ((z_4 15 0) + 1))) fun z_6 => some z_6)) fu 0 z_10)
    obtain ⟨z4, t1, t2, t3, t4⟩ := lay_e (m := 7) (z := z3) (by omega) (by rw [s2 15 (by omega)]; exact hz7) (fun (z_4 : Nat → Nat → Int32) => (bs (va_up z_4 15 (fun _ => ((z_4 15 0) + 1))) fun z_6 => some z_6))
    obtain ⟨u, u1, u2⟩ := now_copy (w2 := ww ((o + 8) % 8 + 2)) (r2 := fun i => z4 12 (411 * 7 + i)) h.now (fun i hi => by rw [t3 i hi, s2 10 (by omega), va_n (by omega)])
    have h15 : z4 15 0 = nI 7 := by rw [t2 15 (by omega), s2 15 (by omega)]; exact hz7
    have hR : qX11_keeps z = some (va_up z4 15 (fun _ => nI 8)) := by
      unfold qX11_keeps
      rw [jn_e, e2, if_pos (show nI 8 = 8 from rfl), bs_e, show nI 8 - 1 = nI 7 from rfl]
      refine s1.trans ?_
      refine t1.trans ?_
      rw [bs_e, h15]
      rfl
    refine ⟨_, _, _, (hW u u1).trans (if_pos rfl), hR, fun i a b => ?_, by rw [va_n (by omega)], hfl _ _ _ (fun i a b => ?_) (fun i hi => by rw [va_n (by omega)]) (by rw [va_n (by omega)]) ⟨(o + 1) % 8, 8, by omega, by omega, by rw [va_s], by rw [va_n (by omega), e1], by rw [va_s], fun k hk8 => ?_⟩⟩
    · rw [va_n b, t2 i a, s2 i a, va_n b]
    · rw [va_n b, t2 i a, s2 i a, va_n b]
    · by_cases k7 : k = 7
      · subst k7
        rw [show ((o + 1) % 8 + 7) % 8 = (o + 8) % 8 by omega, va_s, va_n (by omega)]
        exact u2
      · rw [va_n (show ((o + 1) % 8 + k) % 8 + 2 ≠ (o + 8) % 8 + 2 by omega), show ((o + 1) % 8 + k) % 8 = (o + (k + 1)) % 8 by omega]
        refine now_c (hk (k + 1) (by omega)) (fun i hi => ?_)
        rw [va_n (by omega), t4 _ (by omega), s3 _ (by omega), va_n (by omega)]
        congr 1
        omega
  · obtain ⟨z4, t1, t2, t3, t4⟩ := lay_e (m := c) (z := z) (by omega) e2 (fun (z_4 : Nat → Nat → Int32) => (bs (va_up z_4 15 (fun _ => ((z_4 15 0) + 1))) fun z_6 => some z_6))
    obtain ⟨u, u1, u2⟩ := now_copy (w2 := ww ((o + c) % 8 + 2)) (r2 := fun i => z4 12 (411 * c + i)) h.now (fun i hi => t3 i hi)
    have h15 : z4 15 0 = nI c := by rw [t2 15 (by omega)]; exact e2
    have hR : qX11_keeps z = some (va_up z4 15 (fun _ => nI (c + 1))) := by
      unfold qX11_keeps
      rw [jn_e, e2, if_neg (show ¬ nI c = 8 from nI_ne (b := 8) c8 (by omega) (by omega))]
      refine t1.trans ?_
      rw [bs_e, h15, p1]
    refine ⟨_, _, _, (hW u u1).trans (if_neg c8), hR, fun i a b => ?_, by rw [va_n (by omega)], hfl _ _ _ (fun i a b => ?_) (fun i hi => by rw [va_n (by omega)]) (by rw [va_n (by omega)]) ⟨o, c + 1, by omega, by omega, by rw [va_n (by omega), e0], by rw [va_s], by rw [va_s], fun k hk8 => ?_⟩⟩
    · rw [va_n b, t2 i a]
    · rw [va_n b, t2 i a]
    · by_cases kc : k = c
      · subst kc
        rw [va_s, va_n (by omega)]
        exact u2
      · rw [va_n (show (o + k) % 8 + 2 ≠ (o + c) % 8 + 2 by omega)]
        refine now_c (hk k (by omega)) (fun i hi => ?_)
        rw [va_n (by omega), t4 _ (by omega)]
