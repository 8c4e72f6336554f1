-- bytes; append
def byt (u : Int32) : Int32 := vp_nar .byte (u.toInt8.toInt32)
theorem byt_b (u : Int32) {i : Nat} (hi : i < 8) : bt (byt u) i = bt u i := by
  have h8 : i < 8 := hi
  have h32 : i < 32 := by omega
  unfold bt
  show ((((u.toBitVec.signExtend 8).signExtend 32).signExtend 8).signExtend 32).getLsbD i = _
  simp only [BitVec.getLsbD_signExtend, h8, h32, decide_true, Bool.true_and, if_true]
theorem and_255 {x y : Int32} (h : ∀ i, i < 8 → bt x i = bt y i) : x &&& 255 = y &&& 255 := by
  apply b_ext
  intro i hi
  rw [b_and, b_and, b_255]
  by_cases e : i < 8
  · rw [h i e]
  · rw [decide_eq_false e, Bool.and_false, Bool.and_false]
theorem byt_255 (u : Int32) : u &&& 255 = byt u &&& 255 := and_255 (fun i hi => (byt_b u hi).symm)
theorem byt_r (u : Int32) : -128 ≤ (byt u).toInt ∧ (byt u).toInt < 128 := by
  have e : (byt u).toInt = (u.toInt8.toInt32).toInt8.toInt := Int8.toInt_toInt32 _
  rw [e]
  have h1 := Int8.le_toInt (u.toInt8.toInt32).toInt8
  have h2 := Int8.toInt_lt (u.toInt8.toInt32).toInt8
  omega
def addB (tx : Nat → Nat → Int32) (L : Nat) (u : Int32) : Nat → Nat → Int32 := va_up (va_up tx 1 (upd (tx 1) L (byt u))) 0 (fun _ => nI (L + 1))
theorem addB_0 (tx : Nat → Nat → Int32) (L : Nat) (u : Int32) : addB tx L u 0 0 = nI (L + 1) := rfl
theorem addB_1 (tx : Nat → Nat → Int32) (L : Nat) (u : Int32) : addB tx L u 1 = upd (tx 1) L (byt u) := by
  unfold addB
  rw [va_n (by omega), va_s]
theorem addS_e {tx : Nat → Nat → Int32} {L : Nat} (x : Int32) (K : (Nat → Nat → Int32) → Option (Nat → Nat → Int32)) (g : Nat) (sh : Int32) (hL : tx 0 0 = nI L) (h : L < 900) (hs : ¬ sh < 0) : qX6_addBytes_L3 x K (g + 1) sh tx = qX6_addBytes_L3 x K g (sh + (-8)) (addB tx L (x >>> (sh &&& 31))) := by
  rw [qX6_addBytes_L3, if_neg hs, hL, if_neg (show ¬ (900 : Int32) ≤ nI L from nle (a := 900) (by omega) (by omega)), gdn (by omega) (by omega), cl (by omega), bs_e, bs_e, va_n (show (0 : Nat) ≠ 1 by omega), hL, p1]
  rfl
theorem addR_e {tx : Nat → Nat → Int32} {L : Nat} (x : Int32) (hL : tx 0 0 = nI L) (h : L + 4 ≤ 900) : ∃ tx2 : Nat → Nat → Int32, qX6_addBytes tx x = some tx2 ∧ tx2 0 0 = nI (L + 4) ∧ (∀ i, i < L → tx2 1 i = tx 1 i) ∧ ∀ k, k < 4 → tx2 1 (L + k) = byt (x >>> (nI (24 - 8 * k) &&& 31)) := by
  refine ⟨addB (addB (addB (addB tx L (x >>> (24 &&& 31))) (L + 1) (x >>> (16 &&& 31))) (L + 1 + 1) (x >>> (8 &&& 31))) (L + 1 + 1 + 1) (x >>> (0 &&& 31)), ?_, rfl, ?_, ?_⟩
  · unfold qX6_addBytes
    rw [show fu = 3995 + 1 + 1 + 1 + 1 + 1 from rfl, addS_e x _ _ 24 hL (by omega) (by decide), show (24 : Int32) + (-8) = 16 from rfl, addS_e x _ _ 16 (addB_0 _ _ _) (by omega) (by decide), show (16 : Int32) + (-8) = 8 from rfl, addS_e x _ _ 8 (addB_0 _ _ _) (by omega) (by decide), show (8 : Int32) + (-8) = 0 from rfl, addS_e x _ _ 0 (addB_0 _ _ _) (by omega) (by decide), qX6_addBytes_L3, if_pos (show (0 : Int32) + (-8) < 0 by decide)]
  · intro i hi
    rw [addB_1, addB_1, addB_1, addB_1, upd_n (by omega), upd_n (by omega), upd_n (by omega), upd_n (by omega)]
  · intro k hk
    rw [addB_1, addB_1, addB_1, addB_1]
    rcases (show k = 0 ∨ k = 1 ∨ k = 2 ∨ k = 3 by omega) with e | e | e | e
    · subst e
      rw [upd_n (by omega), upd_n (by omega), upd_n (by omega)]
      exact upd_s _ _ _
    · subst e
      rw [upd_n (by omega), upd_n (by omega)]
      exact upd_s _ _ _
    · subst e
      rw [upd_n (by omega)]
      exact upd_s _ _ _
    · subst e
      exact upd_s _ _ _
def wd5 (a b c d e : Int32) (k : Nat) : Int32 := if k < 4 then a else if k < 8 then b else if k < 12 then c else if k < 16 then d else e
theorem wd5_e {α : Type} (j : Int32 → α) (a b c d e : Int32) {k : Nat} (hk : k < 20) : (if 4 ≤ nI k then if 8 ≤ nI k then if 12 ≤ nI k then if 16 ≤ nI k then j e else j d else j c else j b else j a) = j (wd5 a b c d e k) := by
  unfold wd5
  have g : ∀ m, m < 20 → (nI m ≤ nI k ↔ ¬ k < m) := fun m hm => by rw [nI_leI (by omega) (by omega)]; omega
  have h4 := g 4 (by omega)
  have h8 := g 8 (by omega)
  have h12 := g 12 (by omega)
  have h16 := g 16 (by omega)
  by_cases c4 : k < 4
  · rw [if_pos c4, if_neg (show ¬ (4 : Int32) ≤ nI k from fun h => h4.mp h c4)]
  · rw [if_neg c4, if_pos (show (4 : Int32) ≤ nI k from h4.mpr c4)]
    by_cases c8 : k < 8
    · rw [if_pos c8, if_neg (show ¬ (8 : Int32) ≤ nI k from fun h => h8.mp h c8)]
    · rw [if_neg c8, if_pos (show (8 : Int32) ≤ nI k from h8.mpr c8)]
      by_cases c12 : k < 12
      · rw [if_pos c12, if_neg (show ¬ (12 : Int32) ≤ nI k from fun h => h12.mp h c12)]
      · rw [if_neg c12, if_pos (show (12 : Int32) ≤ nI k from h12.mpr c12)]
        by_cases c16 : k < 16
        · rw [if_pos c16, if_neg (show ¬ (16 : Int32) ≤ nI k from fun h => h16.mp h c16)]
        · rw [if_neg c16, if_pos (show (16 : Int32) ≤ nI k from h16.mpr c16)]
theorem sh20 : ∀ k, k < 20 → (24 : Int32) - (8 * (nI k - nI k / 4 * 4)) = nI (24 - 8 * (k % 4)) := by decide +kernel
def apV (a b c d e : Int32) (k : Nat) : Int32 := wd5 a b c d e k >>> (nI (24 - 8 * (k % 4)) &&& 31)
theorem appL_e {z : Nat → Nat → Int32} {L : Nat} (a b c d e : Int32) (K : (Nat → Nat → Int32) → Option (Int32 × (Nat → Nat → Int32))) (hz : z 23 0 = nI L) (hL : L + 20 ≤ 900) : ∃ z2 : Nat → Nat → Int32, qX11_append_L36 a b c d e K fu 0 z = K z2 ∧ (∀ i, i ≠ 16 → z2 i = z i) ∧ (∀ i, i < L → z2 16 i = z 16 i) ∧ ∀ k, k < 20 → z2 16 (L + k) = apV a b c d e k &&& 255 := by
  have key := lp (L := fun g i s => qX11_append_L36 a b c d e K g i s) (N := 20) (K := K) (f := fun k s => va_up s 16 (upd (s 16) (L + k) (apV a b c d e k &&& 255))) (fun _ s => s 23 0 = nI L) (by
    intro g k s hk hs
    refine ⟨?_, by rw [va_n (by omega)]; exact hs⟩
    show qX11_append_L36 a b c d e K (g + 1) (nI k) s = qX11_append_L36 a b c d e K g (nI (k + 1)) _
    rw [qX11_append_L36, if_neg (show ¬ (20 : Int32) ≤ nI k from nle (a := 20) (by omega) (by omega)), jn_e]
    refine (wd5_e (fun (y_13 : Int32) => gd (vp_in ((s 23 0) + nI k) 900) (bs (va_up s 16 (upd (s 16) ((s 23 0) + nI k).toNatClampNeg ((y_13 >>> ((24 - (8 * (nI k - nI k / 4 * 4))) &&& 31)) &&& 255))) fun z_14 => (qX11_append_L36 a b c d e K g (nI k + 1) z_14))) a b c d e hk).trans ?_
    rw [hs, nI_add, gdn (by omega) (by omega), cl (by omega), sh20 k hk, bs_e, p1]
    rfl) (by
    intro g s hs
    show qX11_append_L36 a b c d e K (g + 1) (nI 20) s = _
    rw [qX11_append_L36, if_pos (show (20 : Int32) ≤ nI 20 from Int32.le_refl _)]) 20 fu 0 z (by omega) (by unfold fu; omega) hz
  refine ⟨_, key, ?_⟩
  have inv := lfold_inv (f := fun k s => va_up s 16 (upd (s 16) (L + k) (apV a b c d e k &&& 255))) (fun m s => m ≤ 20 → (∀ i, i ≠ 16 → s i = z i) ∧ (∀ i, i < L → s 16 i = z 16 i) ∧ ∀ k, k < m → s 16 (L + k) = apV a b c d e k &&& 255) 20 0 z (fun _ => ⟨fun _ _ => rfl, fun _ _ => rfl, fun k hk => absurd hk (Nat.not_lt_zero k)⟩) (by
    intro i s _ hi h h1
    obtain ⟨g1, g2, g3⟩ := h (by omega)
    refine ⟨fun j hj => by rw [va_n hj]; exact g1 j hj, fun j hj => by rw [va_s, upd_n (by omega)]; exact g2 j hj, fun k hk => ?_⟩
    rw [va_s]
    by_cases e : k = i
    · subst e
      exact upd_s _ _ _
    · rw [upd_n (by omega)]
      exact g3 k (by omega))
  exact inv (by omega)
theorem smn_t {v : Nat → Nat → Int32} {z : Nat → Nat → Int32} {n : Nat} {tx ps hs tx2 : Nat → Nat → Int32} {vn : Nat → Int64} {ww : Nat → Nat → Nat → Int32} {z2 : Nat → Nat → Int32} (h : Smn n tx ps v vn hs ww z) (hz : ∀ i, i ≠ 0 → i ≠ 11 → i ≠ 16 → i ≠ 23 → z2 i = z i) (ht : Txt tx2 z2) : Smn n tx2 ps v vn hs ww z2 := by
  obtain ⟨h1, h2, h3, h4, h5, h6, h7⟩ := h
  exact ⟨pl_c h1 (fun i b1 b2 => hz i (by omega) (by omega) (by omega) (by omega)), by rw [hz 10 (by omega) (by omega) (by omega) (by omega)]; exact h2, ⟨by rw [hz 15 (by omega) (by omega) (by omega) (by omega), hz 12 (by omega) (by omega) (by omega) (by omega)]; exact h3.ring, by rw [hz 14 (by omega) (by omega) (by omega) (by omega)]; exact h3.flag, by rw [hz 13 (by omega) (by omega) (by omega) (by omega)]; exact h3.slot⟩, ht, by unfold Nam at h5 ⊢; rw [hz 9 (by omega) (by omega) (by omega) (by omega)]; exact h5, by rw [hz 28 (by omega) (by omega) (by omega) (by omega)]; exact h6, by rw [hz 29 (by omega) (by omega) (by omega) (by omega)]; exact h7⟩
theorem st_append : St_append Sim := by
  intro tx ps nm v vn hs ww z ⟨n, h⟩ a b c d e
  have h0 := smn_0 h
  have hz := z0_0 z
  have hzz : va_up z 0 (fun _ => 0) = z0 z := rfl
  obtain ⟨L, hL, e1, e2, e3⟩ := h0.txt.ex
  unfold qX11_append qX10_append
  rw [hzz, bs_e, e1, e2, jn_e, show nI L + 20 = nI (L + 20) from nI_add L 20]
  by_cases c1 : L + 20 ≤ 900
  · rw [if_pos (show nI (L + 20) ≤ (900 : Int32) from nI_le (b := 900) (by omega) (by omega)), if_neg (show ¬ (900 : Int32) < nI (L + 20) from Int32.not_lt.mpr (nI_le (b := 900) (by omega) (by omega)))]
    dsimp only
    rw [may1 hz, bd2_s, if_neg (show ¬ (1 : Int32) = 0 by decide)]
    obtain ⟨t1, r1, l1, o1, k1⟩ := addR_e a e1 (by omega)
    obtain ⟨t2, r2, l2, o2, k2⟩ := addR_e b l1 (by omega)
    obtain ⟨t3, r3, l3, o3, k3⟩ := addR_e c l2 (by omega)
    obtain ⟨t4, r4, l4, o4, k4⟩ := addR_e d l3 (by omega)
    obtain ⟨t5, r5, l5, o5, k5⟩ := addR_e e l4 (by omega)
    obtain ⟨z2, s1, s2, s3, s4⟩ := appL_e a b c d e (fun (z_12 : Nat → Nat → Int32) => (bs (va_up z_12 23 (fun _ => ((z_12 23 0) + 20))) fun z_15 => some ((z_15 23 0), z_15))) e2 (by omega)
    rw [r1, bd_s, r2, bd_s, r3, bd_s, r4, bd_s, r5, bd_s, s1, bs_e, s2 23 (by omega), e2, l5]
    have hL5 : L + 4 + 4 + 4 + 4 + 4 = L + 20 := by omega
    rw [hL5] at l5
    rw [hL5, show nI L + 20 = nI (L + 20) from nI_add L 20]
    refine ⟨0, _, _, _, _, rfl, rfl, Or.inl ⟨rfl, by rw [va_n (by omega), s2 0 (by omega)]; exact hz, by rw [va_s]⟩, n, smn_t h0 (fun i b1 b2 b3 b4 => by rw [va_n b4, s2 i b3]) ⟨L + 20, c1, l5, by rw [va_s], ?_⟩⟩
    intro i hi
    rw [va_n (by omega)]
    by_cases c2 : i < L
    · rw [s3 i c2, o5 i (by omega), o4 i (by omega), o3 i (by omega), o2 i (by omega), o1 i (by omega)]
      exact e3 i c2
    · obtain ⟨k, rfl⟩ : ∃ k, i = L + k := ⟨i - L, by omega⟩
      have hk : k < 20 := by omega
      have hb : t5 1 (L + k) = byt (apV a b c d e k) := by
        unfold apV wd5
        by_cases c4 : k < 4
        · rw [if_pos c4, o5 _ (by omega), o4 _ (by omega), o3 _ (by omega), o2 _ (by omega), k1 k c4, show k % 4 = k by omega]
        · rw [if_neg c4]
          by_cases c8 : k < 8
          · rw [if_pos c8, o5 _ (by omega), o4 _ (by omega), o3 _ (by omega), show L + k = L + 4 + (k - 4) by omega, k2 (k - 4) (by omega), show k % 4 = k - 4 by omega]
          · rw [if_neg c8]
            by_cases c12 : k < 12
            · rw [if_pos c12, o5 _ (by omega), o4 _ (by omega), show L + k = L + 4 + 4 + (k - 8) by omega, k3 (k - 8) (by omega), show k % 4 = k - 8 by omega]
            · rw [if_neg c12]
              by_cases c16 : k < 16
              · rw [if_pos c16, o5 _ (by omega), show L + k = L + 4 + 4 + 4 + (k - 12) by omega, k4 (k - 12) (by omega), show k % 4 = k - 12 by omega]
              · rw [if_neg c16, show L + k = L + 4 + 4 + 4 + 4 + (k - 16) by omega, k5 (k - 16) (by omega), show k % 4 = k - 16 by omega]
      rw [s4 k hk, hb]
      exact ⟨byt_255 _, byt_r _⟩
  · rw [if_neg (show ¬ nI (L + 20) ≤ (900 : Int32) from nle (b := 900) (by omega) (by omega)), if_pos (show (900 : Int32) < nI (L + 20) from Int32.not_le.mp (nle (b := 900) (by omega) (by omega)))]
    dsimp only
    rw [may0 hz (by decide), bd2_s, if_pos rfl]
    exact ⟨1, 0, tx, 0, _, rfl, rfl, Or.inr ⟨rfl, by rw [va_s]⟩, n, smn_e h0 _⟩
