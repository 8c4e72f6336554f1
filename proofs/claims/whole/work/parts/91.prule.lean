-- loss, off, dark in step
def scb (L : Nat) (z : Nat → Nat → Int32) (b : Nat) : Nat → Int32
  | 0 => 0
  | i + 1 => scb L z b i ||| ((rby L z (b + i) - 48) <<< (nI i &&& 31))
def scok (L : Nat) (z : Nat → Nat → Int32) (b i : Nat) : Bool := decide (rby L z (b + i) ≤ 49)
theorem digi_n {c : Int32} (h : digi c = true) : ∃ d, 48 ≤ d ∧ d ≤ 57 ∧ c = nI d := by
  unfold digi at h
  rw [Bool.and_eq_true, decide_eq_true_eq, decide_eq_true_eq, Int32.le_iff_toInt_le, Int32.le_iff_toInt_le] at h
  have h0 : ¬ c < 0 := by
    rw [Int32.lt_iff_toInt_lt, show (0 : Int32).toInt = 0 from rfl]
    have : (48 : Int32).toInt = 48 := rfl
    omega
  obtain ⟨d, d1, d2⟩ := nI_of h0
  rw [d2, nI_toInt d1, show (48 : Int32).toInt = 48 from rfl, show (57 : Int32).toInt = 57 from rfl] at h
  exact ⟨d, by omega, by omega, d2⟩
/-- a digit is 0 or 1, or it is neither on both sides -/
theorem dig01 {c : Int32} (h : digi c = true) : (c ≤ 49 ∧ (c - 48 = 0 ∨ c - 48 = 1)) ∨ (¬ c ≤ 49 ∧ ¬ c - 48 = 0 ∧ ¬ c - 48 = 1) := by
  obtain ⟨d, h1, h2, e⟩ := digi_n h
  rw [e]
  exact (by decide +kernel : ∀ d, d < 58 → 48 ≤ d → (nI d ≤ 49 ∧ (nI d - 48 = 0 ∨ nI d - 48 = 1)) ∨ (¬ nI d ≤ 49 ∧ ¬ nI d - 48 = 0 ∧ ¬ nI d - 48 = 1)) d (by omega) h1
theorem shl01 : ∀ k, k < 24 → ((0 : Int32) <<< (nI k &&& 31)) = 0 := by decide +kernel
theorem scb_b {L b : Nat} {z : Nat → Nat → Int32} : ∀ (s : Nat), s ≤ 24 → (∀ i, i < s → rby L z (b + i) - 48 = 0 ∨ rby L z (b + i) - 48 = 1) → (∀ i, i < s → b01 (scb L z b s) i = rby L z (b + i) - 48) ∧ ∀ i, s ≤ i → i < 32 → bt (scb L z b s) i = false
  | 0, _, _ => ⟨fun i hi => absurd hi (Nat.not_lt_zero i), fun i _ _ => b_0 i⟩
  | s + 1, hs, h => by
    obtain ⟨g1, g2⟩ := scb_b s (by omega) (fun i hi => h i (by omega))
    have e1 : scb L z b (s + 1) = scb L z b s ||| ((rby L z (b + s) - 48) <<< (nI s &&& 31)) := rfl
    rcases h s (by omega) with c | c
    · rw [e1, c, shl01 s (by omega)]
      have ez : scb L z b s ||| 0 = scb L z b s := by
        apply b_ext
        intro i hi
        rw [b_or, b_0, Bool.or_false]
      rw [ez]
      refine ⟨fun i hi => ?_, fun i h1 h2 => g2 i (by omega) h2⟩
      by_cases d : i = s
      · subst d
        rw [c, b01_0]
        exact g2 i (Nat.le_refl _) (by omega)
      · exact g1 i (by omega)
    · rw [e1, c]
      refine ⟨fun i hi => ?_, fun i h1 h2 => ?_⟩
      · rw [b01_set _ (by omega) (by omega)]
        by_cases d : i = s
        · subst d
          rw [if_pos rfl, c]
        · rw [if_neg d]
          exact g1 i (by omega)
      · rw [b_set _ (by omega) h2, g2 i (by omega) h2, decide_eq_false (by omega)]
        rfl
theorem scC_e {L b s : Nat} {tx ps z : Nat → Nat → Int32} {nm : Nat → Int64} (h : Tx L tx z) (hb : b + s ≤ 900) (e1 : ps 1 0 = nI b) (e2 : ps 2 0 = nI s) (hd : ∀ i, i < s → digi (rby L z (b + i)) = true) (K : Int32 → Option (Nat → Nat → Int32)) : ∀ (m g i : Nat), i + m = s → m < g → qX4_readScript_L33 tx ps nm K g (scb L z b i) (nI i) = if alr (scok L z b) i m = true then K (scb L z b s) else (bd (qX4_stopAt tx ps nm 1) fun ps_7 => some ps_7)
  | 0, g, i, hi, hg => by
    obtain ⟨g, rfl⟩ : ∃ g', g = g' + 1 := ⟨g - 1, by omega⟩
    obtain rfl : i = s := by omega
    rw [qX4_readScript_L33, e2, if_pos (Int32.le_refl _), if_pos (show alr (scok L z b) i 0 = true from rfl)]
  | m + 1, g, i, hi, hg => by
    obtain ⟨g, rfl⟩ : ∃ g', g = g' + 1 := ⟨g - 1, by omega⟩
    rw [qX4_readScript_L33, e2, if_neg (nle (by omega) (by omega)), e1, nI_add, byteC_e h (by omega), bd_s, p1]
    simp only [jn_e]
    show _ = if (scok L z b i && alr (scok L z b) (i + 1) m) = true then _ else _
    rcases dig01 (hd i (by omega)) with ⟨c1, c2⟩ | ⟨c1, c2, c3⟩
    · have ih := scC_e (nm := nm) h hb e1 e2 hd K m g (i + 1) (by omega) (by omega)
      have ok : scok L z b i = true := decide_eq_true c1
      rw [ok, Bool.true_and]
      rcases c2 with c2 | c2
      · rw [if_pos c2]
        exact ih
      · rw [if_neg (show ¬ rby L z (b + i) - 48 = 0 by rw [c2]; decide), if_pos c2]
        exact ih
    · have ok : scok L z b i = false := decide_eq_false c1
      rw [ok, Bool.false_and, if_neg c2, if_neg c3, if_neg (show ¬ false = true by decide)]
theorem scR_0 {z : Nat → Nat → Int32} (K : Int32 → Option (Nat → Nat → Int32)) (g : Nat) (x : Int32) : qX11_scriptHere_L40 z K (g + 1) 0 x = K 0 := by
  rw [qX11_scriptHere_L40, if_pos rfl]
  split <;> rfl
theorem scR_e {L b s : Nat} {tx z : Nat → Nat → Int32} (h : Tx L tx z) (hb : b + s ≤ 900) (e1 : z 25 0 = nI (b + s)) (K : Int32 → Option (Nat → Nat → Int32)) : ∀ (m g i : Nat), i + m = s → m + 1 < g → qX11_scriptHere_L40 z K g 1 (nI (b + i)) = K (if alr (scok L z b) i m = true then 1 else 0)
  | 0, g, i, hi, hg => by
    obtain ⟨g, rfl⟩ : ∃ g', g = g' + 1 := ⟨g - 1, by omega⟩
    obtain rfl : i = s := by omega
    rw [qX11_scriptHere_L40, e1, if_pos (Int32.le_refl _)]
    rfl
  | m + 1, g, i, hi, hg => by
    obtain ⟨g, rfl⟩ : ∃ g', g = g' + 1 := ⟨g - 1, by omega⟩
    rw [qX11_scriptHere_L40, e1, if_neg (nle (by omega) (by omega)), if_neg (show ¬ (1 : Int32) = 0 by decide), byteR_e h (by omega), bd_s, p1]
    simp only [jn_e]
    show _ = K (if (scok L z b i && alr (scok L z b) (i + 1) m) = true then 1 else 0)
    by_cases c : rby L z (b + i) ≤ 49
    · have ok : scok L z b i = true := decide_eq_true c
      rw [ok, Bool.true_and, if_neg (Int32.not_lt.mpr c)]
      exact scR_e h hb e1 K m g (i + 1) (by omega) (by omega)
    · have ok : scok L z b i = false := decide_eq_false c
      rw [ok, Bool.false_and, if_pos (Int32.not_le.mp c), if_neg (show ¬ false = true by decide)]
      obtain ⟨g, rfl⟩ : ∃ g', g = g' + 1 := ⟨g - 1, by omega⟩
      exact scR_0 K g _
theorem scW_e {L b s : Nat} {tx z : Nat → Nat → Int32} (h : Tx L tx z) (hb : b + s ≤ 900) (hs : s ≤ 24) (e1 : z 26 0 = nI b) (e2 : z 32 0 = nI s) (K : (Nat → Nat → Int32) → Option (Nat → Nat → Int32)) : ∃ z2 : Nat → Nat → Int32, qX11_scriptHere_L106 K fu 0 z = K z2 ∧ (∀ i, i ≠ 20 → z2 i = z i) ∧ ∀ i, i < s → z2 20 i = rby L z (b + i) - 48 := by
  have key := lp (L := fun g i y => qX11_scriptHere_L106 K g i y) (N := s) (K := K) (f := fun k y => va_up y 20 (upd (y 20) k (rby L z (b + k) - 48))) (fun _ y => ∀ i, i ≠ 20 → y i = z i) (by
    intro g k y hk hy
    refine ⟨?_, fun i hi => by rw [va_n hi]; exact hy i hi⟩
    show qX11_scriptHere_L106 K (g + 1) (nI k) y = qX11_scriptHere_L106 K g (nI (k + 1)) _
    have ht : Tx L tx y := tx_c h (hy 24 (by omega)) (hy 16 (by omega))
    have hr : rby L y (b + k) = rby L z (b + k) := by
      unfold rby
      rw [hy 16 (by omega)]
    rw [qX11_scriptHere_L106, hy 32 (by omega), e2, if_neg (nle hk (by omega)), hy 26 (by omega), e1, nI_add, byteR_e ht (by omega), bd_s, gdn (by omega) (by omega), cl (by omega), bs_e, p1, hr]) (by
    intro g y hy
    show qX11_scriptHere_L106 K (g + 1) (nI s) y = K y
    rw [qX11_scriptHere_L106, hy 32 (by omega), e2, if_pos (Int32.le_refl _)]) s fu 0 z (by omega) (by unfold fu; omega) (fun _ _ => rfl)
  refine ⟨_, key, ?_⟩
  have inv := lfold_inv (f := fun k y => va_up y 20 (upd (y 20) k (rby L z (b + k) - 48))) (fun m y => m ≤ s → (∀ i, i ≠ 20 → y i = z i) ∧ ∀ i, i < m → y 20 i = rby L z (b + i) - 48) s 0 z (fun _ => ⟨fun _ _ => rfl, fun i hi => absurd hi (Nat.not_lt_zero i)⟩) (by
    intro i y _ hi hy hm
    obtain ⟨g1, g2⟩ := hy (by omega)
    refine ⟨fun j hj => by rw [va_n hj]; exact g1 j hj, fun j hj => ?_⟩
    rw [va_s]
    by_cases d : j = i
    · subst d
      exact upd_s _ _ _
    · rw [upd_n d]
      exact g2 j (by omega))
  rw [Nat.zero_add] at inv
  exact inv (Nat.le_refl _)
theorem scr_w {z : Nat → Nat → Int32} (h : ¬ z 28 0 = 0) : qX11_scriptHere z = some z := by
  unfold qX11_scriptHere
  simp only [jn_e]
  rw [wrong1 h, bd_s, if_neg (show ¬ (1 : Int32) = 0 by decide), show fu = 3999 + 1 from rfl, scR_0, fails_w h, bd_s, wrong1 h, bd_s, if_pos rfl, if_neg (show ¬ (1 : Int32) = 0 by decide)]
theorem script_e {L n : Nat} {tx ps z : Nat → Nat → Int32} {nm : Nat → Int64} (h : Rd L tx ps z) (e : ps 3 0 = 0) (hd : Dr n nm ps z) : ∃ ps1 z1 : Nat → Nat → Int32, qX4_readScript tx ps nm = some ps1 ∧ qX11_scriptHere z = some z1 ∧ Rd L tx ps1 z1 ∧ po ps ≤ po ps1 ∧ (ps1 3 0 = 0 → Dr n nm ps1 z1) ∧ ∀ i, i < 16 ∨ i = 23 → z1 i = z i := by
  obtain ⟨b, s, k, q⟩ := h.tok e
  have e2 : z 28 0 = 0 := by rw [← h.err]; exact e
  have h9 := h.te.l9
  have hbs := q.bs
  obtain ⟨ps2, z2, a1, a2, a3, a4, a5⟩ := stop_e (nm := nm) h 1 (by decide)
  have hfail : ∃ ps1 z1 : Nat → Nat → Int32, some ps2 = some ps1 ∧ some z2 = some z1 ∧ Rd L tx ps1 z1 ∧ po ps ≤ po ps1 ∧ (ps1 3 0 = 0 → Dr n nm ps1 z1) ∧ ∀ i, i < 16 ∨ i = 23 → z1 i = z i := ⟨ps2, z2, rfl, rfl, a3.rd, a3.mo, fun g => absurd g a4, fun i hi => a3.fz i (by omega)⟩
  unfold qX4_readScript qX11_scriptHere
  simp only [jn_e]
  rw [wrong0 e2, bd_s, if_pos rfl, q.p0, q.p2, q.z27, q.z25, q.z26, nsub]
  by_cases c : k = 2 ∧ s ≤ 24
  · obtain ⟨c1, c2⟩ := c
    have hdg : ∀ i, i < s → digi (rby L z (b + i)) = true := fun i hi => (rb_all (p := b + i) h.te).2.1.mp (by rw [← c1]; exact q.al (Or.inr c1) i hi)
    rw [if_pos c1, if_pos (show nI s ≤ (24 : Int32) from nI_le (b := 24) c2 (by omega)), if_pos ((k5_2 k).mpr c1), if_neg (show ¬ (24 : Int32) < nI s from Int32.not_lt.mpr (nI_le (b := 24) c2 (by omega))), show qX4_readScript_L33 tx ps nm _ fu 0 0 = _ from scC_e h.te (b := b) (s := s) (by omega) q.p1 q.p2 hdg _ s fu 0 (by omega) (by unfold fu; omega), show qX11_scriptHere_L40 z _ fu 1 (nI b) = _ from scR_e h.te (b := b) (s := s) (by omega) q.z25 _ s fu 0 (by omega) (by unfold fu; omega)]
    by_cases d : alr (scok L z b) 0 s = true
    · rw [if_pos d, if_pos d, if_neg (show ¬ (1 : Int32) = 0 by decide), bs_e, bs_e, va_n (show (2 : Nat) ≠ 12 by omega), bd_s, if_pos rfl, bs_e]
      have hok : ∀ i, i < s → rby L z (b + i) - 48 = 0 ∨ rby L z (b + i) - 48 = 1 := by
        intro i hi
        rcases dig01 (hdg i hi) with ⟨_, g⟩ | ⟨g, _⟩
        · exact g
        · exact absurd (of_decide_eq_true ((alr_0 s).mp d i hi)) g
      obtain ⟨g1, _⟩ := scb_b s c2 hok
      have ht : Tx L tx (va_up z 32 (fun _ => nI s)) := tx_c h.te (va_n (by omega)) (va_n (by omega))
      obtain ⟨z3, w1, w2, w3⟩ := scW_e ht (b := b) (s := s) (by omega) c2 (by rw [va_n (by omega)]; exact q.z26) (by rw [va_s]) (fun (z_14 : Nat → Nat → Int32) => bd (qX11_token z_14) fun z_17 => some z_17)
      have hrd : Rd L tx (va_up (va_up ps 12 (fun _ => scb L z b s)) 13 (fun _ => nI s)) z3 := rd_c h (fun i hi => by rw [va_n (by omega), va_n (by omega)]) (fun i hi => by rw [w2 i (by omega), va_n (by omega)])
      obtain ⟨ps4, z4, b1, b2, b3, b4, b5, _⟩ := adv_e (nm := nm) hrd (by rw [va_n (by omega), va_n (by omega)]; exact e)
      rw [q.p2, b1, bd_s, w1, b2, bd_s]
      have hpo : po (va_up (va_up ps 12 (fun _ => scb L z b s)) 13 (fun _ => nI s)) = po ps := by
        unfold po
        rw [va_n (by omega), va_n (by omega)]
      refine ⟨ps4, z4, rfl, rfl, b3.rd, by have := b3.mo; omega, fun _ => ?_, fun i hi => by rw [b3.fz i (by omega), w2 i (by omega), va_n (by omega)]⟩
      have hdr : Dr n nm (va_up (va_up ps 12 (fun _ => scb L z b s)) 13 (fun _ => nI s)) z3 := by
        refine ⟨?_, ?_, ⟨s, c2, by rw [va_s], by rw [w2 32 (by omega), va_s], fun i hi => ?_⟩, ?_, ?_⟩
        · rw [w2 18 (by omega), w2 19 (by omega), w2 22 (by omega), w2 30 (by omega), w2 31 (by omega)]
          exact hd.d1
        · rw [w2 17 (by omega)]
          exact hd.d2
        · rw [w3 i hi, va_n (by omega), va_s, g1 i hi]
          unfold rby
          rw [va_n (by omega)]
        · rw [w2 21 (by omega), w2 33 (by omega)]
          exact hd.d4
        · rw [w2 34 (by omega)]
          exact hd.d5
      exact dr_c hdr b3.fp b3.fz
    · rw [if_neg d, if_neg d, if_pos rfl, a1, bd_s, a2, bd_s, wrong1 a5, bd_s, if_neg (show ¬ (1 : Int32) = 0 by decide)]
      exact hfail
  · have hC : (if k = 2 then if nI s ≤ 24 then qX4_readScript_L33 tx ps nm (fun (x1_5 : Int32) => (bs (va_up ps 12 (fun _ => x1_5)) fun ps_8 => (bs (va_up ps_8 13 (fun _ => (ps_8 2 0))) fun ps_9 => bd (qX7_goToNext tx ps_9 nm) fun ps_10 => some ps_10))) fu 0 0 else some ps2 else some ps2) = some ps2 := by
      by_cases c1 : k = 2
      · rw [if_pos c1, if_neg (show ¬ nI s ≤ (24 : Int32) from nle (b := 24) (by have : ¬ s ≤ 24 := fun g => c ⟨c1, g⟩; omega) (by omega))]
      · rw [if_neg c1]
    have hR : ∀ K : Int32 → Option (Nat → Nat → Int32), (if (if k = 5 then (4 : Int32) else k) = 2 then if 24 < nI s then qX11_scriptHere_L40 z K fu 0 (nI b) else qX11_scriptHere_L40 z K fu 1 (nI b) else qX11_scriptHere_L40 z K fu 0 (nI b)) = K 0 := by
      intro K
      have h0 : qX11_scriptHere_L40 z K fu 0 (nI b) = K 0 := by
        rw [show fu = 3999 + 1 from rfl]
        exact scR_0 K _ _
      rw [h0]
      by_cases c1 : k = 2
      · rw [if_pos ((k5_2 k).mpr c1), if_pos (show (24 : Int32) < nI s from Int32.not_le.mp (nle (b := 24) (by have : ¬ s ≤ 24 := fun g => c ⟨c1, g⟩; omega) (by omega)))]
      · rw [if_neg (fun g => c1 ((k5_2 k).mp g))]
    rw [a1, bd_s, hR, if_pos rfl, a2, bd_s, wrong1 a5, bd_s, if_neg (show ¬ (1 : Int32) = 0 by decide)]
    rw [hC]
    exact hfail
theorem rl_loss {L n : Nat} {tx ps z : Nat → Nat → Int32} {nm : Nat → Int64} (h : Rd L tx ps z) (e : ps 3 0 = 0) (h0 : ps 0 0 ≠ 0) (hd : Dr n nm ps z) : ∃ ps1 z1 : Nat → Nat → Int32, (bd2 (qX4_passOnce tx ps nm 1) fun r_23 ps_24 => if r_23 = 0 then some ps_24 else bd (qX4_readScript tx ps_24 nm) fun ps_25 => some ps_25) = some ps1 ∧ (∀ J : (Nat → Nat → Int32) → Option (Nat → Nat → Int32), (bd (qX11_once z 0) fun z_41 => bd (qX11_scriptHere z_41) fun z_42 => J z_42) = J z1) ∧ Rr n nm L tx ps z ps1 z1 := by
  rcases once_e (k := 0) (bit := 1) (nm := nm) h e h0 (by omega) (by decide) hd.d5 with ⟨ps2, z2, a1, a2, a3, a4, a5⟩ | ⟨ps2, z2, a1, a2, a3, a4, a5, a6, a7, a8, a9⟩
  · rw [a1, bd2_s, if_pos rfl]
    refine ⟨ps2, z2, rfl, fun J => ?_, a3.rd, fun g => absurd g a4, fun g => absurd g a4, fun i hi => a3.fz i (by omega)⟩
    rw [show qX11_once z 0 = some z2 from a2, bd_s, scr_w a5, bd_s]
  · obtain ⟨ps3, z3, b1, b2, b3, b4, b5, b6⟩ := script_e a3 a4 (dr_o hd a7 a8 a9)
    rw [a1, bd2_s, if_neg (show ¬ (1 : Int32) = 0 by decide), b1, bd_s]
    refine ⟨ps3, z3, rfl, fun J => ?_, b3, b5, fun _ => by omega, fun i hi => by rw [b6 i hi, a9 i (by omega) (by omega)]⟩
    rw [show qX11_once z 0 = some z2 from a2, bd_s, b2, bd_s]
