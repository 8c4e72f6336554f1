-- reading in step: the error, the next token, words, semicolons, numbers
def po (ps : Nat → Nat → Int32) : Nat := (ps 1 0).toNatClampNeg
def Rd (L : Nat) (tx : Nat → Nat → Int32) (ps : Nat → Nat → Int32) (z : Nat → Nat → Int32) : Prop :=
  (Tx L tx z) ∧
  (ps 3 0 = z 28 0) ∧
  (ps 4 0 = z 29 0) ∧
  (ps 3 0 = 0 → ∃ b s k, Tok L b s k tx ps z)
theorem Rd.te {L : Nat} {tx : Nat → Nat → Int32} {ps : Nat → Nat → Int32} {z : Nat → Nat → Int32} (h : Rd L tx ps z) : Tx L tx z := h.1
theorem Rd.err {L : Nat} {tx : Nat → Nat → Int32} {ps : Nat → Nat → Int32} {z : Nat → Nat → Int32} (h : Rd L tx ps z) : ps 3 0 = z 28 0 := h.2.1
theorem Rd.pos {L : Nat} {tx : Nat → Nat → Int32} {ps : Nat → Nat → Int32} {z : Nat → Nat → Int32} (h : Rd L tx ps z) : ps 4 0 = z 29 0 := h.2.2.1
theorem Rd.tok {L : Nat} {tx : Nat → Nat → Int32} {ps : Nat → Nat → Int32} {z : Nat → Nat → Int32} (h : Rd L tx ps z) : ps 3 0 = 0 → ∃ b s k, Tok L b s k tx ps z := h.2.2.2
def Stq (L : Nat) (tx : Nat → Nat → Int32) (ps : Nat → Nat → Int32) (z : Nat → Nat → Int32) (ps2 : Nat → Nat → Int32) (z2 : Nat → Nat → Int32) : Prop :=
  (Rd L tx ps2 z2) ∧
  (∀ i, 5 ≤ i → ps2 i = ps i) ∧
  (∀ i, i < 25 ∨ 29 < i → z2 i = z i) ∧
  (ps2 3 0 = 0 → ps 3 0 = 0) ∧
  (po ps ≤ po ps2)
theorem Stq.rd {L : Nat} {tx : Nat → Nat → Int32} {ps : Nat → Nat → Int32} {z : Nat → Nat → Int32} {ps2 : Nat → Nat → Int32} {z2 : Nat → Nat → Int32} (h : Stq L tx ps z ps2 z2) : Rd L tx ps2 z2 := h.1
theorem Stq.fp {L : Nat} {tx : Nat → Nat → Int32} {ps : Nat → Nat → Int32} {z : Nat → Nat → Int32} {ps2 : Nat → Nat → Int32} {z2 : Nat → Nat → Int32} (h : Stq L tx ps z ps2 z2) : ∀ i, 5 ≤ i → ps2 i = ps i := h.2.1
theorem Stq.fz {L : Nat} {tx : Nat → Nat → Int32} {ps : Nat → Nat → Int32} {z : Nat → Nat → Int32} {ps2 : Nat → Nat → Int32} {z2 : Nat → Nat → Int32} (h : Stq L tx ps z ps2 z2) : ∀ i, i < 25 ∨ 29 < i → z2 i = z i := h.2.2.1
theorem Stq.ok {L : Nat} {tx : Nat → Nat → Int32} {ps : Nat → Nat → Int32} {z : Nat → Nat → Int32} {ps2 : Nat → Nat → Int32} {z2 : Nat → Nat → Int32} (h : Stq L tx ps z ps2 z2) : ps2 3 0 = 0 → ps 3 0 = 0 := h.2.2.2.1
theorem Stq.mo {L : Nat} {tx : Nat → Nat → Int32} {ps : Nat → Nat → Int32} {z : Nat → Nat → Int32} {ps2 : Nat → Nat → Int32} {z2 : Nat → Nat → Int32} (h : Stq L tx ps z ps2 z2) : po ps ≤ po ps2 := h.2.2.2.2
theorem tok_c {L b s : Nat} {k : Int32} {tx ps z ps2 z2 : Nat → Nat → Int32} (h : Tok L b s k tx ps z) (hp : ∀ i, i < 3 → ps2 i = ps i) (hz : ∀ i, 25 ≤ i → i ≤ 27 → z2 i = z i) : Tok L b s k tx ps2 z2 :=
  ⟨h.bs, by rw [hp 1 (by omega)]; exact h.p1, by rw [hz 26 (by omega) (by omega)]; exact h.z26, by rw [hp 2 (by omega)]; exact h.p2, by rw [hz 25 (by omega) (by omega)]; exact h.z25, by rw [hp 0 (by omega)]; exact h.p0, by rw [hz 27 (by omega) (by omega)]; exact h.z27, h.kd, h.k4, h.al, h.s0, h.s1⟩
theorem rd_c {L : Nat} {tx ps z ps2 z2 : Nat → Nat → Int32} (h : Rd L tx ps z) (hp : ∀ i, i < 5 → ps2 i = ps i) (hz : ∀ i, i = 16 ∨ 24 ≤ i ∧ i ≤ 29 → z2 i = z i) : Rd L tx ps2 z2 :=
  ⟨tx_c h.te (hz 24 (by omega)) (hz 16 (by omega)), by rw [hp 3 (by omega), hz 28 (by omega)]; exact h.err, by rw [hp 4 (by omega), hz 29 (by omega)]; exact h.pos, by
    rw [hp 3 (by omega)]
    intro g
    obtain ⟨b, s, k, q⟩ := h.tok g
    exact ⟨b, s, k, tok_c q (fun i hi => hp i (by omega)) (fun i h1 h2 => hz i (by omega))⟩⟩
theorem stp_r {L : Nat} {tx ps z : Nat → Nat → Int32} (h : Rd L tx ps z) : Stq L tx ps z ps z := ⟨h, fun _ _ => rfl, fun _ _ => rfl, fun g => g, Nat.le_refl _⟩
theorem stp_t {L : Nat} {tx ps z ps2 z2 ps3 z3 : Nat → Nat → Int32} (h : Stq L tx ps z ps2 z2) (g : Stq L tx ps2 z2 ps3 z3) : Stq L tx ps z ps3 z3 := ⟨g.rd, fun i hi => (g.fp i hi).trans (h.fp i hi), fun i hi => (g.fz i hi).trans (h.fz i hi), fun e => h.ok (g.ok e), Nat.le_trans h.mo g.mo⟩
theorem po_e {L b s : Nat} {k : Int32} {tx ps z : Nat → Nat → Int32} (h : Tok L b s k tx ps z) (h9 : L ≤ 900) : po ps = b := by
  unfold po
  have := h.bs
  rw [h.p1, cl (by omega)]
theorem wrong0 {z : Nat → Nat → Int32} (h : z 28 0 = 0) : qX11_isWrong z = some 0 := by
  unfold qX11_isWrong
  rw [if_pos h]
theorem wrong1 {z : Nat → Nat → Int32} (h : ¬ z 28 0 = 0) : qX11_isWrong z = some 1 := by
  unfold qX11_isWrong
  rw [if_neg h]
theorem stop_e {L : Nat} {tx ps z : Nat → Nat → Int32} {nm : Nat → Int64} (h : Rd L tx ps z) (c : Int32) (hc : c ≠ 0) : ∃ ps2 z2 : Nat → Nat → Int32, qX4_stopAt tx ps nm c = some ps2 ∧ qX11_fails z c = some z2 ∧ Stq L tx ps z ps2 z2 ∧ ps2 3 0 ≠ 0 ∧ z2 28 0 ≠ 0 := by
  unfold qX4_stopAt qX11_fails
  by_cases e : ps 3 0 = 0
  · obtain ⟨b, s, k, q⟩ := h.tok e
    have e2 : z 28 0 = 0 := by rw [← h.err]; exact e
    rw [if_pos e, wrong0 e2, bd_s, if_pos rfl]
    simp only [bs_e]
    refine ⟨_, _, rfl, rfl, ⟨⟨tx_c h.te (by rw [va_n (by omega), va_n (by omega)]) (by rw [va_n (by omega), va_n (by omega)]), by rw [va_n (by omega), va_s, va_n (by omega), va_s], by rw [va_s, va_s, va_n (by omega), va_n (by omega), q.p1, q.z26], fun g => ?_⟩, fun i hi => by rw [va_n (by omega), va_n (by omega)], fun i hi => by rw [va_n (by omega), va_n (by omega)], fun _ => e, ?_⟩, ?_, ?_⟩
    · rw [va_n (by omega), va_s] at g
      exact absurd g hc
    · unfold po
      rw [va_n (by omega), va_n (by omega)]
      exact Nat.le_refl _
    · rw [va_n (by omega), va_s]
      exact hc
    · rw [va_n (by omega), va_s]
      exact hc
  · have e2 : ¬ z 28 0 = 0 := by rw [← h.err]; exact e
    rw [if_neg e, wrong1 e2, bd_s, if_neg (show ¬ (1 : Int32) = 0 by decide)]
    exact ⟨ps, z, rfl, rfl, stp_r h, e, e2⟩
theorem adv_e {L : Nat} {tx ps z : Nat → Nat → Int32} {nm : Nat → Int64} (h : Rd L tx ps z) (e : ps 3 0 = 0) : ∃ ps2 z2 : Nat → Nat → Int32, qX7_goToNext tx ps nm = some ps2 ∧ qX11_token z = some z2 ∧ Stq L tx ps z ps2 z2 ∧ ps2 3 0 = 0 ∧ z2 28 0 = 0 ∧ (ps 0 0 ≠ 0 → po ps < po ps2) := by
  obtain ⟨b, s, k, q⟩ := h.tok e
  have e2 : z 28 0 = 0 := by rw [← h.err]; exact e
  have h9 := h.te.l9
  obtain ⟨b2, s2, k2, ps2, z2, a1, a2, a3, a4, a5, a6⟩ := next_e (nm := nm) (ps := ps) h.te (p := b + s) (by rw [q.p1, q.p2, nI_add]) q.z25 q.bs
  have hp1 := po_e q h9
  have hp2 := po_e a4 h9
  have e3 : ps2 3 0 = 0 := by rw [a5 3 (by omega)]; exact e
  have e4 : z2 28 0 = 0 := by rw [a6 28 (by omega)]; exact e2
  refine ⟨ps2, z2, a2, a3, ⟨⟨tx_c h.te (a6 24 (by omega)) (a6 16 (by omega)), by rw [e3, e4], by rw [a5 4 (by omega), a6 29 (by omega)]; exact h.pos, fun _ => ⟨b2, s2, k2, a4⟩⟩, fun i hi => a5 i (by omega), fun i hi => a6 i (by omega), fun _ => e, by omega⟩, e3, e4, fun g => ?_⟩
  have := q.s1 (by rw [← q.p0]; exact g)
  omega
theorem kLenI_e (wi : Nat) : kLenI wi = nI (kLen.getD wi 0) := rfl
theorem wordL_e {L b wi : Nat} {tx ps z : Nat → Nat → Int32} {nm : Nat → Int64} (ht : Tx L tx z) (hb : b ≤ 900) (e1 : ps 1 0 = nI b) (e2 : z 26 0 = nI b) (hw : kLen.getD wi 0 < 16) (K K2 : Unit → Option Int32) (hK : K () = some 1) (hK2 : K2 () = some 1) : ∀ (m g g2 k : Nat), k + m = kLen.getD wi 0 → m < g → m < g2 → ∃ r, qX7_isWord_L23 wi tx ps nm K g (nI k) = some r ∧ qX11_isWord_L35 wi z K2 g2 (nI k) = some r ∧ (r = 0 ∨ r = 1)
  | 0, g, g2, k, hk, hg, hg2 => by
    obtain ⟨g, rfl⟩ : ∃ g', g = g' + 1 := ⟨g - 1, by omega⟩
    obtain ⟨g2, rfl⟩ : ∃ g', g2 = g' + 1 := ⟨g2 - 1, by omega⟩
    have hle : nI (kLen.getD wi 0) ≤ nI k := nI_le (by omega) (by omega)
    rw [qX7_isWord_L23, qX11_isWord_L35, kLenI_e, if_pos hle, if_pos hle, hK, hK2]
    exact ⟨1, rfl, rfl, Or.inr rfl⟩
  | m + 1, g, g2, k, hk, hg, hg2 => by
    obtain ⟨g, rfl⟩ : ∃ g', g = g' + 1 := ⟨g - 1, by omega⟩
    obtain ⟨g2, rfl⟩ : ∃ g', g2 = g' + 1 := ⟨g2 - 1, by omega⟩
    have hle : ¬ nI (kLen.getD wi 0) ≤ nI k := nle (by omega) (by omega)
    rw [qX7_isWord_L23, qX11_isWord_L35, kLenI_e, if_neg hle, if_neg hle, e1, e2, nI_add, byteC_e ht (by omega), byteR_e ht (by omega), bd_s, bd_s, gdn (by omega) (by omega), gdn (by omega) (by omega), p1]
    by_cases c : rby L z (b + k) = kChr wi (nI k)
    · rw [if_pos c, if_pos c]
      exact wordL_e ht hb e1 e2 hw K K2 hK hK2 m g g2 (k + 1) (by omega) (by omega) (by omega)
    · rw [if_neg c, if_neg c]
      exact ⟨0, rfl, rfl, Or.inl rfl⟩
theorem word_e {L wi : Nat} {tx ps z : Nat → Nat → Int32} {nm : Nat → Int64} (h : Rd L tx ps z) (e : ps 3 0 = 0) (hw : wi < 9) : ∃ r, qX7_isWord tx ps nm wi = some r ∧ qX11_isWord z wi = some r ∧ (r = 0 ∨ r = 1) ∧ (r = 1 → ps 0 0 ≠ 0) := by
  obtain ⟨b, s, k, q⟩ := h.tok e
  have e2 : z 28 0 = 0 := by rw [← h.err]; exact e
  have h9 := h.te.l9
  have hbs := q.bs
  have hl := kLen_lt wi hw
  unfold qX7_isWord qX11_isWord
  rw [wrong0 e2, bd_s, if_pos rfl, q.p0, q.z27, q.p2, q.z25, q.z26, kLenI_e]
  have hsub : nI (b + s) - nI b = nI s := by rw [← nI_add, Int32.add_comm, Int32.add_sub_cancel]
  rw [hsub]
  by_cases c : k = 1
  · have hk5 : (if k = 5 then (4 : Int32) else k) = 1 := by rw [c]; rfl
    rw [if_pos c, hk5, if_pos rfl]
    by_cases d : nI s = nI (kLen.getD wi 0)
    · rw [if_pos d, if_pos d]
      obtain ⟨r, r1, r2, r3⟩ := wordL_e (nm := nm) h.te (by omega) q.p1 q.z26 hl (fun _ => some 1) (fun _ => some 1) rfl rfl (kLen.getD wi 0) fu fu 0 (by omega) (by unfold fu; omega) (by unfold fu; omega)
      exact ⟨r, r1, r2, r3, fun _ => by rw [c]; decide⟩
    · rw [if_neg d, if_neg d]
      exact ⟨0, rfl, rfl, Or.inl rfl, fun g => absurd g (by decide)⟩
  · have hk5 : ¬ (if k = 5 then (4 : Int32) else k) = 1 := by
      by_cases c5 : k = 5
      · rw [if_pos c5]
        decide
      · rw [if_neg c5]
        exact c
    rw [if_neg c, if_neg hk5]
    exact ⟨0, rfl, rfl, Or.inl rfl, fun g => absurd g (by decide)⟩
theorem word_w {z : Nat → Nat → Int32} (h : ¬ z 28 0 = 0) (wi : Nat) : qX11_isWord z wi = some 0 := by
  unfold qX11_isWord
  rw [wrong1 h, bd_s, if_neg (show ¬ (1 : Int32) = 0 by decide)]
theorem fails_w {z : Nat → Nat → Int32} (h : ¬ z 28 0 = 0) (c : Int32) : qX11_fails z c = some z := by
  unfold qX11_fails
  rw [wrong1 h, bd_s, if_neg (show ¬ (1 : Int32) = 0 by decide)]
theorem passes_w {z : Nat → Nat → Int32} (h : ¬ z 28 0 = 0) (x : Int32) : qX11_passes z x = some z := by
  unfold qX11_passes
  simp only [jn_e]
  by_cases c : x = 0
  · rw [if_pos c, fails_w h, bd_s, wrong1 h, bd_s, if_neg (show ¬ (1 : Int32) = 0 by decide)]
  · rw [if_neg c, wrong1 h, bd_s, if_neg (show ¬ (1 : Int32) = 0 by decide)]
theorem semi_w {z : Nat → Nat → Int32} (h : ¬ z 28 0 = 0) : qX11_semicolon z = some z := by
  unfold qX11_semicolon
  simp only [jn_e]
  rw [passes_w h, passes_w h, bd_s]
  by_cases c : z 27 0 = 3
  · rw [if_pos c]
  · rw [if_neg c]
theorem semi_e {L : Nat} {tx ps z : Nat → Nat → Int32} {nm : Nat → Int64} (h : Rd L tx ps z) : ∃ ps2 z2 : Nat → Nat → Int32, qX4_readSemicolon tx ps nm = some ps2 ∧ qX11_semicolon z = some z2 ∧ Stq L tx ps z ps2 z2 := by
  by_cases e : ps 3 0 = 0
  · obtain ⟨b, s, k, q⟩ := h.tok e
    have e2 : z 28 0 = 0 := by rw [← h.err]; exact e
    unfold qX4_readSemicolon qX11_semicolon qX11_passes
    simp only [jn_e]
    rw [if_pos e, q.p0, q.z27]
    by_cases c : k = 3
    · obtain ⟨ps2, z2, a1, a2, a3, a4, a5, _⟩ := adv_e (nm := nm) h e
      have hk : (if k = 5 then (4 : Int32) else k) = 3 := by rw [c]; rfl
      rw [if_pos c, a1, bd_s, hk, if_pos rfl, if_neg (show ¬ (1 : Int32) = 0 by decide), wrong0 e2, bd_s, if_pos rfl, a2, bd_s, bd_s]
      exact ⟨ps2, z2, rfl, rfl, a3⟩
    · obtain ⟨ps2, z2, a1, a2, a3, a4, a5⟩ := stop_e (nm := nm) h 1 (by decide)
      have hk : ¬ (if k = 5 then (4 : Int32) else k) = 3 := by
        by_cases c5 : k = 5
        · rw [if_pos c5]
          decide
        · rw [if_neg c5]
          exact c
      rw [if_neg c, a1, bd_s, if_neg hk, if_true, a2, bd_s, wrong1 a5, bd_s, if_neg (show ¬ (1 : Int32) = 0 by decide), bd_s]
      exact ⟨ps2, z2, rfl, rfl, a3⟩
  · have e2 : ¬ z 28 0 = 0 := by rw [← h.err]; exact e
    refine ⟨ps, z, ?_, semi_w e2, stp_r h⟩
    unfold qX4_readSemicolon
    rw [if_neg e]
def nvv (L : Nat) (z : Nat → Nat → Int32) (b : Nat) : Nat → Int32
  | 0 => 0
  | i + 1 => ((10 * nvv L z b i) + rby L z (b + i)) - 48
theorem nvv_e {L b s : Nat} {tx z : Nat → Nat → Int32} (h : Tx L tx z) (hs : s ≤ 4) (hd : ∀ i, i < s → kda tx L (b + i) = 2) : ∀ i, i ≤ s → ∃ m, m < 10 ^ i ∧ nvv L z b i = nI m
  | 0, _ => ⟨0, by decide, rfl⟩
  | i + 1, hi => by
    obtain ⟨m, h1, h2⟩ := nvv_e h hs hd i (by omega)
    have hg := (rb_all (p := b + i) h).2.1.mp (hd i (by omega))
    unfold digi at hg
    rw [Bool.and_eq_true, decide_eq_true_eq, decide_eq_true_eq, Int32.le_iff_toInt_le, Int32.le_iff_toInt_le] at hg
    have hc : ∃ d, 48 ≤ d ∧ d ≤ 57 ∧ rby L z (b + i) = nI d := by
      have h0 : ¬ rby L z (b + i) < 0 := by
        rw [Int32.lt_iff_toInt_lt, show (0 : Int32).toInt = 0 from rfl]
        have : (48 : Int32).toInt = 48 := rfl
        omega
      obtain ⟨d, d1, d2⟩ := nI_of h0
      rw [d2, nI_toInt d1, show (48 : Int32).toInt = 48 from rfl, show (57 : Int32).toInt = 57 from rfl] at hg
      exact ⟨d, by omega, by omega, d2⟩
    obtain ⟨d, d1, d2, d3⟩ := hc
    refine ⟨10 * m + (d - 48), ?_, ?_⟩
    · rw [Nat.pow_succ]
      omega
    · show ((10 * nvv L z b i) + rby L z (b + i)) - 48 = _
      rw [h2, d3, show (10 : Int32) * nI m = nI (10 * m) from nI_mul 10 m, nI_add, show 10 * m + d = (10 * m + (d - 48)) + 48 by omega, ← nI_add]
      exact Int32.add_sub_cancel _ _
theorem numC_e {L b s : Nat} {tx ps z : Nat → Nat → Int32} {nm : Nat → Int64} (h : Tx L tx z) (hb : b + s ≤ 900) (e1 : ps 1 0 = nI b) (e2 : ps 2 0 = nI s) (lo hi : Int32) (K : Int32 → Option (Int32 × (Nat → Nat → Int32))) : ∀ (m g i : Nat), i + m = s → m < g → qX4_readNumber_L43 tx ps nm lo hi K g (nvv L z b i) (nI i) = K (nvv L z b s)
  | 0, g, i, hi2, hg => by
    obtain ⟨g, rfl⟩ : ∃ g', g = g' + 1 := ⟨g - 1, by omega⟩
    obtain rfl : i = s := by omega
    rw [qX4_readNumber_L43, e2, if_pos (Int32.le_refl _)]
  | m + 1, g, i, hi2, hg => by
    obtain ⟨g, rfl⟩ : ∃ g', g = g' + 1 := ⟨g - 1, by omega⟩
    rw [qX4_readNumber_L43, e2, if_neg (nle (by omega) (by omega)), e1, nI_add, byteC_e h (by omega), bd_s, p1]
    exact numC_e h hb e1 e2 lo hi K m g (i + 1) (by omega) (by omega)
theorem numR_e {L b s : Nat} {tx z : Nat → Nat → Int32} (h : Tx L tx z) (hb : b + s ≤ 900) (e1 : z 25 0 = nI (b + s)) (lo hi : Int32) (K : Int32 → Option (Int32 × (Nat → Nat → Int32))) : ∀ (m g i : Nat), i + m = s → m < g → qX11_figure_L52 z lo hi K g (nvv L z b i) (nI (b + i)) = K (nvv L z b s)
  | 0, g, i, hi2, hg => by
    obtain ⟨g, rfl⟩ : ∃ g', g = g' + 1 := ⟨g - 1, by omega⟩
    obtain rfl : i = s := by omega
    rw [qX11_figure_L52, e1, if_pos (Int32.le_refl _)]
  | m + 1, g, i, hi2, hg => by
    obtain ⟨g, rfl⟩ : ∃ g', g = g' + 1 := ⟨g - 1, by omega⟩
    rw [qX11_figure_L52, e1, if_neg (nle (by omega) (by omega)), byteR_e h (by omega), bd_s, p1]
    exact numR_e h hb e1 lo hi K m g (i + 1) (by omega) (by omega)
theorem figu_e {L : Nat} {tx ps z : Nat → Nat → Int32} {nm : Nat → Int64} (h : Rd L tx ps z) (lo hi lo2 hi2 : Int32) (hl : ps 3 0 = 0 → lo2 = lo ∧ hi2 = hi) : ∃ (r : Int32) (ps2 : Nat → Nat → Int32) (r2 : Int32) (z2 : Nat → Nat → Int32), qX4_readNumber tx ps nm lo hi = some (r, ps2) ∧ qX11_figure z lo2 hi2 = some (r2, z2) ∧ Stq L tx ps z ps2 z2 ∧ (ps2 3 0 = 0 → r2 = r ∧ lo ≤ r ∧ r ≤ hi ∧ ∃ m, m ≤ 9999 ∧ r = nI m) := by
  by_cases e : ps 3 0 = 0
  · obtain ⟨b, s, k, q⟩ := h.tok e
    obtain ⟨l1, l2⟩ := hl e
    subst l1
    subst l2
    have e2 : z 28 0 = 0 := by rw [← h.err]; exact e
    have h9 := h.te.l9
    have hbs := q.bs
    have hsub : nI (b + s) - nI b = nI s := by rw [← nI_add, Int32.add_comm, Int32.add_sub_cancel]
    have hk2 : (if k = 5 then (4 : Int32) else k) = 2 ↔ k = 2 := by
      by_cases c5 : k = 5
      · rw [if_pos c5, c5]
        decide
      · rw [if_neg c5]
    unfold qX4_readNumber qX11_figure
    simp only [jn_e]
    rw [if_pos e, wrong0 e2, bd_s, bd_s, if_pos rfl, if_pos rfl, q.p0, q.z27, q.p2, q.z25, q.z26, hsub]
    by_cases c : k = 2 ∧ s ≤ 4
    · obtain ⟨c1, c2⟩ := c
      have hs4 : nI s ≤ (4 : Int32) := nI_le (b := 4) c2 (by omega)
      obtain ⟨m, m1, m2⟩ := nvv_e h.te c2 (fun i hi => by rw [← c1]; exact q.al (Or.inr c1) i hi) s (Nat.le_refl _)
      have hm : m ≤ 9999 := by
        have : 10 ^ s ≤ 10 ^ 4 := Nat.pow_le_pow_right (by omega) c2
        have : (10 : Nat) ^ 4 = 10000 := rfl
        omega
      rw [if_pos c1, if_pos hs4, if_pos (hk2.mpr c1), if_pos hs4, show qX4_readNumber_L43 tx ps nm lo2 hi2 _ fu 0 0 = _ from numC_e h.te (b := b) (by omega) q.p1 q.p2 lo2 hi2 _ s fu 0 (by omega) (by unfold fu; omega), show qX11_figure_L52 z lo2 hi2 _ fu 0 (nI b) = _ from numR_e h.te (b := b) (by omega) q.z25 lo2 hi2 _ s fu 0 (by omega) (by unfold fu; omega), isInR, bd_s]
      by_cases c3 : lo2 ≤ nvv L z b s ∧ nvv L z b s ≤ hi2
      · obtain ⟨ps2, z2, a1, a2, a3, a4, a5, _⟩ := adv_e (nm := nm) h e
        rw [if_pos c3, if_neg (Int32.not_lt.mpr c3.1), if_pos c3.2, a1, bd_s, if_neg (show ¬ (1 : Int32) = 0 by decide), bd_s, if_pos rfl, a2, bd_s]
        exact ⟨_, _, _, _, rfl, rfl, a3, fun _ => ⟨rfl, c3.1, c3.2, m, hm, m2⟩⟩
      · obtain ⟨ps2, z2, a1, a2, a3, a4, a5⟩ := stop_e (nm := nm) h 2 (by decide)
        have hC : (if nvv L z b s < lo2 then bd (qX4_stopAt tx ps nm 2) fun ps_9 => some (-1, ps_9) else if nvv L z b s ≤ hi2 then bd (qX7_goToNext tx ps nm) fun ps_10 => some (nvv L z b s, ps_10) else bd (qX4_stopAt tx ps nm 2) fun ps_9 => some (-1, ps_9)) = some (-1, ps2) := by
          rw [a1, bd_s]
          by_cases d : nvv L z b s < lo2
          · rw [if_pos d]
          · rw [if_neg d, if_neg (fun g => c3 ⟨Int32.not_lt.mp d, g⟩)]
        rw [hC, if_neg c3, if_pos rfl, a2, bd_s, wrong1 a5, bd_s, if_neg (show ¬ (1 : Int32) = 0 by decide)]
        exact ⟨_, _, _, _, rfl, rfl, a3, fun g => absurd g a4⟩
    · obtain ⟨ps2, z2, a1, a2, a3, a4, a5⟩ := stop_e (nm := nm) h 1 (by decide)
      rw [a1, bd_s, a2, bd_s, wrong1 a5, bd_s, if_neg (show ¬ (1 : Int32) = 0 by decide)]
      by_cases c1 : k = 2
      · have hs4 : ¬ nI s ≤ (4 : Int32) := nle (b := 4) (by have : ¬ s ≤ 4 := fun g => c ⟨c1, g⟩; omega) (by omega)
        rw [if_pos c1, if_neg hs4, if_pos (hk2.mpr c1), if_neg hs4]
        exact ⟨_, _, _, _, rfl, rfl, a3, fun g => absurd g a4⟩
      · rw [if_neg c1, if_neg (fun g => c1 (hk2.mp g))]
        exact ⟨_, _, _, _, rfl, rfl, a3, fun g => absurd g a4⟩
  · have e2 : ¬ z 28 0 = 0 := by rw [← h.err]; exact e
    unfold qX4_readNumber qX11_figure
    rw [if_neg e, wrong1 e2, bd_s, if_neg (show ¬ (1 : Int32) = 0 by decide)]
    exact ⟨_, _, _, _, rfl, rfl, stp_r h, fun g => absurd g e⟩
