-- tokens in step
def kda (tx : Nat → Nat → Int32) (L p : Nat) : Int32 := if p < L then kdc (tx 1 p) else 0
def Tx (L : Nat) (tx : Nat → Nat → Int32) (z : Nat → Nat → Int32) : Prop :=
  (L ≤ 900) ∧
  (tx 0 0 = nI L) ∧
  (z 24 0 = nI L) ∧
  (∀ i, i < L → z 16 i = tx 1 i &&& 255 ∧ -128 ≤ (tx 1 i).toInt ∧ (tx 1 i).toInt < 128)
theorem Tx.l9 {L : Nat} {tx : Nat → Nat → Int32} {z : Nat → Nat → Int32} (h : Tx L tx z) : L ≤ 900 := h.1
theorem Tx.tl {L : Nat} {tx : Nat → Nat → Int32} {z : Nat → Nat → Int32} (h : Tx L tx z) : tx 0 0 = nI L := h.2.1
theorem Tx.zl {L : Nat} {tx : Nat → Nat → Int32} {z : Nat → Nat → Int32} (h : Tx L tx z) : z 24 0 = nI L := h.2.2.1
theorem Tx.ch {L : Nat} {tx : Nat → Nat → Int32} {z : Nat → Nat → Int32} (h : Tx L tx z) : ∀ i, i < L → z 16 i = tx 1 i &&& 255 ∧ -128 ≤ (tx 1 i).toInt ∧ (tx 1 i).toInt < 128 := h.2.2.2
theorem tx_c {L : Nat} {tx z z2 : Nat → Nat → Int32} (h : Tx L tx z) (h1 : z2 24 = z 24) (h2 : z2 16 = z 16) : Tx L tx z2 := ⟨h.l9, h.tl, by rw [h1]; exact h.zl, by rw [h2]; exact h.ch⟩
theorem kdc_k (c : Int32) : (if c < 97 then (if c < 48 then (if c = 10 then some (4 : Int32) else if c = 32 then some 4 else if c = 59 then some 3 else some 5) else if 57 < c then (if c = 10 then some 4 else if c = 32 then some 4 else if c = 59 then some 3 else some 5) else some 2) else if 122 < c then (if c < 48 then (if c = 10 then some 4 else if c = 32 then some 4 else if c = 59 then some 3 else some 5) else if 57 < c then (if c = 10 then some 4 else if c = 32 then some 4 else if c = 59 then some 3 else some 5) else some 2) else some 1) = some (kdc c) := by
  have l1 : lett c = true ↔ ¬ c < 97 ∧ ¬ 122 < c := by
    unfold lett
    rw [Bool.and_eq_true, decide_eq_true_eq, decide_eq_true_eq, Int32.not_lt, Int32.not_lt]
  have d1 : digi c = true ↔ ¬ c < 48 ∧ ¬ 57 < c := by
    unfold digi
    rw [Bool.and_eq_true, decide_eq_true_eq, decide_eq_true_eq, Int32.not_lt, Int32.not_lt]
  have hB : (if c = 10 then some (4 : Int32) else if c = 32 then some 4 else if c = 59 then some 3 else some 5) = some (if c = 10 ∨ c = 32 then 4 else if c = 59 then 3 else 5) := by
    by_cases a : c = 10
    · rw [if_pos a, if_pos (Or.inl a)]
    · rw [if_neg a]
      by_cases b : c = 32
      · rw [if_pos b, if_pos (Or.inr b)]
      · rw [if_neg b, if_neg (show ¬ (c = 10 ∨ c = 32) from fun g => g.elim a b)]
        by_cases d : c = 59
        · rw [if_pos d, if_pos d]
        · rw [if_neg d, if_neg d]
  have hA : (if c < 48 then (if c = 10 then some (4 : Int32) else if c = 32 then some 4 else if c = 59 then some 3 else some 5) else if 57 < c then (if c = 10 then some 4 else if c = 32 then some 4 else if c = 59 then some 3 else some 5) else some 2) = some (if digi c = true then 2 else if c = 10 ∨ c = 32 then 4 else if c = 59 then 3 else 5) := by
    rw [hB]
    by_cases a : c < 48
    · rw [if_pos a, if_neg (fun g => (d1.mp g).1 a)]
    · rw [if_neg a]
      by_cases b : 57 < c
      · rw [if_pos b, if_neg (fun g => (d1.mp g).2 b)]
      · rw [if_neg b, if_pos (d1.mpr ⟨a, b⟩)]
  rw [hA]
  unfold kdc
  by_cases a : c < 97
  · rw [if_pos a, if_neg (fun g => (l1.mp g).1 a)]
  · rw [if_neg a]
    by_cases b : 122 < c
    · rw [if_pos b, if_neg (fun g => (l1.mp g).2 b)]
    · rw [if_neg b, if_pos (l1.mpr ⟨a, b⟩)]
theorem kindAt_e {L p : Nat} {tx z : Nat → Nat → Int32} (h : Tx L tx z) (hp : p ≤ L) : qX6_kindAt tx (nI p) = some (kda tx L p) := by
  have h9 := h.l9
  unfold qX6_kindAt kda
  rw [if_neg (nI_pos (show p < 2 ^ 31 by omega)), h.tl]
  by_cases c : p < L
  · rw [if_pos ((nI_ltI (by omega) (by omega)).mpr c), if_pos c, gdn (by omega) (by omega), cl (by omega)]
    simp only [jn_e]
    exact kdc_k _
  · rw [if_neg (fun g => c ((nI_ltI (by omega) (by omega)).mp g)), if_neg c]
def rby (L : Nat) (z : Nat → Nat → Int32) (p : Nat) : Int32 := if p < L then z 16 p else -1
theorem byteR_e {L p : Nat} {tx z : Nat → Nat → Int32} (h : Tx L tx z) (hp : p < 2000) : qX11_byteAt z (nI p) = some (rby L z p) := by
  have h9 := h.l9
  unfold qX11_byteAt rby
  rw [h.zl]
  by_cases c : p < L
  · rw [if_neg (nle c (by omega)), if_pos c, gdn (by omega) (by omega), cl (by omega)]
  · rw [if_pos (nI_le (by omega) (by omega)), if_neg c]
theorem byteC_e {L p : Nat} {tx z : Nat → Nat → Int32} (h : Tx L tx z) (hp : p < 2000) : qX6_byteAt tx (nI p) = some (rby L z p) := by
  have h9 := h.l9
  unfold qX6_byteAt rby
  rw [if_neg (nI_pos (show p < 2 ^ 31 by omega)), h.tl]
  by_cases c : p < L
  · rw [if_pos ((nI_ltI (by omega) (by omega)).mpr c), if_pos c, gdn (by omega) (by omega), cl (by omega), (h.ch p c).1]
  · rw [if_neg (fun g => c ((nI_ltI (by omega) (by omega)).mp g)), if_neg c]
theorem isLetter_e (c : Int32) : qX11_isLetter c = some (if lett c = true then 1 else 0) := by
  have l1 : lett c = true ↔ ¬ c < 97 ∧ ¬ 122 < c := by
    unfold lett
    rw [Bool.and_eq_true, decide_eq_true_eq, decide_eq_true_eq, Int32.not_lt, Int32.not_lt]
  unfold qX11_isLetter
  by_cases a : c < 97
  · rw [if_pos a, if_neg (fun g => (l1.mp g).1 a)]
  · rw [if_neg a]
    by_cases b : 122 < c
    · rw [if_pos b, if_neg (fun g => (l1.mp g).2 b)]
    · rw [if_neg b, if_pos (l1.mpr ⟨a, b⟩)]
theorem isDigit_e (c : Int32) : qX11_isDigit c = some (if digi c = true then 1 else 0) := by
  have l1 : digi c = true ↔ ¬ c < 48 ∧ ¬ 57 < c := by
    unfold digi
    rw [Bool.and_eq_true, decide_eq_true_eq, decide_eq_true_eq, Int32.not_lt, Int32.not_lt]
  unfold qX11_isDigit
  by_cases a : c < 48
  · rw [if_pos a, if_neg (fun g => (l1.mp g).1 a)]
  · rw [if_neg a]
    by_cases b : 57 < c
    · rw [if_pos b, if_neg (fun g => (l1.mp g).2 b)]
    · rw [if_neg b, if_pos (l1.mpr ⟨a, b⟩)]
/-- what a byte is on both sides -/
theorem rb_all {L p : Nat} {tx z : Nat → Nat → Int32} (h : Tx L tx z) : (kda tx L p = 1 ↔ lett (rby L z p) = true) ∧ (kda tx L p = 2 ↔ digi (rby L z p) = true) ∧ (kda tx L p = 4 ↔ (rby L z p = 10 ∨ rby L z p = 32)) ∧ (kda tx L p = 3 ↔ rby L z p = 59) ∧ (rby L z p = -1 ↔ kda tx L p = 0) ∧ (kda tx L p = 0 ↔ L ≤ p) ∧ (kda tx L p = 0 ∨ kda tx L p = 1 ∨ kda tx L p = 2 ∨ kda tx L p = 3 ∨ kda tx L p = 4 ∨ kda tx L p = 5) := by
  unfold kda rby
  by_cases c : p < L
  · rw [if_pos c, if_pos c, (h.ch p c).1]
    obtain ⟨m, hm, e⟩ := sby (h.ch p c).2
    rw [e]
    obtain ⟨⟨g1, g2, g3, g4, g5, g6⟩, g7⟩ := sb_all m hm
    have g0 : kdc (nI m - 128) ≠ 0 := by
      intro g
      rw [g] at g7
      rcases g7 with g7 | g7 | g7 | g7 | g7 <;> exact absurd g7 (by decide)
    exact ⟨g1, g2, g3, g4, ⟨fun g => absurd g g5, fun g => absurd g g0⟩, ⟨fun g => absurd g g0, fun g => absurd c (by omega)⟩, Or.inr g7⟩
  · rw [if_neg c, if_neg c]
    refine ⟨⟨fun g => absurd g (by decide), fun g => absurd g (by decide)⟩, ⟨fun g => absurd g (by decide), fun g => absurd g (by decide)⟩, ⟨fun g => absurd g (by decide), fun g => absurd g (by decide)⟩, ⟨fun g => absurd g (by decide), fun g => absurd g (by decide)⟩, ⟨fun _ => rfl, fun _ => rfl⟩, ⟨fun _ => by omega, fun _ => rfl⟩, Or.inl rfl⟩
theorem blank_e {L : Nat} {tx : Nat → Nat → Int32} {nm : Nat → Int64} : ∀ (m g g2 p : Nat) (ps z : Nat → Nat → Int32), Tx L tx z → p + m = L → m < g → m < g2 → ps 1 0 = nI p → z 25 0 = nI p → ∃ (q : Nat) (ps2 z2 : Nat → Nat → Int32), p ≤ q ∧ q ≤ L ∧ kda tx L q ≠ 4 ∧ (∀ K, qX7_goToNext_L13 tx nm K g ps = K ps2) ∧ (∀ K, qX11_token_L0 K g2 z = K z2) ∧ ps2 1 0 = nI q ∧ z2 25 0 = nI q ∧ (∀ i, i ≠ 1 → ps2 i = ps i) ∧ ∀ i, i ≠ 25 → z2 i = z i
  | 0, g, g2, p, ps, z, h, hp, hg, hg2, e1, e2 => by
    obtain ⟨g, rfl⟩ : ∃ g', g = g' + 1 := ⟨g - 1, by omega⟩
    obtain ⟨g2, rfl⟩ : ∃ g', g2 = g' + 1 := ⟨g2 - 1, by omega⟩
    obtain rfl : p = L := by omega
    have h9 := h.l9
    have hr := rb_all (p := p) h
    have hk : kda tx p p = 0 := hr.2.2.2.2.2.1.mpr (Nat.le_refl _)
    have hm := hr.2.2.2.2.1.mpr hk
    refine ⟨p, ps, z, Nat.le_refl _, Nat.le_refl _, by rw [hk]; decide, fun K => ?_, fun K => ?_, e1, e2, fun _ _ => rfl, fun _ _ => rfl⟩
    · rw [qX7_goToNext_L13, h.tl, e1, if_pos (Int32.le_refl _)]
    · rw [qX11_token_L0, e2, byteR_e h (by omega), bd_s, jn_e, hm, if_neg (show ¬ (-1 : Int32) = 10 by decide), bd_s, if_neg (show ¬ (-1 : Int32) = 32 by decide)]
  | m + 1, g, g2, p, ps, z, h, hp, hg, hg2, e1, e2 => by
    obtain ⟨g, rfl⟩ : ∃ g', g = g' + 1 := ⟨g - 1, by omega⟩
    obtain ⟨g2, rfl⟩ : ∃ g', g2 = g' + 1 := ⟨g2 - 1, by omega⟩
    have h9 := h.l9
    have hr := rb_all (p := p) h
    by_cases c : kda tx L p = 4
    · have hc := hr.2.2.1.mp c
      obtain ⟨q, ps2, z2, a1, a2, a3, a4, a5, a6, a7, a8, a9⟩ := blank_e m g g2 (p + 1) (va_up ps 1 (fun _ => nI (p + 1))) (va_up z 25 (fun _ => nI (p + 1))) (tx_c h (va_n (by omega)) (va_n (by omega))) (by omega) (by omega) (by omega) (by rw [va_s]) (by rw [va_s])
      refine ⟨q, ps2, z2, by omega, a2, a3, fun K => ?_, fun K => ?_, a6, a7, fun i hi => by rw [a8 i hi, va_n hi], fun i hi => by rw [a9 i hi, va_n hi]⟩
      · rw [qX7_goToNext_L13, h.tl, e1, if_neg (nle (by omega) (by omega)), kindAt_e h (by omega), bd_s, if_pos c, bs_e, p1]
        exact a4 K
      · rw [qX11_token_L0, e2, byteR_e h (by omega), bd_s, jn_e]
        by_cases d : rby L z p = 10
        · rw [if_pos d, bs_e, p1]
          exact a5 K
        · rw [if_neg d, bd_s, if_pos (hc.resolve_left d), bs_e, p1]
          exact a5 K
    · have hc : ¬ (rby L z p = 10 ∨ rby L z p = 32) := fun g => c (hr.2.2.1.mpr g)
      refine ⟨p, ps, z, Nat.le_refl _, by omega, c, fun K => ?_, fun K => ?_, e1, e2, fun _ _ => rfl, fun _ _ => rfl⟩
      · rw [qX7_goToNext_L13, h.tl, e1, if_neg (nle (by omega) (by omega)), kindAt_e h (by omega), bd_s, if_neg c]
      · rw [qX11_token_L0, e2, byteR_e h (by omega), bd_s, jn_e, if_neg (fun g => hc (Or.inl g)), bd_s, if_neg (fun g => hc (Or.inr g))]
theorem wordC_e {L b : Nat} {tx z : Nat → Nat → Int32} {nm : Nat → Int64} {k : Int32} (h : Tx L tx z) (hk0 : k ≠ 0) : ∀ (m g s : Nat) (ps : Nat → Nat → Int32), b + s + m = L → m < g → ps 0 0 = k → ps 1 0 = nI b → ps 2 0 = nI s → ∃ (s2 : Nat) (ps2 : Nat → Nat → Int32), s ≤ s2 ∧ b + s2 ≤ L ∧ (∀ i, s ≤ i → i < s2 → kda tx L (b + i) = k) ∧ kda tx L (b + s2) ≠ k ∧ (∀ K, qX7_goToNext_L108 tx nm 1 K g ps = K ps2) ∧ ps2 2 0 = nI s2 ∧ ∀ i, i ≠ 2 → ps2 i = ps i
  | 0, g, s, ps, hp, hg, e0, e1, e2 => by
    obtain ⟨g, rfl⟩ : ∃ g', g = g' + 1 := ⟨g - 1, by omega⟩
    have h9 := h.l9
    have hk : kda tx L (b + s) = 0 := (rb_all h).2.2.2.2.2.1.mpr (by omega)
    refine ⟨s, ps, Nat.le_refl _, by omega, fun i h1 h2 => absurd h2 (by omega), by rw [hk]; exact hk0.symm, fun K => ?_, e2, fun _ _ => rfl⟩
    rw [qX7_goToNext_L108, if_neg (show ¬ (1 : Int32) = 0 by decide), h.tl, e1, e2, nI_add, if_pos (nI_le (by omega) (by omega))]
  | m + 1, g, s, ps, hp, hg, e0, e1, e2 => by
    obtain ⟨g, rfl⟩ : ∃ g', g = g' + 1 := ⟨g - 1, by omega⟩
    have h9 := h.l9
    by_cases c : kda tx L (b + s) = k
    · obtain ⟨s2, ps2, a1, a2, a3, a4, a5, a6, a7⟩ := wordC_e (b := b) h hk0 m g (s + 1) (va_up ps 2 (fun _ => nI (s + 1))) (by omega) (by omega) (by rw [va_n (by omega)]; exact e0) (by rw [va_n (by omega)]; exact e1) (by rw [va_s])
      refine ⟨s2, ps2, by omega, a2, fun i h1 h2 => ?_, a4, fun K => ?_, a6, fun i hi => by rw [a7 i hi, va_n hi]⟩
      · by_cases e : i = s
        · subst e
          exact c
        · exact a3 i (by omega) h2
      · rw [qX7_goToNext_L108, if_neg (show ¬ (1 : Int32) = 0 by decide), h.tl, e1, e2, nI_add, if_neg (nle (by omega) (by omega)), kindAt_e h (by omega), bd_s, e0, if_pos c, bs_e, p1]
        exact a5 K
    · refine ⟨s, ps, Nat.le_refl _, by omega, fun i h1 h2 => absurd h2 (by omega), c, fun K => ?_, e2, fun _ _ => rfl⟩
      rw [qX7_goToNext_L108, if_neg (show ¬ (1 : Int32) = 0 by decide), h.tl, e1, e2, nI_add, if_neg (nle (by omega) (by omega)), kindAt_e h (by omega), bd_s, e0, if_neg c]
theorem wordR1_e {L : Nat} {tx : Nat → Nat → Int32} : ∀ (m g q : Nat) (z : Nat → Nat → Int32), Tx L tx z → q + m = L → m < g → z 25 0 = nI q → ∃ (q2 : Nat) (z2 : Nat → Nat → Int32), q ≤ q2 ∧ q2 ≤ L ∧ (∀ i, q ≤ i → i < q2 → kda tx L i = 1) ∧ kda tx L q2 ≠ 1 ∧ (∀ K, qX11_token_L76 K g z = K z2) ∧ z2 25 0 = nI q2 ∧ ∀ i, i ≠ 25 → z2 i = z i
  | 0, g, q, z, h, hp, hg, e => by
    obtain ⟨g, rfl⟩ : ∃ g', g = g' + 1 := ⟨g - 1, by omega⟩
    have h9 := h.l9
    have hr := rb_all (p := q) h
    have hk : kda tx L q = 0 := hr.2.2.2.2.2.1.mpr (by omega)
    have hk1 : kda tx L q ≠ 1 := by rw [hk]; decide
    refine ⟨q, z, Nat.le_refl _, by omega, fun i h1 h2 => absurd h2 (by omega), hk1, fun K => ?_, e, fun _ _ => rfl⟩
    rw [qX11_token_L76, e, byteR_e h (by omega), bd_s, isLetter_e, bd_s, if_neg (fun g => hk1 (hr.1.mpr g)), if_pos rfl]
  | m + 1, g, q, z, h, hp, hg, e => by
    obtain ⟨g, rfl⟩ : ∃ g', g = g' + 1 := ⟨g - 1, by omega⟩
    have h9 := h.l9
    have hr := rb_all (p := q) h
    by_cases c : kda tx L q = 1
    · obtain ⟨q2, z2, a1, a2, a3, a4, a5, a6, a7⟩ := wordR1_e m g (q + 1) (va_up z 25 (fun _ => nI (q + 1))) (tx_c h (va_n (by omega)) (va_n (by omega))) (by omega) (by omega) (by rw [va_s])
      refine ⟨q2, z2, by omega, a2, fun i h1 h2 => ?_, a4, fun K => ?_, a6, fun i hi => by rw [a7 i hi, va_n hi]⟩
      · by_cases e : i = q
        · subst e
          exact c
        · exact a3 i (by omega) h2
      · rw [qX11_token_L76, e, byteR_e h (by omega), bd_s, isLetter_e, bd_s, if_pos (hr.1.mp c), if_neg (show ¬ (1 : Int32) = 0 by decide), bs_e, p1]
        exact a5 K
    · refine ⟨q, z, Nat.le_refl _, by omega, fun i h1 h2 => absurd h2 (by omega), c, fun K => ?_, e, fun _ _ => rfl⟩
      rw [qX11_token_L76, e, byteR_e h (by omega), bd_s, isLetter_e, bd_s, if_neg (fun g => c (hr.1.mpr g)), if_pos rfl]
theorem wordR2_e {L : Nat} {tx : Nat → Nat → Int32} : ∀ (m g q : Nat) (z : Nat → Nat → Int32), Tx L tx z → q + m = L → m < g → z 25 0 = nI q → ∃ (q2 : Nat) (z2 : Nat → Nat → Int32), q ≤ q2 ∧ q2 ≤ L ∧ (∀ i, q ≤ i → i < q2 → kda tx L i = 2) ∧ kda tx L q2 ≠ 2 ∧ (∀ K, qX11_token_L118 K g z = K z2) ∧ z2 25 0 = nI q2 ∧ ∀ i, i ≠ 25 → z2 i = z i
  | 0, g, q, z, h, hp, hg, e => by
    obtain ⟨g, rfl⟩ : ∃ g', g = g' + 1 := ⟨g - 1, by omega⟩
    have h9 := h.l9
    have hr := rb_all (p := q) h
    have hk : kda tx L q = 0 := hr.2.2.2.2.2.1.mpr (by omega)
    have hk1 : kda tx L q ≠ 2 := by rw [hk]; decide
    refine ⟨q, z, Nat.le_refl _, by omega, fun i h1 h2 => absurd h2 (by omega), hk1, fun K => ?_, e, fun _ _ => rfl⟩
    rw [qX11_token_L118, e, byteR_e h (by omega), bd_s, isDigit_e, bd_s, if_neg (fun g => hk1 (hr.2.1.mpr g)), if_pos rfl]
  | m + 1, g, q, z, h, hp, hg, e => by
    obtain ⟨g, rfl⟩ : ∃ g', g = g' + 1 := ⟨g - 1, by omega⟩
    have h9 := h.l9
    have hr := rb_all (p := q) h
    by_cases c : kda tx L q = 2
    · obtain ⟨q2, z2, a1, a2, a3, a4, a5, a6, a7⟩ := wordR2_e m g (q + 1) (va_up z 25 (fun _ => nI (q + 1))) (tx_c h (va_n (by omega)) (va_n (by omega))) (by omega) (by omega) (by rw [va_s])
      refine ⟨q2, z2, by omega, a2, fun i h1 h2 => ?_, a4, fun K => ?_, a6, fun i hi => by rw [a7 i hi, va_n hi]⟩
      · by_cases e : i = q
        · subst e
          exact c
        · exact a3 i (by omega) h2
      · rw [qX11_token_L118, e, byteR_e h (by omega), bd_s, isDigit_e, bd_s, if_pos (hr.2.1.mp c), if_neg (show ¬ (1 : Int32) = 0 by decide), bs_e, p1]
        exact a5 K
    · refine ⟨q, z, Nat.le_refl _, by omega, fun i h1 h2 => absurd h2 (by omega), c, fun K => ?_, e, fun _ _ => rfl⟩
      rw [qX11_token_L118, e, byteR_e h (by omega), bd_s, isDigit_e, bd_s, if_neg (fun g => c (hr.2.1.mpr g)), if_pos rfl]
def Tok (L b s : Nat) (k : Int32) (tx : Nat → Nat → Int32) (ps : Nat → Nat → Int32) (z : Nat → Nat → Int32) : Prop :=
  (b + s ≤ L) ∧
  (ps 1 0 = nI b) ∧
  (z 26 0 = nI b) ∧
  (ps 2 0 = nI s) ∧
  (z 25 0 = nI (b + s)) ∧
  (ps 0 0 = k) ∧
  (z 27 0 = if k = 5 then 4 else k) ∧
  (k = kda tx L b) ∧
  (k ≠ 4) ∧
  (k = 1 ∨ k = 2 → ∀ i, i < s → kda tx L (b + i) = k) ∧
  (k = 0 → s = 0) ∧
  (k ≠ 0 → 1 ≤ s)
theorem Tok.bs {L b s : Nat} {k : Int32} {tx : Nat → Nat → Int32} {ps : Nat → Nat → Int32} {z : Nat → Nat → Int32} (h : Tok L b s k tx ps z) : b + s ≤ L := h.1
theorem Tok.p1 {L b s : Nat} {k : Int32} {tx : Nat → Nat → Int32} {ps : Nat → Nat → Int32} {z : Nat → Nat → Int32} (h : Tok L b s k tx ps z) : ps 1 0 = nI b := h.2.1
theorem Tok.z26 {L b s : Nat} {k : Int32} {tx : Nat → Nat → Int32} {ps : Nat → Nat → Int32} {z : Nat → Nat → Int32} (h : Tok L b s k tx ps z) : z 26 0 = nI b := h.2.2.1
theorem Tok.p2 {L b s : Nat} {k : Int32} {tx : Nat → Nat → Int32} {ps : Nat → Nat → Int32} {z : Nat → Nat → Int32} (h : Tok L b s k tx ps z) : ps 2 0 = nI s := h.2.2.2.1
theorem Tok.z25 {L b s : Nat} {k : Int32} {tx : Nat → Nat → Int32} {ps : Nat → Nat → Int32} {z : Nat → Nat → Int32} (h : Tok L b s k tx ps z) : z 25 0 = nI (b + s) := h.2.2.2.2.1
theorem Tok.p0 {L b s : Nat} {k : Int32} {tx : Nat → Nat → Int32} {ps : Nat → Nat → Int32} {z : Nat → Nat → Int32} (h : Tok L b s k tx ps z) : ps 0 0 = k := h.2.2.2.2.2.1
theorem Tok.z27 {L b s : Nat} {k : Int32} {tx : Nat → Nat → Int32} {ps : Nat → Nat → Int32} {z : Nat → Nat → Int32} (h : Tok L b s k tx ps z) : z 27 0 = if k = 5 then 4 else k := h.2.2.2.2.2.2.1
theorem Tok.kd {L b s : Nat} {k : Int32} {tx : Nat → Nat → Int32} {ps : Nat → Nat → Int32} {z : Nat → Nat → Int32} (h : Tok L b s k tx ps z) : k = kda tx L b := h.2.2.2.2.2.2.2.1
theorem Tok.k4 {L b s : Nat} {k : Int32} {tx : Nat → Nat → Int32} {ps : Nat → Nat → Int32} {z : Nat → Nat → Int32} (h : Tok L b s k tx ps z) : k ≠ 4 := h.2.2.2.2.2.2.2.2.1
theorem Tok.al {L b s : Nat} {k : Int32} {tx : Nat → Nat → Int32} {ps : Nat → Nat → Int32} {z : Nat → Nat → Int32} (h : Tok L b s k tx ps z) : k = 1 ∨ k = 2 → ∀ i, i < s → kda tx L (b + i) = k := h.2.2.2.2.2.2.2.2.2.1
theorem Tok.s0 {L b s : Nat} {k : Int32} {tx : Nat → Nat → Int32} {ps : Nat → Nat → Int32} {z : Nat → Nat → Int32} (h : Tok L b s k tx ps z) : k = 0 → s = 0 := h.2.2.2.2.2.2.2.2.2.2.1
theorem Tok.s1 {L b s : Nat} {k : Int32} {tx : Nat → Nat → Int32} {ps : Nat → Nat → Int32} {z : Nat → Nat → Int32} (h : Tok L b s k tx ps z) : k ≠ 0 → 1 ≤ s := h.2.2.2.2.2.2.2.2.2.2.2
theorem nextC_e {L q : Nat} {tx z : Nat → Nat → Int32} {nm : Nat → Int64} {ps : Nat → Nat → Int32} (h : Tx L tx z) (hq : q ≤ L) (h4 : kda tx L q ≠ 4) (e1 : ps 1 0 = nI q) : ∃ (s : Nat) (ps4 : Nat → Nat → Int32), (bd (qX6_kindAt tx (ps 1 0)) fun r_6 => (bs (va_up ps 0 (fun _ => r_6)) fun ps_7 => (jn (fun (y_8 : Int32) => (bs (va_up ps_7 2 (fun _ => y_8)) fun ps_9 => (jn (fun (y_10 : Int32) => (qX7_goToNext_L108 tx nm y_10 (fun (ps_13 : Nat → Nat → Int32) => some ps_13) fu  ps_9)) fun j107 => jn (fun (_ : Unit) => (j107 1)) fun j102 => if (ps_9 0 0) = 1 then (j102 ()) else if (ps_9 0 0) = 2 then (j102 ()) else (j107 0)))) fun j83 => if (ps_7 0 0) = 0 then (j83 0) else (j83 1)))) = some ps4 ∧ ps4 0 0 = kda tx L q ∧ ps4 1 0 = nI q ∧ ps4 2 0 = nI s ∧ q + s ≤ L ∧ (kda tx L q = 0 → s = 0) ∧ (kda tx L q ≠ 0 → 1 ≤ s) ∧ (kda tx L q = 1 ∨ kda tx L q = 2 → (∀ i, i < s → kda tx L (q + i) = kda tx L q) ∧ kda tx L (q + s) ≠ kda tx L q) ∧ (kda tx L q ≠ 0 → kda tx L q ≠ 1 → kda tx L q ≠ 2 → s = 1) ∧ ∀ i, 3 ≤ i → ps4 i = ps i := by
  have h9 := h.l9
  have hr := rb_all (p := q) h
  rw [e1, kindAt_e h hq, bd_s, bs_e]
  simp only [jn_e, bs_e]
  rw [va_s]
  by_cases c0 : kda tx L q = 0
  · rw [if_pos c0, va_n (show (0 : Nat) ≠ 2 by omega), va_s, c0, if_neg (show ¬ (0 : Int32) = 1 by decide), if_neg (show ¬ (0 : Int32) = 2 by decide), show fu = 3999 + 1 from rfl, qX7_goToNext_L108, if_pos rfl]
    exact ⟨0, _, rfl, by rw [va_n (by omega), va_s], by rw [va_n (by omega), va_n (by omega)]; exact e1, by rw [va_s]; rfl, by omega, fun _ => rfl, fun g => absurd rfl g, fun g => (by rcases g with g | g <;> exact absurd g (by decide)), fun g => absurd rfl g, fun i hi => by rw [va_n (by omega), va_n (by omega)]⟩
  · have hL : q < L := by
      have := hr.2.2.2.2.2.1
      rcases Nat.lt_or_ge q L with g | g
      · exact g
      · exact absurd (this.mpr g) c0
    rw [if_neg c0, va_n (show (0 : Nat) ≠ 2 by omega), va_s]
    by_cases c12 : kda tx L q = 1 ∨ kda tx L q = 2
    · obtain ⟨s2, ps2, a1, a2, a3, a4, a5, a6, a7⟩ := wordC_e (nm := nm) (b := q) h c0 (L - (q + 1)) fu 1 (va_up (va_up ps 0 (fun _ => kda tx L q)) 2 (fun _ => 1)) (by omega) (by unfold fu; omega) (by rw [va_n (by omega), va_s]) (by rw [va_n (by omega), va_n (by omega)]; exact e1) (by rw [va_s]; rfl)
      have hX : (if kda tx L q = 1 then qX7_goToNext_L108 tx nm 1 (fun (ps_13 : Nat → Nat → Int32) => some ps_13) fu (va_up (va_up ps 0 (fun _ => kda tx L q)) 2 (fun _ => 1)) else if kda tx L q = 2 then qX7_goToNext_L108 tx nm 1 (fun (ps_13 : Nat → Nat → Int32) => some ps_13) fu (va_up (va_up ps 0 (fun _ => kda tx L q)) 2 (fun _ => 1)) else qX7_goToNext_L108 tx nm 0 (fun (ps_13 : Nat → Nat → Int32) => some ps_13) fu (va_up (va_up ps 0 (fun _ => kda tx L q)) 2 (fun _ => 1))) = some ps2 := by
        rw [a5]
        rcases c12 with c | c
        · rw [if_pos c]
        · rw [if_neg (show ¬ kda tx L q = 1 by rw [c]; decide), if_pos c]
      refine ⟨s2, ps2, hX, by rw [a7 0 (by omega), va_n (by omega), va_s], by rw [a7 1 (by omega), va_n (by omega), va_n (by omega)]; exact e1, a6, a2, fun g => absurd g c0, fun _ => a1, fun _ => ⟨fun i hi => ?_, a4⟩, fun _ g1 g2 => absurd c12 (fun g => g.elim g1 g2), fun i hi => by rw [a7 i (by omega), va_n (by omega), va_n (by omega)]⟩
      by_cases e : i = 0
      · subst e
        rfl
      · exact a3 i (by omega) hi
    · have n1 : ¬ kda tx L q = 1 := fun g => c12 (Or.inl g)
      have n2 : ¬ kda tx L q = 2 := fun g => c12 (Or.inr g)
      rw [if_neg n1, if_neg n2, show fu = 3999 + 1 from rfl, qX7_goToNext_L108, if_pos rfl]
      exact ⟨1, _, rfl, by rw [va_n (by omega), va_s], by rw [va_n (by omega), va_n (by omega)]; exact e1, by rw [va_s]; rfl, by omega, fun g => absurd g c0, fun _ => Nat.le_refl _, fun g => absurd g c12, fun _ _ _ => rfl, fun i hi => by rw [va_n (by omega), va_n (by omega)]⟩
theorem nextR_e {L q : Nat} {tx z : Nat → Nat → Int32} (h : Tx L tx z) (hq : q ≤ L) (h4 : kda tx L q ≠ 4) (e1 : z 25 0 = nI q) : ∃ (e : Nat) (z4 : Nat → Nat → Int32), (bs (va_up z 26 (fun _ => (z 25 0))) fun z_6 => bd (qX11_byteAt z_6 (z_6 25 0)) fun r_7 => if r_7 = (-1) then (bs (va_up z_6 27 (fun _ => 0)) fun z_25 => some z_25) else bd (qX11_isLetter r_7) fun r_8 => if r_8 = 0 then bd (qX11_isDigit r_7) fun r_9 => if r_9 = 0 then (bs (va_up z_6 25 (fun _ => ((z_6 25 0) + 1))) fun z_10 => (jn (fun (y_11 : Int32) => (bs (va_up z_10 27 (fun _ => y_11)) fun z_12 => some z_12)) fun j175 => if r_7 = 59 then (j175 3) else (j175 4))) else (qX11_token_L118   (fun (z_14 : Nat → Nat → Int32) => (bs (va_up z_14 27 (fun _ => 2)) fun z_18 => some z_18)) fu  z_6) else (qX11_token_L76   (fun (z_20 : Nat → Nat → Int32) => (bs (va_up z_20 27 (fun _ => 1)) fun z_24 => some z_24)) fu  z_6)) = some z4 ∧ z4 26 0 = nI q ∧ z4 25 0 = nI e ∧ z4 27 0 = (if kda tx L q = 5 then 4 else kda tx L q) ∧ q ≤ e ∧ e ≤ L ∧ (kda tx L q = 0 → e = q) ∧ (kda tx L q = 1 ∨ kda tx L q = 2 → (∀ i, q ≤ i → i < e → kda tx L i = kda tx L q) ∧ kda tx L e ≠ kda tx L q) ∧ (kda tx L q ≠ 0 → kda tx L q ≠ 1 → kda tx L q ≠ 2 → e = q + 1) ∧ ∀ i, i < 25 ∨ 27 < i → z4 i = z i := by
  have h9 := h.l9
  have hr := rb_all (p := q) h
  have h6 : Tx L tx (va_up z 26 (fun _ => nI q)) := tx_c h (va_n (by omega)) (va_n (by omega))
  have hrb : rby L (va_up z 26 (fun _ => nI q)) q = rby L z q := by
    unfold rby
    rw [va_n (by omega)]
  rw [e1, bs_e, va_n (show (25 : Nat) ≠ 26 by omega), e1, byteR_e h6 (by omega), bd_s, hrb]
  by_cases c0 : kda tx L q = 0
  · rw [if_pos (hr.2.2.2.2.1.mpr c0), bs_e]
    exact ⟨q, _, rfl, by rw [va_n (by omega), va_s], by rw [va_n (by omega), va_n (by omega)]; exact e1, by rw [va_s, c0]; rfl, Nat.le_refl _, hq, fun _ => rfl, fun g => (by rw [c0] at g; rcases g with g | g <;> exact absurd g (by decide)), fun g => absurd c0 g, fun i hi => by rw [va_n (by omega), va_n (by omega)]⟩
  · have hL : q < L := by
      rcases Nat.lt_or_ge q L with g | g
      · exact g
      · exact absurd (hr.2.2.2.2.2.1.mpr g) c0
    rw [if_neg (fun g => c0 (hr.2.2.2.2.1.mp g)), isLetter_e, bd_s]
    by_cases c1 : kda tx L q = 1
    · obtain ⟨q2, z2, a1, a2, a3, a4, a5, a6, a7⟩ := wordR1_e (L - q) fu q (va_up z 26 (fun _ => nI q)) h6 (by omega) (by unfold fu; omega) (by rw [va_n (by omega)]; exact e1)
      rw [if_pos (hr.1.mp c1), if_neg (show ¬ (1 : Int32) = 0 by decide), a5, bs_e]
      refine ⟨q2, _, rfl, by rw [va_n (by omega), a7 26 (by omega), va_s], by rw [va_n (by omega)]; exact a6, by rw [va_s, c1]; rfl, a1, a2, fun g => absurd g c0, fun _ => ⟨fun i g1 g2 => by rw [c1]; exact a3 i g1 g2, by rw [c1]; exact a4⟩, fun _ g _ => absurd c1 g, fun i hi => by rw [va_n (by omega), a7 i (by omega), va_n (by omega)]⟩
    · rw [if_neg (fun g => c1 (hr.1.mpr g)), if_pos rfl, isDigit_e, bd_s]
      by_cases c2 : kda tx L q = 2
      · obtain ⟨q2, z2, a1, a2, a3, a4, a5, a6, a7⟩ := wordR2_e (L - q) fu q (va_up z 26 (fun _ => nI q)) h6 (by omega) (by unfold fu; omega) (by rw [va_n (by omega)]; exact e1)
        rw [if_pos (hr.2.1.mp c2), if_neg (show ¬ (1 : Int32) = 0 by decide), a5, bs_e]
        refine ⟨q2, _, rfl, by rw [va_n (by omega), a7 26 (by omega), va_s], by rw [va_n (by omega)]; exact a6, by rw [va_s, c2]; rfl, a1, a2, fun g => absurd g c0, fun _ => ⟨fun i g1 g2 => by rw [c2]; exact a3 i g1 g2, by rw [c2]; exact a4⟩, fun _ _ g => absurd c2 g, fun i hi => by rw [va_n (by omega), a7 i (by omega), va_n (by omega)]⟩
      · rw [if_neg (fun g => c2 (hr.2.1.mpr g)), if_pos rfl, bs_e]
        simp only [jn_e, bs_e]
        rw [p1]
        by_cases c3 : kda tx L q = 3
        · rw [if_pos (hr.2.2.2.1.mp c3)]
          exact ⟨q + 1, _, rfl, by rw [va_n (by omega), va_n (by omega), va_s], by rw [va_n (by omega), va_s], by rw [va_s, c3]; rfl, by omega, by omega, fun g => absurd g c0, fun g => absurd g (fun g => g.elim c1 c2), fun _ _ _ => rfl, fun i hi => by rw [va_n (by omega), va_n (by omega), va_n (by omega)]⟩
        · rw [if_neg (fun g => c3 (hr.2.2.2.1.mpr g))]
          have c5 : kda tx L q = 5 := by
            rcases hr.2.2.2.2.2.2 with g | g | g | g | g | g
            · exact absurd g c0
            · exact absurd g c1
            · exact absurd g c2
            · exact absurd g c3
            · exact absurd g h4
            · exact g
          exact ⟨q + 1, _, rfl, by rw [va_n (by omega), va_n (by omega), va_s], by rw [va_n (by omega), va_s], by rw [va_s, c5]; rfl, by omega, by omega, fun g => absurd g c0, fun g => absurd g (fun g => g.elim c1 c2), fun _ _ _ => rfl, fun i hi => by rw [va_n (by omega), va_n (by omega), va_n (by omega)]⟩
theorem next_e {L p : Nat} {tx z : Nat → Nat → Int32} {nm : Nat → Int64} {ps : Nat → Nat → Int32} (h : Tx L tx z) (e1 : ps 1 0 + ps 2 0 = nI p) (e2 : z 25 0 = nI p) (hp : p ≤ L) : ∃ (b s : Nat) (k : Int32) (ps2 z2 : Nat → Nat → Int32), p ≤ b ∧ qX7_goToNext tx ps nm = some ps2 ∧ qX11_token z = some z2 ∧ Tok L b s k tx ps2 z2 ∧ (∀ i, 3 ≤ i → ps2 i = ps i) ∧ ∀ i, i < 25 ∨ 27 < i → z2 i = z i := by
  have h9 := h.l9
  obtain ⟨q, ps2, z2, a1, a2, a3, a4, a5, a6, a7, a8, a9⟩ := blank_e (nm := nm) (L - p) fu fu p (va_up ps 1 (fun _ => nI p)) z h (by omega) (by unfold fu; omega) (by unfold fu; omega) (by rw [va_s]) e2
  have h2 : Tx L tx z2 := tx_c h (a9 24 (by omega)) (a9 16 (by omega))
  obtain ⟨s, ps4, b1, b2, b3, b4, b5, b6, b7, b8, b9, b10⟩ := nextC_e (nm := nm) h2 a2 a3 a6
  obtain ⟨e, z4, c1, c2, c3, c4, c5, c6, c7, c8, c9, c10⟩ := nextR_e h2 a2 a3 a7
  have he : e = q + s := by
    by_cases k0 : kda tx L q = 0
    · rw [c7 k0, b6 k0]
      rfl
    · by_cases k12 : kda tx L q = 1 ∨ kda tx L q = 2
      · obtain ⟨d1, d2⟩ := b8 k12
        obtain ⟨f1, f2⟩ := c8 k12
        rcases Nat.lt_trichotomy e (q + s) with g | g | g
        · have g2 := d1 (e - q) (by omega)
          rw [show q + (e - q) = e by omega] at g2
          exact absurd g2 f2
        · exact g
        · exact absurd (f1 (q + s) (by omega) g) d2
      · have n1 : ¬ kda tx L q = 1 := fun g => k12 (Or.inl g)
        have n2 : ¬ kda tx L q = 2 := fun g => k12 (Or.inr g)
        rw [c9 k0 n1 n2, b9 k0 n1 n2]
  subst he
  refine ⟨q, s, kda tx L q, ps4, z4, a1, ?_, ?_, ⟨b5, b3, c2, b4, c3, b2, c4, rfl, a3, fun g => (b8 g).1, b6, b7⟩, fun i hi => by rw [b10 i hi, a8 i (by omega), va_n (by omega)], fun i hi => by rw [c10 i hi, a9 i (by omega)]⟩
  · unfold qX7_goToNext
    rw [e1, bs_e, a4]
    exact b1
  · unfold qX11_token
    rw [a5]
    exact c1
