-- tokens in step
def kda (tx : Nat → Nat → Int32) (L p : Nat) : Int32 := if p < L then kdc (tx 1 p) else 0
def Tx (L : Nat) (tx : Nat → Nat → Int32) (z : Nat → Nat → Int32) : Prop :=
  (L ≤ 900) ∧
  (tx 0 0 = nI L) ∧
  (z 24 0 = nI L) ∧
  (∀ i, i < L → z 16 i = tx 1 i &&& 255 ∧ -128 ≤ (tx 1 i).toInt ∧ (tx 1 i).toInt < 128)
theorem Tx.l9 {L : Nat} {tx : Nat → Nat → Int32} {z : Nat → Nat → Int32} (h : Tx L tx z) : L ≤ 900 := h.1
theorem Tx.tl {L : Nat} {tx : Nat → Nat → Int32} {z : Nat → Nat → Int32} (h : Tx L tx z) : tx 0 0 = nI L := h.2.1
theorem Tx.zl {L : Nat} {tx : Nat → Nat → Int32} {z : Nat → Nat → Int32} (h : Tx L tx z) : z 24 0 = nI L := h.2.2.1
theorem Tx.ch {L : Nat} {tx : Nat → Nat → Int32} {z : Nat → Nat → Int32} (h : Tx L tx z) : ∀ i, i < L → z 16 i = tx 1 i &&& 255 ∧ -128 ≤ (tx 1 i).toInt ∧ (tx 1 i).toInt < 128 := h.2.2.2
theorem tx_c {L : Nat} {tx z z2 : Nat → Nat → Int32} (h : Tx L tx z) (h1 : z2 24 = z 24) (h2 : z2 16 = z 16) : Tx L tx z2 := ⟨h.l9, h.tl, by rw [h1]; exact h.zl, by rw [h2]; exact h.ch⟩
theorem kdc_k (c : Int32) : (if c < 97 then (if c < 48 then (if c = 10 then some (4 : Int32) else if c = 32 then some 4 else if c = 59 then some 3 else some 5) else if 57 < c then (if c = 10 then some 4 else if c = 32 then some 4 else if c = 59 then some 3 else some 5) else some 2) else if 122 < c then (if c < 48 then (if c = 10 then some 4 else if c = 32 then some 4 else if c = 59 then some 3 else some 5) else if 57 < c then (if c = 10 then some 4 else if c = 32 then some 4 else if c = 59 then some 3 else some 5) else some 2) else some 1) = some (kdc c) := by
  have l1 : lett c = true ↔ ¬ c < 97 ∧ ¬ 122 < c := by
    unfold lett
    rw [Bool.and_eq_true, decide_eq_true_eq, decide_eq_true_eq, Int32.not_lt, Int32.not_lt]
  have d1 : digi c = true ↔ ¬ c < 48 ∧ ¬ 57 < c := by
    unfold digi
    rw [Bool.and_eq_true, decide_eq_true_eq, decide_eq_true_eq, Int32.not_lt, Int32.not_lt]
  have hB : (if c = 10 then some (4 : Int32) else if c = 32 then some 4 else if c = 59 then some 3 else some 5) = some (if c = 10 ∨ c = 32 then 4 else if c = 59 then 3 else 5) := by
    by_cases a : c = 10
    · rw [if_pos a, if_pos (Or.inl a)]
    · rw [if_neg a]
      by_cases b : c = 32
      · rw [if_pos b, if_pos (Or.inr b)]
      · rw [if_neg b, if_neg (fun g => g.elim a b)]
        by_cases d : c = 59
        · rw [if_pos d, if_pos d]
        · rw [if_neg d, if_neg d]
  have hA : (if c < 48 then (if c = 10 then some (4 : Int32) else if c = 32 then some 4 else if c = 59 then some 3 else some 5) else if 57 < c then (if c = 10 then some 4 else if c = 32 then some 4 else if c = 59 then some 3 else some 5) else some 2) = some (if digi c = true then 2 else if c = 10 ∨ c = 32 then 4 else if c = 59 then 3 else 5) := by
    rw [hB]
    by_cases a : c < 48
    · rw [if_pos a, if_neg (fun g => (d1.mp g).1 a)]
    · rw [if_neg a]
      by_cases b : 57 < c
      · rw [if_pos b, if_neg (fun g => (d1.mp g).2 b)]
      · rw [if_neg b, if_pos (d1.mpr ⟨a, b⟩)]
  rw [hA]
  unfold kdc
  by_cases a : c < 97
  · rw [if_pos a, if_neg (fun g => (l1.mp g).1 a)]
  · rw [if_neg a]
    by_cases b : 122 < c
    · rw [if_pos b, if_neg (fun g => (l1.mp g).2 b)]
    · rw [if_neg b, if_pos (l1.mpr ⟨a, b⟩)]
theorem kindAt_e {L p : Nat} {tx z : Nat → Nat → Int32} (h : Tx L tx z) (hp : p ≤ L) : qX6_kindAt tx (nI p) = some (kda tx L p) := by
  have h9 := h.l9
  unfold qX6_kindAt kda
  rw [if_neg (nI_pos (show p < 2 ^ 31 by omega)), h.tl]
  by_cases c : p < L
  · rw [if_pos ((nI_ltI (by omega) (by omega)).mpr c), if_pos c, gdn (by omega) (by omega), cl (by omega)]
    simp only [jn_e]
    exact kdc_k _
  · rw [if_neg (fun g => c ((nI_ltI (by omega) (by omega)).mp g)), if_neg c]
def rby (L : Nat) (z : Nat → Nat → Int32) (p : Nat) : Int32 := if p < L then z 16 p else -1
theorem byteR_e {L p : Nat} {tx z : Nat → Nat → Int32} (h : Tx L tx z) (hp : p < 2000) : qX11_byteAt z (nI p) = some (rby L z p) := by
  have h9 := h.l9
  unfold qX11_byteAt rby
  rw [h.zl]
  by_cases c : p < L
  · rw [if_neg (nle c (by omega)), if_pos c, gdn (by omega) (by omega), cl (by omega)]
  · rw [if_pos (nI_le (by omega) (by omega)), if_neg c]
theorem byteC_e {L p : Nat} {tx z : Nat → Nat → Int32} (h : Tx L tx z) (hp : p < 2000) : qX6_byteAt tx (nI p) = some (rby L z p) := by
  have h9 := h.l9
  unfold qX6_byteAt rby
  rw [if_neg (nI_pos (show p < 2 ^ 31 by omega)), h.tl]
  by_cases c : p < L
  · rw [if_pos ((nI_ltI (by omega) (by omega)).mpr c), if_pos c, gdn (by omega) (by omega), cl (by omega), (h.ch p c).1]
  · rw [if_neg (fun g => c ((nI_ltI (by omega) (by omega)).mp g)), if_neg c]
theorem isLetter_e (c : Int32) : qX11_isLetter c = some (if lett c = true then 1 else 0) := by
  have l1 : lett c = true ↔ ¬ c < 97 ∧ ¬ 122 < c := by
    unfold lett
    rw [Bool.and_eq_true, decide_eq_true_eq, decide_eq_true_eq, Int32.not_lt, Int32.not_lt]
  unfold qX11_isLetter
  by_cases a : c < 97
  · rw [if_pos a, if_neg (fun g => (l1.mp g).1 a)]
  · rw [if_neg a]
    by_cases b : 122 < c
    · rw [if_pos b, if_neg (fun g => (l1.mp g).2 b)]
    · rw [if_neg b, if_pos (l1.mpr ⟨a, b⟩)]
theorem isDigit_e (c : Int32) : qX11_isDigit c = some (if digi c = true then 1 else 0) := by
  have l1 : digi c = true ↔ ¬ c < 48 ∧ ¬ 57 < c := by
    unfold digi
    rw [Bool.and_eq_true, decide_eq_true_eq, decide_eq_true_eq, Int32.not_lt, Int32.not_lt]
  unfold qX11_isDigit
  by_cases a : c < 48
  · rw [if_pos a, if_neg (fun g => (l1.mp g).1 a)]
  · rw [if_neg a]
    by_cases b : 57 < c
    · rw [if_pos b, if_neg (fun g => (l1.mp g).2 b)]
    · rw [if_neg b, if_pos (l1.mpr ⟨a, b⟩)]
/-- what a byte is on both sides -/
theorem rb_all {L p : Nat} {tx z : Nat → Nat → Int32} (h : Tx L tx z) : (kda tx L p = 1 ↔ lett (rby L z p) = true) ∧ (kda tx L p = 2 ↔ digi (rby L z p) = true) ∧ (kda tx L p = 4 ↔ (rby L z p = 10 ∨ rby L z p = 32)) ∧ (kda tx L p = 3 ↔ rby L z p = 59) ∧ (rby L z p = -1 ↔ kda tx L p = 0) ∧ (kda tx L p = 0 ↔ L ≤ p) ∧ (kda tx L p = 0 ∨ kda tx L p = 1 ∨ kda tx L p = 2 ∨ kda tx L p = 3 ∨ kda tx L p = 4 ∨ kda tx L p = 5) := by
  unfold kda rby
  by_cases c : p < L
  · rw [if_pos c, if_pos c, (h.ch p c).1]
    obtain ⟨m, hm, e⟩ := sby (h.ch p c).2
    rw [e]
    obtain ⟨⟨g1, g2, g3, g4, g5, g6⟩, g7⟩ := sb_all m hm
    have g0 : kdc (nI m - 128) ≠ 0 := by
      intro g
      rw [g] at g7
      rcases g7 with g7 | g7 | g7 | g7 | g7 <;> exact absurd g7 (by decide)
    exact ⟨g1, g2, g3, g4, ⟨fun g => absurd g g5, fun g => absurd g g0⟩, ⟨fun g => absurd g g0, fun g => absurd c (by omega)⟩, Or.inr g7⟩
  · rw [if_neg c, if_neg c]
    refine ⟨⟨fun g => absurd g (by decide), fun g => absurd g (by decide)⟩, ⟨fun g => absurd g (by decide), fun g => absurd g (by decide)⟩, ⟨fun g => absurd g (by decide), fun g => absurd g (by decide)⟩, ⟨fun g => absurd g (by decide), fun g => absurd g (by decide)⟩, ⟨fun _ => rfl, fun _ => rfl⟩, ⟨fun _ => by omega, fun _ => rfl⟩, Or.inl rfl⟩
theorem blank_e {L : Nat} {tx : Nat → Nat → Int32} {nm : Nat → Int64} : ∀ (m g g2 p : Nat) (ps z : Nat → Nat → Int32), Tx L tx z → p + m = L → m < g → m < g2 → ps 1 0 = nI p → z 25 0 = nI p → ∃ (q : Nat) (ps2 z2 : Nat → Nat → Int32), p ≤ q ∧ q ≤ L ∧ kda tx L q ≠ 4 ∧ (∀ K, qX7_goToNext_L13 tx nm K g ps = K ps2) ∧ (∀ K, qX11_token_L0 K g2 z = K z2) ∧ ps2 1 0 = nI q ∧ z2 25 0 = nI q ∧ (∀ i, i ≠ 1 → ps2 i = ps i) ∧ ∀ i, i ≠ 25 → z2 i = z i
  | 0, g, g2, p, ps, z, h, hp, hg, hg2, e1, e2 => by
    obtain ⟨g, rfl⟩ : ∃ g', g = g' + 1 := ⟨g - 1, by omega⟩
    obtain ⟨g2, rfl⟩ : ∃ g', g2 = g' + 1 := ⟨g2 - 1, by omega⟩
    obtain rfl : p = L := by omega
    have h9 := h.l9
    have hr := rb_all (p := p) h
    have hk : kda tx p p = 0 := hr.2.2.2.2.2.1.mpr (Nat.le_refl _)
    have hm := hr.2.2.2.2.1.mpr hk
    refine ⟨p, ps, z, Nat.le_refl _, Nat.le_refl _, by rw [hk]; decide, fun K => ?_, fun K => ?_, e1, e2, fun _ _ => rfl, fun _ _ => rfl⟩
    · rw [qX7_goToNext_L13, h.tl, e1, if_pos (Int32.le_refl _)]
    · rw [qX11_token_L0, e2, byteR_e h (by omega), bd_s, jn_e, hm, if_neg (show ¬ (-1 : Int32) = 10 by decide), bd_s, if_neg (show ¬ (-1 : Int32) = 32 by decide)]
  | m + 1, g, g2, p, ps, z, h, hp, hg, hg2, e1, e2 => by
    obtain ⟨g, rfl⟩ : ∃ g', g = g' + 1 := ⟨g - 1, by omega⟩
    obtain ⟨g2, rfl⟩ : ∃ g', g2 = g' + 1 := ⟨g2 - 1, by omega⟩
    have h9 := h.l9
    have hr := rb_all (p := p) h
    by_cases c : kda tx L p = 4
    · have hc := hr.2.2.1.mp c
      obtain ⟨q, ps2, z2, a1, a2, a3, a4, a5, a6, a7, a8, a9⟩ := blank_e m g g2 (p + 1) (va_up ps 1 (fun _ => nI (p + 1))) (va_up z 25 (fun _ => nI (p + 1))) (tx_c h (va_n (by omega)) (va_n (by omega))) (by omega) (by omega) (by omega) (by rw [va_s]) (by rw [va_s])
      refine ⟨q, ps2, z2, by omega, a2, a3, fun K => ?_, fun K => ?_, a6, a7, fun i hi => by rw [a8 i hi, va_n hi], fun i hi => by rw [a9 i hi, va_n hi]⟩
      · rw [qX7_goToNext_L13, h.tl, e1, if_neg (nle (by omega) (by omega)), kindAt_e h (by omega), bd_s, if_pos c, bs_e, p1]
        exact a4 K
      · rw [qX11_token_L0, e2, byteR_e h (by omega), bd_s, jn_e]
        by_cases d : rby L z p = 10
        · rw [if_pos d, bs_e, p1]
          exact a5 K
        · rw [if_neg d, bd_s, if_pos (hc.resolve_left d), bs_e, p1]
          exact a5 K
    · have hc : ¬ (rby L z p = 10 ∨ rby L z p = 32) := fun g => c (hr.2.2.1.mpr g)
      refine ⟨p, ps, z, Nat.le_refl _, by omega, c, fun K => ?_, fun K => ?_, e1, e2, fun _ _ => rfl, fun _ _ => rfl⟩
      · rw [qX7_goToNext_L13, h.tl, e1, if_neg (nle (by omega) (by omega)), kindAt_e h (by omega), bd_s, if_neg c]
      · rw [qX11_token_L0, e2, byteR_e h (by omega), bd_s, jn_e, if_neg (fun g => hc (Or.inl g)), bd_s, if_neg (fun g => hc (Or.inr g))]
theorem wordC_e {L b : Nat} {tx z : Nat → Nat → Int32} {nm : Nat → Int64} {k : Int32} (h : Tx L tx z) (hk0 : k ≠ 0) : ∀ (m g s : Nat) (ps : Nat → Nat → Int32), b + s + m = L → m < g → ps 0 0 = k → ps 1 0 = nI b → ps 2 0 = nI s → ∃ (s2 : Nat) (ps2 : Nat → Nat → Int32), s ≤ s2 ∧ b + s2 ≤ L ∧ (∀ i, s ≤ i → i < s2 → kda tx L (b + i) = k) ∧ kda tx L (b + s2) ≠ k ∧ (∀ K, qX7_goToNext_L108 tx nm 1 K g ps = K ps2) ∧ ps2 2 0 = nI s2 ∧ ∀ i, i ≠ 2 → ps2 i = ps i
  | 0, g, s, ps, hp, hg, e0, e1, e2 => by
    obtain ⟨g, rfl⟩ : ∃ g', g = g' + 1 := ⟨g - 1, by omega⟩
    have h9 := h.l9
    have hk : kda tx L (b + s) = 0 := (rb_all h).2.2.2.2.2.1.mpr (by omega)
    refine ⟨s, ps, Nat.le_refl _, by omega, fun i h1 h2 => absurd h2 (by omega), by rw [hk]; exact hk0.symm, fun K => ?_, e2, fun _ _ => rfl⟩
    rw [qX7_goToNext_L108, if_neg (show ¬ (1 : Int32) = 0 by decide), h.tl, e1, e2, nI_add, if_pos (nI_le (by omega) (by omega))]
  | m + 1, g, s, ps, hp, hg, e0, e1, e2 => by
    obtain ⟨g, rfl⟩ : ∃ g', g = g' + 1 := ⟨g - 1, by omega⟩
    have h9 := h.l9
    by_cases c : kda tx L (b + s) = k
    · obtain ⟨s2, ps2, a1, a2, a3, a4, a5, a6, a7⟩ := wordC_e h hk0 m g (s + 1) (va_up ps 2 (fun _ => nI (s + 1))) (by omega) (by omega) (by rw [va_n (by omega)]; exact e0) (by rw [va_n (by omega)]; exact e1) (by rw [va_s])
      refine ⟨s2, ps2, by omega, a2, fun i h1 h2 => ?_, a4, fun K => ?_, a6, fun i hi => by rw [a7 i hi, va_n hi]⟩
      · by_cases e : i = s
        · subst e
          exact c
        · exact a3 i (by omega) h2
      · rw [qX7_goToNext_L108, if_neg (show ¬ (1 : Int32) = 0 by decide), h.tl, e1, e2, nI_add, if_neg (nle (by omega) (by omega)), kindAt_e h (by omega), bd_s, e0, if_pos c, bs_e, p1]
        exact a5 K
    · refine ⟨s, ps, Nat.le_refl _, by omega, fun i h1 h2 => absurd h2 (by omega), c, fun K => ?_, e2, fun _ _ => rfl⟩
      rw [qX7_goToNext_L108, if_neg (show ¬ (1 : Int32) = 0 by decide), h.tl, e1, e2, nI_add, if_neg (nle (by omega) (by omega)), kindAt_e h (by omega), bd_s, e0, if_neg c]
theorem wordR1_e {L : Nat} {tx : Nat → Nat → Int32} : ∀ (m g q : Nat) (z : Nat → Nat → Int32), Tx L tx z → q + m = L → m < g → z 25 0 = nI q → ∃ (q2 : Nat) (z2 : Nat → Nat → Int32), q ≤ q2 ∧ q2 ≤ L ∧ (∀ i, q ≤ i → i < q2 → kda tx L i = 1) ∧ kda tx L q2 ≠ 1 ∧ (∀ K, qX11_token_L76 K g z = K z2) ∧ z2 25 0 = nI q2 ∧ ∀ i, i ≠ 25 → z2 i = z i
  | 0, g, q, z, h, hp, hg, e => by
    obtain ⟨g, rfl⟩ : ∃ g', g = g' + 1 := ⟨g - 1, by omega⟩
    have h9 := h.l9
    have hr := rb_all (p := q) h
    have hk : kda tx L q = 0 := hr.2.2.2.2.2.1.mpr (by omega)
    have hk1 : kda tx L q ≠ 1 := by rw [hk]; decide
    refine ⟨q, z, Nat.le_refl _, by omega, fun i h1 h2 => absurd h2 (by omega), hk1, fun K => ?_, e, fun _ _ => rfl⟩
    rw [qX11_token_L76, e, byteR_e h (by omega), bd_s, isLetter_e, bd_s, if_neg (fun g => hk1 (hr.1.mpr g)), if_pos rfl]
  | m + 1, g, q, z, h, hp, hg, e => by
    obtain ⟨g, rfl⟩ : ∃ g', g = g' + 1 := ⟨g - 1, by omega⟩
    have h9 := h.l9
    have hr := rb_all (p := q) h
    by_cases c : kda tx L q = 1
    · obtain ⟨q2, z2, a1, a2, a3, a4, a5, a6, a7⟩ := wordR1_e m g (q + 1) (va_up z 25 (fun _ => nI (q + 1))) (tx_c h (va_n (by omega)) (va_n (by omega))) (by omega) (by omega) (by rw [va_s])
      refine ⟨q2, z2, by omega, a2, fun i h1 h2 => ?_, a4, fun K => ?_, a6, fun i hi => by rw [a7 i hi, va_n hi]⟩
      · by_cases e : i = q
        · subst e
          exact c
        · exact a3 i (by omega) h2
      · rw [qX11_token_L76, e, byteR_e h (by omega), bd_s, isLetter_e, bd_s, if_pos (hr.1.mp c), if_neg (show ¬ (1 : Int32) = 0 by decide), bs_e, p1]
        exact a5 K
    · refine ⟨q, z, Nat.le_refl _, by omega, fun i h1 h2 => absurd h2 (by omega), c, fun K => ?_, e, fun _ _ => rfl⟩
      rw [qX11_token_L76, e, byteR_e h (by omega), bd_s, isLetter_e, bd_s, if_neg (fun g => c (hr.1.mpr g)), if_pos rfl]
theorem wordR2_e {L : Nat} {tx : Nat → Nat → Int32} : ∀ (m g q : Nat) (z : Nat → Nat → Int32), Tx L tx z → q + m = L → m < g → z 25 0 = nI q → ∃ (q2 : Nat) (z2 : Nat → Nat → Int32), q ≤ q2 ∧ q2 ≤ L ∧ (∀ i, q ≤ i → i < q2 → kda tx L i = 2) ∧ kda tx L q2 ≠ 2 ∧ (∀ K, qX11_token_L118 K g z = K z2) ∧ z2 25 0 = nI q2 ∧ ∀ i, i ≠ 25 → z2 i = z i
  | 0, g, q, z, h, hp, hg, e => by
    obtain ⟨g, rfl⟩ : ∃ g', g = g' + 1 := ⟨g - 1, by omega⟩
    have h9 := h.l9
    have hr := rb_all (p := q) h
    have hk : kda tx L q = 0 := hr.2.2.2.2.2.1.mpr (by omega)
    have hk1 : kda tx L q ≠ 2 := by rw [hk]; decide
    refine ⟨q, z, Nat.le_refl _, by omega, fun i h1 h2 => absurd h2 (by omega), hk1, fun K => ?_, e, fun _ _ => rfl⟩
    rw [qX11_token_L118, e, byteR_e h (by omega), bd_s, isDigit_e, bd_s, if_neg (fun g => hk1 (hr.2.1.mpr g)), if_pos rfl]
  | m + 1, g, q, z, h, hp, hg, e => by
    obtain ⟨g, rfl⟩ : ∃ g', g = g' + 1 := ⟨g - 1, by omega⟩
    have h9 := h.l9
    have hr := rb_all (p := q) h
    by_cases c : kda tx L q = 2
    · obtain ⟨q2, z2, a1, a2, a3, a4, a5, a6, a7⟩ := wordR2_e m g (q + 1) (va_up z 25 (fun _ => nI (q + 1))) (tx_c h (va_n (by omega)) (va_n (by omega))) (by omega) (by omega) (by rw [va_s])
      refine ⟨q2, z2, by omega, a2, fun i h1 h2 => ?_, a4, fun K => ?_, a6, fun i hi => by rw [a7 i hi, va_n hi]⟩
      · by_cases e : i = q
        · subst e
          exact c
        · exact a3 i (by omega) h2
      · rw [qX11_token_L118, e, byteR_e h (by omega), bd_s, isDigit_e, bd_s, if_pos (hr.2.1.mp c), if_neg (show ¬ (1 : Int32) = 0 by decide), bs_e, p1]
        exact a5 K
    · refine ⟨q, z, Nat.le_refl _, by omega, fun i h1 h2 => absurd h2 (by omega), c, fun K => ?_, e, fun _ _ => rfl⟩
      rw [qX11_token_L118, e, byteR_e h (by omega), bd_s, isDigit_e, bd_s, if_neg (fun g => c (hr.2.1.mpr g)), if_pos rfl]
