-- the text in step
theorem l39_K {tx ps : Nat → Nat → Int32} {nm : Nat → Int64} (K : (Nat → Nat → Int32) → (Nat → Int64) → Option (Int32 × (Nat → Nat → Int32) × (Nat → Int64))) {g k : Nat} {x1 x2 : Int32} (h : ps 3 0 ≠ 0 ∨ ps 0 0 = 0) : qX4_readText_L39 tx K (g + 1) x1 x2 (nI k) ps nm = K ps nm := by
  rw [qX4_readText_L39]
  by_cases c : (900 : Int32) ≤ nI k
  · rw [if_pos c]
  · rw [if_neg c]
    by_cases d : ps 3 0 = 0
    · rw [if_pos d, if_pos (h.resolve_left (fun g => g d))]
    · rw [if_neg d]
theorem l39_rule {tx ps : Nat → Nat → Int32} {nm : Nat → Int64} (K : (Nat → Nat → Int32) → (Nat → Int64) → Option (Int32 × (Nat → Nat → Int32) × (Nat → Int64))) {g k : Nat} {x1 x2 : Int32} (hk : k < 900) (e : ps 3 0 = 0) (h0 : ps 0 0 ≠ 0) (h1 : x1 = 0 ∨ qX7_isWord tx ps nm 1 = some 0) (h2 : x2 = 0 ∨ qX7_isWord tx ps nm 2 = some 0) : qX4_readText_L39 tx K (g + 1) x1 x2 (nI k) ps nm = bd (qX4_readRule tx ps nm) fun ps_19 => bd (qX4_readSemicolon tx ps_19 nm) fun ps_18 => qX4_readText_L39 tx K g 0 0 (nI (k + 1)) ps_18 nm := by
  rw [qX4_readText_L39, if_neg (show ¬ (900 : Int32) ≤ nI k from nle (a := 900) (by omega) (by omega)), if_pos e, if_neg h0, p1]
  simp only [jn_e]
  have hB : (if x2 = 0 then bd (qX4_readRule tx ps nm) fun ps_19 => bd (qX4_readSemicolon tx ps_19 nm) fun ps_18 => qX4_readText_L39 tx K g 0 0 (nI (k + 1)) ps_18 nm else bd (qX7_isWord tx ps nm 2) fun r_20 => if r_20 = 0 then bd (qX4_readRule tx ps nm) fun ps_19 => bd (qX4_readSemicolon tx ps_19 nm) fun ps_18 => qX4_readText_L39 tx K g 0 0 (nI (k + 1)) ps_18 nm else bd (qX4_readNeed tx ps nm) fun ps_21 => bd (qX4_readSemicolon tx ps_21 nm) fun ps_18 => qX4_readText_L39 tx K g 0 x2 (nI (k + 1)) ps_18 nm) = bd (qX4_readRule tx ps nm) fun ps_19 => bd (qX4_readSemicolon tx ps_19 nm) fun ps_18 => qX4_readText_L39 tx K g 0 0 (nI (k + 1)) ps_18 nm := by
    by_cases c : x2 = 0
    · rw [if_pos c]
    · rw [if_neg c, h2.resolve_left c, bd_s, if_pos rfl]
  rw [hB]
  by_cases c : x1 = 0
  · rw [if_pos c]
  · rw [if_neg c, h1.resolve_left c, bd_s, if_pos rfl]
theorem l39_need {tx ps : Nat → Nat → Int32} {nm : Nat → Int64} (K : (Nat → Nat → Int32) → (Nat → Int64) → Option (Int32 × (Nat → Nat → Int32) × (Nat → Int64))) {g k : Nat} {x1 : Int32} (hk : k < 900) (e : ps 3 0 = 0) (h0 : ps 0 0 ≠ 0) (h1 : x1 = 0 ∨ qX7_isWord tx ps nm 1 = some 0) (h2 : qX7_isWord tx ps nm 2 = some 1) : qX4_readText_L39 tx K (g + 1) x1 1 (nI k) ps nm = bd (qX4_readNeed tx ps nm) fun ps_21 => bd (qX4_readSemicolon tx ps_21 nm) fun ps_18 => qX4_readText_L39 tx K g 0 1 (nI (k + 1)) ps_18 nm := by
  rw [qX4_readText_L39, if_neg (show ¬ (900 : Int32) ≤ nI k from nle (a := 900) (by omega) (by omega)), if_pos e, if_neg h0, p1]
  simp only [jn_e]
  rw [if_neg (show ¬ (1 : Int32) = 0 by decide), h2, bd_s, if_neg (show ¬ (1 : Int32) = 0 by decide)]
  by_cases c : x1 = 0
  · rw [if_pos c]
  · rw [if_neg c, h1.resolve_left c, bd_s, if_pos rfl]
theorem l39_out {tx ps : Nat → Nat → Int32} {nm : Nat → Int64} (K : (Nat → Nat → Int32) → (Nat → Int64) → Option (Int32 × (Nat → Nat → Int32) × (Nat → Int64))) {g k : Nat} {x2 : Int32} (hk : k < 900) (e : ps 3 0 = 0) (h0 : ps 0 0 ≠ 0) (h1 : qX7_isWord tx ps nm 1 = some 1) : qX4_readText_L39 tx K (g + 1) 1 x2 (nI k) ps nm = bd2 (qX4_readOutlet tx ps nm) fun ps_23 nm_24 => bd (qX4_readSemicolon tx ps_23 nm_24) fun ps_18 => qX4_readText_L39 tx K g 1 x2 (nI (k + 1)) ps_18 nm_24 := by
  rw [qX4_readText_L39, if_neg (show ¬ (900 : Int32) ≤ nI k from nle (a := 900) (by omega) (by omega)), if_pos e, if_neg h0, p1]
  simp only [jn_e]
  rw [if_neg (show ¬ (1 : Int32) = 0 by decide), h1, bd_s, if_neg (show ¬ (1 : Int32) = 0 by decide)]
theorem kind_b {L : Nat} {tx ps z : Nat → Nat → Int32} (h : Rd L tx ps z) (e : ps 3 0 = 0) (h0 : ps 0 0 ≠ 0) : po ps < 900 ∧ z 27 0 ≠ 0 := by
  obtain ⟨b, s, k, q⟩ := h.tok e
  have h9 := h.te.l9
  have h1 := po_e q h9
  have hk : k ≠ 0 := by rw [← q.p0]; exact h0
  have h2 := q.s1 hk
  have h3 := q.bs
  refine ⟨by omega, ?_⟩
  rw [q.z27]
  exact fun g => hk ((k5_0 k).mp g)
theorem kind_0 {L : Nat} {tx ps z : Nat → Nat → Int32} (h : Rd L tx ps z) (e : ps 3 0 = 0) (h0 : ps 0 0 = 0) : z 27 0 = 0 := by
  obtain ⟨b, s, k, q⟩ := h.tok e
  rw [q.z27]
  exact (k5_0 k).mpr (by rw [← q.p0]; exact h0)
def Fin (L : Nat) (tx : Nat → Nat → Int32) (z : Nat → Nat → Int32) (nm2 : Nat → Int64) (ps2 : Nat → Nat → Int32) (z2 : Nat → Nat → Int32) : Prop :=
  (Rd L tx ps2 z2) ∧
  (ps2 3 0 = 0 → ∃ n, Dr n nm2 ps2 z2) ∧
  (∀ i, i < 16 ∨ i = 23 → z2 i = z i)
theorem Fin.rd {L : Nat} {tx : Nat → Nat → Int32} {z : Nat → Nat → Int32} {nm2 : Nat → Int64} {ps2 : Nat → Nat → Int32} {z2 : Nat → Nat → Int32} (h : Fin L tx z nm2 ps2 z2) : Rd L tx ps2 z2 := h.1
theorem Fin.dr {L : Nat} {tx : Nat → Nat → Int32} {z : Nat → Nat → Int32} {nm2 : Nat → Int64} {ps2 : Nat → Nat → Int32} {z2 : Nat → Nat → Int32} (h : Fin L tx z nm2 ps2 z2) : ps2 3 0 = 0 → ∃ n, Dr n nm2 ps2 z2 := h.2.1
theorem Fin.fr {L : Nat} {tx : Nat → Nat → Int32} {z : Nat → Nat → Int32} {nm2 : Nat → Int64} {ps2 : Nat → Nat → Int32} {z2 : Nat → Nat → Int32} (h : Fin L tx z nm2 ps2 z2) : ∀ i, i < 16 ∨ i = 23 → z2 i = z i := h.2.2
theorem ph3_e {L : Nat} {tx : Nat → Nat → Int32} : ∀ (m g g2 k n : Nat) (ps z : Nat → Nat → Int32) (nm : Nat → Int64), Rd L tx ps z → (ps 3 0 = 0 → Dr n nm ps z ∧ k ≤ po ps) → k + m = 900 → m < g → m < g2 → ∃ (ps2 : Nat → Nat → Int32) (nm2 : Nat → Int64) (z2 : Nat → Nat → Int32), (∀ K, qX4_readText_L39 tx K g 0 0 (nI k) ps nm = K ps2 nm2) ∧ (∀ K, qX11_load_L102 K g2 z = K z2) ∧ Fin L tx z nm2 ps2 z2
  | m, g, g2, k, n, ps, z, nm, h, hd, hk, hg, hg2 => by
    obtain ⟨g, rfl⟩ : ∃ g', g = g' + 1 := ⟨g - 1, by omega⟩
    obtain ⟨g2, rfl⟩ : ∃ g', g2 = g' + 1 := ⟨g2 - 1, by omega⟩
    by_cases e : ps 3 0 = 0
    · have e2 : z 28 0 = 0 := by rw [← h.err]; exact e
      obtain ⟨d, hpo⟩ := hd e
      by_cases h0 : ps 0 0 = 0
      · refine ⟨ps, nm, z, fun K => l39_K K (Or.inr h0), fun K => ?_, h, fun _ => ⟨n, d⟩, fun _ _ => rfl⟩
        rw [qX11_load_L102, wrong0 e2, bd_s, if_pos rfl, if_pos (kind_0 h e h0)]
      · obtain ⟨hb, hz27⟩ := kind_b h e h0
        obtain ⟨m', rfl⟩ : ∃ m', m = m' + 1 := ⟨m - 1, by omega⟩
        obtain ⟨ps1, ps2, z2, a1, a2, a3, a4⟩ := rule_e h e h0 d
        obtain ⟨ps3, nm3, z3, b1, b2, b3⟩ := ph3_e m' g g2 (k + 1) n ps2 z2 nm a4.rd (fun g => ⟨a4.dr g, by have := a4.mo g; omega⟩) (by omega) (by omega) (by omega)
        refine ⟨ps3, nm3, z3, fun K => ?_, fun K => ?_, b3.rd, b3.dr, fun i hi => by rw [b3.fr i hi, a4.fr i hi]⟩
        · rw [l39_rule K (by omega) e h0 (Or.inl rfl) (Or.inl rfl), a1, bd_s, a2, bd_s, b1]
        · rw [qX11_load_L102, wrong0 e2, bd_s, if_pos rfl, if_neg hz27, a3, bd_s, b2]
    · have e2 : ¬ z 28 0 = 0 := by rw [← h.err]; exact e
      refine ⟨ps, nm, z, fun K => l39_K K (Or.inl e), fun K => ?_, h, fun g => absurd g e, fun _ _ => rfl⟩
      rw [qX11_load_L102, wrong1 e2, bd_s, if_neg (show ¬ (1 : Int32) = 0 by decide)]
theorem ph2_e {L : Nat} {tx : Nat → Nat → Int32} : ∀ (m g g2 k n : Nat) (ps z : Nat → Nat → Int32) (nm : Nat → Int64), Rd L tx ps z → (ps 3 0 = 0 → Dr n nm ps z ∧ k ≤ po ps) → k + m = 900 → m < g → m < g2 → ∃ (ps2 : Nat → Nat → Int32) (nm2 : Nat → Int64) (z2 : Nat → Nat → Int32), (∀ K, qX4_readText_L39 tx K g 0 1 (nI k) ps nm = K ps2 nm2) ∧ (∀ K, qX11_load_L86 (fun z_20 => qX11_load_L102 K fu z_20) g2 z = K z2) ∧ Fin L tx z nm2 ps2 z2
  | m, g, g2, k, n, ps, z, nm, h, hd, hk, hg, hg2 => by
    obtain ⟨g, rfl⟩ : ∃ g', g = g' + 1 := ⟨g - 1, by omega⟩
    obtain ⟨g2, rfl⟩ : ∃ g', g2 = g' + 1 := ⟨g2 - 1, by omega⟩
    by_cases e : ps 3 0 = 0
    · have e2 : z 28 0 = 0 := by rw [← h.err]; exact e
      obtain ⟨d, hpo⟩ := hd e
      obtain ⟨r, w1, w2, w3, w4⟩ := word_e (nm := nm) (wi := 2) h e (by omega)
      by_cases h0 : ps 0 0 = 0
      · have hr : r = 0 := by
          rcases w3 with g | g
          · exact g
          · exact absurd h0 (w4 g)
        refine ⟨ps, nm, z, fun K => l39_K K (Or.inr h0), fun K => ?_, h, fun _ => ⟨n, d⟩, fun _ _ => rfl⟩
        rw [qX11_load_L86, w2, bd_s, if_pos hr, show fu = 3999 + 1 from rfl, qX11_load_L102, wrong0 e2, bd_s, if_pos rfl, if_pos (kind_0 h e h0)]
      · obtain ⟨hb, hz27⟩ := kind_b h e h0
        rcases w3 with hr | hr
        · subst hr
          obtain ⟨ps3, nm3, z3, b1, b2, b3⟩ := ph3_e m (g + 1) fu k n ps z nm h hd hk hg (by unfold fu; omega)
          refine ⟨ps3, nm3, z3, fun K => ?_, fun K => ?_, b3⟩
          · rw [l39_rule K (by omega) e h0 (Or.inl rfl) (Or.inr w1), ← b1 K, l39_rule K (by omega) e h0 (Or.inl rfl) (Or.inl rfl)]
          · rw [qX11_load_L86, w2, bd_s, if_pos rfl, b2]
        · subst hr
          obtain ⟨m', rfl⟩ : ∃ m', m = m' + 1 := ⟨m - 1, by omega⟩
          obtain ⟨ps1, ps2, z2, a1, a2, a3, a4⟩ := need_e h e h0 d
          obtain ⟨ps3, nm3, z3, b1, b2, b3⟩ := ph2_e m' g g2 (k + 1) n ps2 z2 nm a4.rd (fun g => ⟨a4.dr g, by have := a4.mo g; omega⟩) (by omega) (by omega) (by omega)
          refine ⟨ps3, nm3, z3, fun K => ?_, fun K => ?_, b3.rd, b3.dr, fun i hi => by rw [b3.fr i hi, a4.fr i hi]⟩
          · rw [l39_need K (by omega) e h0 (Or.inl rfl) w1, a1, bd_s, a2, bd_s, b1]
          · rw [qX11_load_L86, w2, bd_s, if_neg (show ¬ (1 : Int32) = 0 by decide), a3, bd_s, b2]
    · have e2 : ¬ z 28 0 = 0 := by rw [← h.err]; exact e
      refine ⟨ps, nm, z, fun K => l39_K K (Or.inl e), fun K => ?_, h, fun g => absurd g e, fun _ _ => rfl⟩
      rw [qX11_load_L86, word_w e2, bd_s, if_pos rfl, show fu = 3999 + 1 from rfl, qX11_load_L102, wrong1 e2, bd_s, if_neg (show ¬ (1 : Int32) = 0 by decide)]
theorem ph1_e {L : Nat} {tx : Nat → Nat → Int32} : ∀ (m g g2 k n : Nat) (ps z : Nat → Nat → Int32) (nm : Nat → Int64), Rd L tx ps z → (ps 3 0 = 0 → Dr n nm ps z ∧ k ≤ po ps) → k + m = 900 → m < g → m < g2 → ∃ (ps2 : Nat → Nat → Int32) (nm2 : Nat → Int64) (z2 : Nat → Nat → Int32), (∀ K, qX4_readText_L39 tx K g 1 1 (nI k) ps nm = K ps2 nm2) ∧ (∀ K, qX11_load_L70 (fun z_16 => qX11_load_L86 (fun z_20 => qX11_load_L102 K fu z_20) fu z_16) g2 z = K z2) ∧ Fin L tx z nm2 ps2 z2
  | m, g, g2, k, n, ps, z, nm, h, hd, hk, hg, hg2 => by
    obtain ⟨g, rfl⟩ : ∃ g', g = g' + 1 := ⟨g - 1, by omega⟩
    obtain ⟨g2, rfl⟩ : ∃ g', g2 = g' + 1 := ⟨g2 - 1, by omega⟩
    by_cases e : ps 3 0 = 0
    · have e2 : z 28 0 = 0 := by rw [← h.err]; exact e
      obtain ⟨d, hpo⟩ := hd e
      obtain ⟨r, w1, w2, w3, w4⟩ := word_e (nm := nm) (wi := 1) h e (by omega)
      obtain ⟨r2, v1, v2, v3, v4⟩ := word_e (nm := nm) (wi := 2) h e (by omega)
      by_cases h0 : ps 0 0 = 0
      · have hr : r = 0 := by
          rcases w3 with g | g
          · exact g
          · exact absurd h0 (w4 g)
        have hr2 : r2 = 0 := by
          rcases v3 with g | g
          · exact g
          · exact absurd h0 (v4 g)
        refine ⟨ps, nm, z, fun K => l39_K K (Or.inr h0), fun K => ?_, h, fun _ => ⟨n, d⟩, fun _ _ => rfl⟩
        rw [qX11_load_L70, w2, bd_s, if_pos hr, show fu = 3999 + 1 from rfl, qX11_load_L86, v2, bd_s, if_pos hr2, qX11_load_L102, wrong0 e2, bd_s, if_pos rfl, if_pos (kind_0 h e h0)]
      · obtain ⟨hb, hz27⟩ := kind_b h e h0
        rcases w3 with hr | hr
        · subst hr
          obtain ⟨ps3, nm3, z3, b1, b2, b3⟩ := ph2_e m (g + 1) fu k n ps z nm h hd hk hg (by unfold fu; omega)
          refine ⟨ps3, nm3, z3, fun K => ?_, fun K => ?_, b3⟩
          · rcases v3 with hr | hr
            · subst hr
              rw [l39_rule K (by omega) e h0 (Or.inr w1) (Or.inr v1), ← b1 K, l39_rule K (by omega) e h0 (Or.inl rfl) (Or.inr v1)]
            · subst hr
              rw [l39_need K (by omega) e h0 (Or.inr w1) v1, ← b1 K, l39_need K (by omega) e h0 (Or.inl rfl) v1]
          · rw [qX11_load_L70, w2, bd_s, if_pos rfl, b2]
        · subst hr
          obtain ⟨m', rfl⟩ : ∃ m', m = m' + 1 := ⟨m - 1, by omega⟩
          obtain ⟨n2, ps1, nm2, ps2, z2, a1, a2, a3, a4⟩ := outlet_e h e h0 d
          obtain ⟨ps3, nm3, z3, b1, b2, b3⟩ := ph1_e m' g g2 (k + 1) n2 ps2 z2 nm2 a4.rd (fun g => ⟨a4.dr g, by have := a4.mo g; omega⟩) (by omega) (by omega) (by omega)
          refine ⟨ps3, nm3, z3, fun K => ?_, fun K => ?_, b3.rd, b3.dr, fun i hi => by rw [b3.fr i hi, a4.fr i hi]⟩
          · rw [l39_out K (by omega) e h0 w1, a1, bd2_s, a2, bd_s, b1]
          · rw [qX11_load_L70, w2, bd_s, if_neg (show ¬ (1 : Int32) = 0 by decide), a3, bd_s, b2]
    · have e2 : ¬ z 28 0 = 0 := by rw [← h.err]; exact e
      refine ⟨ps, nm, z, fun K => l39_K K (Or.inl e), fun K => ?_, h, fun g => absurd g e, fun _ _ => rfl⟩
      rw [qX11_load_L70, word_w e2, bd_s, if_pos rfl, show fu = 3999 + 1 from rfl, qX11_load_L86, word_w e2, bd_s, if_pos rfl, qX11_load_L102, wrong1 e2, bd_s, if_neg (show ¬ (1 : Int32) = 0 by decide)]
