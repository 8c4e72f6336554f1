-- a message is sent, on both sides
theorem nb0 : narrow .boolean (.int 0) = .int 0 := rfl
theorem nb1 : narrow .boolean (.int 1) = .int 1 := rfl
theorem b01_c (x : Int32) (k : Nat) : b01 x k = 0 ∨ b01 x k = 1 := by
  unfold b01
  cases bt x k
  · exact Or.inl rfl
  · exact Or.inr rfl
def lostR (r : Nat → Int32) (s kd : Nat) : Nat → Int32 := upd (upd (upd (upd r 4 (nI (s + 1))) (15 + kd) (r (15 + kd) + 1)) 5 (r 5 + 1)) (21 + kd) (r (21 + kd) + 1)
def keptR (r : Nat → Int32) (s c kd o : Nat) (x : Int32) : Nat → Int32 := upd (upd (upd (upd (upd (upd r 4 (nI (s + 1))) (15 + kd) (r (15 + kd) + 1)) (195 + 3 * c) (nI kd)) (195 + 3 * c + 1) (nI o)) (195 + 3 * c + 2) x) 11 (nI (c + 1))
def lostW (w : Nat → Nat → Int32) (s kd : Nat) : Nat → Nat → Int32 := va_up (va_up (va_up w 34 (fun _ => nI (s + 1))) 32 (upd (w 32) kd (w 32 kd + 1))) 33 (upd (w 33) kd (w 33 kd + 1))
def keptW (w : Nat → Nat → Int32) (s c kd o : Nat) (x : Int32) : Nat → Nat → Int32 := va_up (va_up (va_up (va_up (va_up (va_up w 34 (fun _ => nI (s + 1))) 32 (upd (w 32) kd (w 32 kd + 1))) 28 (upd (w 28) c (nI kd))) 29 (upd (w 29) c (nI o))) 30 (upd (w 30) c x)) 31 (fun _ => nI (c + 1))
theorem loses_e {v : Nat → Nat → Int32} {z : Nat → Nat → Int32} {w : Nat → Nat → Int32} {r : Nat → Int32} {n : Nat} {t : Nat} {s : Nat} {c : Nat} {p : Nat} {l : Nat} {f : Nat} {pk : Int32 × Int32} (hp : Pl v z n) (h : Ev v n t s c p l f pk w r) (hi : Iv n t s c p l f w) : ∃ bb : Bool, qX8_losesNext v w = some (if bb = true then 1 else 0) ∧
    ∀ (rr : Nat → Int32) (kd o : Nat) (x : Int32), rr 4 = nI s → rr 11 = nI c → rr 14 = r 14 → kd < 6 → c < 72 → qX11_sends z rr (nI kd) (nI o) x = some (if bb = true then lostR rr s kd else keptR rr s c kd o x) := by
  obtain ⟨m, hm, hv, hz, hzk⟩ := hp.script
  have hs := hi.sb
  have ht := hi.tb
  have key : ∀ (rr : Nat → Int32) (kd o : Nat) (x : Int32), rr 4 = nI s → rr 11 = nI c → rr 14 = r 14 → kd < 6 → c < 72 → ∀ bb : Bool, (bb = true → w 35 0 = 0 ∧ 0 < m ∧ z 7 (s % m) = 1) → (bb = false → ¬ (w 35 0 = 0 ∧ 0 < m ∧ z 7 (s % m) = 1)) →
      qX11_sends z rr (nI kd) (nI o) x = some (if bb = true then lostR rr s kd else keptR rr s c kd o x) := by
    intro rr kd o x r4 r11 r14 hk hc bb h1 h2
    unfold qX11_sends lostR keptR
    simp (disch := omega) only [bs_e, jn_e, p15, p21, gdn, cl, upd_n, upd_s, r11, r4, r14, m3, p195, p1, p2, hz, ← h.clear]
    by_cases hm0 : m = 0
    · subst hm0
      cases bb
      · rw [if_pos (show nI 0 ≤ 0 from Int32.le_refl _)]
        rfl
      · exact absurd (h1 rfl).2.1 (by omega)
    · rw [if_neg (nI_nle (by omega) (by omega))]
      cases bb
      · have h3 := h2 rfl
        by_cases hw : w 35 0 = 0
        · have : ¬ z 7 (s % m) = 1 := fun e => h3 ⟨hw, by omega, e⟩
          have hmm := Nat.mod_lt s (show 0 < m by omega)
          rw [if_pos hw, gd_t (nI_ne0 (by omega) (by omega)), pk_rem (by omega) (by omega) (by omega), gdn (by omega) (by omega), cl (by omega), if_neg this]
          rfl
        · rw [if_neg hw]
          rfl
      · obtain ⟨g1, g2, g3⟩ := h1 rfl
        have hmm := Nat.mod_lt s (show 0 < m by omega)
        rw [if_pos g1, gd_t (nI_ne0 (by omega) (by omega)), pk_rem (by omega) (by omega) (by omega), gdn (by omega) (by omega), cl (by omega), if_pos g3]
        rfl
  by_cases hL : w 35 0 = 0 ∧ 0 < m ∧ z 7 (s % m) = 1
  · refine ⟨true, ?_, fun rr kd o x r4 r11 r14 hk hc => key rr kd o x r4 r11 r14 hk hc true (fun _ => hL) (fun e => by cases e)⟩
    obtain ⟨g1, g2, g3⟩ := hL
    have hmm := Nat.mod_lt s g2
    unfold qX8_losesNext
    rw [if_pos g1, hv, if_pos (show (1 : Int32) ≤ nI m from nI_le (a := 1) (by omega) (by omega)), gd_t (nI_ne0 (by omega) (by omega)), h.sent, pk_rem (by omega) (by omega) (by omega), isIn_e _ (by omega), bd_s, ← hzk _ hmm, g3, gd_t nb1]
    rfl
  · refine ⟨false, ?_, fun rr kd o x r4 r11 r14 hk hc => key rr kd o x r4 r11 r14 hk hc false (fun e => by cases e) (fun _ => hL)⟩
    unfold qX8_losesNext
    by_cases g1 : w 35 0 = 0
    · rw [if_pos g1, hv]
      by_cases g2 : 0 < m
      · have hmm := Nat.mod_lt s g2
        have h0 : z 7 (s % m) = 0 := by
          rcases b01_c (v 6 0) (s % m) with e | e
          · rw [hzk _ hmm, e]
          · exact absurd ⟨g1, g2, (hzk _ hmm).trans e⟩ hL
        rw [if_pos (show (1 : Int32) ≤ nI m from nI_le (a := 1) (by omega) (by omega)), gd_t (nI_ne0 (by omega) (by omega)), h.sent, pk_rem (by omega) (by omega) (by omega), isIn_e _ (by omega), bd_s, ← hzk _ hmm, h0, gd_t nb0]
        rfl
      · have : m = 0 := by omega
        subst this
        rw [if_neg (show ¬ (1 : Int32) ≤ nI 0 from nI_ge (a := 0) (b := 1) (by omega) (by omega))]
        rfl
    · rw [if_neg g1]
      rfl
