-- messages are received, on both sides
theorem k0 : (nI 0 : Int32) = 0 := rfl
theorem k1 : (nI 1 : Int32) = 1 := rfl
theorem k2 : (nI 2 : Int32) = 2 := rfl
theorem k3 : (nI 3 : Int32) = 3 := rfl
theorem k4 : (nI 4 : Int32) = 4 := rfl
theorem k5 : (nI 5 : Int32) = 5 := rfl
theorem i_t {α : Type} (a b : α) : (if True then a else b) = a := rfl
theorem i_f {α : Type} (a b : α) : (if False then a else b) = b := rfl
theorem e_t {α : Type} (a : α) : (a = a) = True := eq_true rfl
theorem bd_id {α : Type} (a : Option α) : bd a (fun b => some b) = a := by cases a <;> rfl
theorem or_if {α : Type} {P Q : Prop} [Decidable P] [Decidable Q] (a b : α) : (if P then a else if Q then a else b) = if P ∨ Q then a else b := by
  by_cases h1 : P
  · rw [if_pos h1, if_pos (Or.inl h1)]
  · rw [if_neg h1]
    by_cases h2 : Q
    · rw [if_pos h2, if_pos (Or.inr h2)]
    · rw [if_neg h2, if_neg (show ¬ (P ∨ Q) from fun h => h.elim h1 h2)]
theorem and_if {α : Type} {P Q : Prop} [Decidable P] [Decidable Q] (a b : α) : (if P then if Q then a else b else b) = if P ∧ Q then a else b := by
  by_cases h1 : P
  · rw [if_pos h1]
    by_cases h2 : Q
    · rw [if_pos h2, if_pos ⟨h1, h2⟩]
    · rw [if_neg h2, if_neg (show ¬ (P ∧ Q) from fun h => h2 h.2)]
  · rw [if_neg h1, if_neg (show ¬ (P ∧ Q) from fun h => h1 h.1)]
theorem hearAsk_e {v : Nat → Nat → Int32} {w : Nat → Nat → Int32} {r : Nat → Int32} {n : Nat} {t : Nat} {s : Nat} {c : Nat} {p : Nat} {l : Nat} {f : Nat} {o : Nat} {pk : Int32 × Int32} (h : Ev v n t s c p l f pk w r) (hi : Iv n t s c p l f w) (ho : o < n) : qX3_hearAsk v w (nI o) (nI t) = some (if w 18 o = 0 ∨ w 18 o = 3 then smW w o 1 t else w) := by
  have h12 := hi.n12
  unfold qX3_hearAsk
  rw [setMark_e (by omega)]
  simp (disch := omega) only [gdn, cl, jn_e, bd_s]
  by_cases e0 : w 18 o = 0
  · rw [if_pos e0, if_pos (Or.inl e0)]
  · rw [if_neg e0]
    by_cases e3 : w 18 o = 3
    · rw [if_pos e3, if_pos (Or.inr e3)]
    · rw [if_neg e3, if_neg (fun e => e.elim e0 e3)]
theorem hearState_e {v : Nat → Nat → Int32} {w : Nat → Nat → Int32} {r : Nat → Int32} {n : Nat} {t : Nat} {s : Nat} {c : Nat} {p : Nat} {l : Nat} {f : Nat} {o : Nat} {x : Int32} {pk : Int32 × Int32} (h : Ev v n t s c p l f pk w r) (hi : Iv n t s c p l f w) (ho : o < n) (hx : x = 0 ∨ x = 1 ∨ x = 2 ∨ x = 3) :
    qX3_hearState v w (nI o) x (nI t) = if w 18 o = 2 ∧ w 19 o = nI t - 1 then some w else if x = 3 then qX3_hearRuns v w (nI o) (nI t) else if x = 2 then some (tmW w o t) else some (smW w o x t) := by
  have h12 := hi.n12
  unfold qX3_hearState
  rw [setMark_e (by omega), setMark_e (by omega)]
  simp (disch := omega) only [gdn, cl, jn_e, bd_s, bs_e]
  have key : (if x = 0 then some (smW w o 0 t) else if x = 1 then some (smW w o 1 t) else if x = 3 then bd (qX3_hearRuns v w (nI o) (nI t)) fun w_2 => some w_2 else some (va_up w 19 (upd (w 19) o (nI t)))) = if x = 3 then qX3_hearRuns v w (nI o) (nI t) else if x = 2 then some (tmW w o t) else some (smW w o x t) := by
    rcases hx with e | e | e | e <;> subst e
    · rfl
    · rfl
    · rfl
    · show bd (qX3_hearRuns v w (nI o) (nI t)) (fun w_2 => some w_2) = qX3_hearRuns v w (nI o) (nI t)
      cases qX3_hearRuns v w (nI o) (nI t) <;> rfl
  rw [key]
  by_cases e2 : w 18 o = 2
  · rw [if_pos e2]
    by_cases e3 : w 19 o = nI t - 1
    · rw [if_pos e3, if_pos ⟨e2, e3⟩]
    · rw [if_neg e3, if_neg (show ¬ (w 18 o = 2 ∧ w 19 o = nI t - 1) from fun e => e3 e.2)]
  · rw [if_neg e2, if_neg (show ¬ (w 18 o = 2 ∧ w 19 o = nI t - 1) from fun e => e2 e.1)]
theorem hearGrant_e {v : Nat → Nat → Int32} {w : Nat → Nat → Int32} {r : Nat → Int32} {n : Nat} {t : Nat} {s : Nat} {c : Nat} {p : Nat} {l : Nat} {f : Nat} {o : Nat} {pk : Int32 × Int32} (h : Ev v n t s c p l f pk w r) (hi : Iv n t s c p l f w) (ho : o < n) : qX2_hearGrant v w (nI o) = some (if w 11 o = 1 then hgW v w o else w) := by
  have h12 := hi.n12
  unfold qX2_hearGrant hgW
  simp (disch := omega) only [gdn, cl, bs_e, va_n, va_s]
  split <;> rfl
/-- what a message does to the row -/
theorem receives_e {v : Nat → Nat → Int32} {z : Nat → Nat → Int32} {w : Nat → Nat → Int32} {r : Nat → Int32} {n : Nat} {t : Nat} {s : Nat} {c : Nat} {p : Nat} {l : Nat} {f : Nat} {o : Nat} {k : Nat} {kd : Nat} {x : Int32} {pk : Int32 × Int32} (hp : Pl v z n) (h : Ev v n t s c p l f pk w r) (hi : Iv n t s c p l f w) (ho : o < n) (hk : k < c) (h0 : r (195 + 3 * k) = nI kd) (h1 : r (195 + 3 * k + 1) = nI o) (hx : r (195 + 3 * k + 2) = x) (hkd : kd < 6) :
    qX11_receives z r (195 + 3 * nI k) =
      if nI kd = 0 then (if w 18 o = 0 ∨ w 18 o = 3 then some (smR r o 1 t) else some r)
      else if nI kd = 1 then qX11_marks z r (nI o) 3
      else if nI kd = 2 then some (smR r o 0 t)
      else if nI kd = 3 then (if w 18 o = 2 ∧ w 19 o = nI t - 1 then some r else if x = 2 then some (tmR r o t) else qX11_marks z r (nI o) x)
      else if nI kd = 4 then (if w 11 o = 1 then some (hgR v r o) else some r)
      else some (hpR r o) := by
  have h12 := hi.n12
  have hcb := hi.cb
  unfold qX11_receives
  rw [m3, p195, p1, p2, gdn (by omega) (by omega), cl (by omega), cl (by omega), cl (by omega), h0, h1, ag9, bd_s, gdn (by omega) (by omega), gdn (by omega) (by omega), cl (by omega), ← h.mark o ho]
  rw [marks_e (x := 1) (by omega) h.tickr (by decide), marks_e (x := 0) (by omega) h.tickr (by decide)]
  simp (disch := omega) only [bd_s, ag10, ag2, ag3, ag4, ag8, gdn, cl, hx, bs_e, jn_e, h.tickr, m4, p3]
  rw [← h.time o ho, ← h.how o ho, hp.ticks o ho]
  rw [or_if, and_if, upd_n (show 51 + 12 * o + 4 ≠ 51 + 12 * o + 3 by omega), upd_n (show 51 + 12 * o + 4 ≠ 51 + 12 * o + 2 by omega), bd_id, bd_id]
  rfl
