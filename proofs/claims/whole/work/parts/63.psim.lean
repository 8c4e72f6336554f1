-- the relation of the class to the other side
def Now (v : Nat → Nat → Int32) (n : Nat) (w : Nat → Nat → Int32) (r : Nat → Int32) : Prop :=
  (∃ t f y, t ≤ 5000 ∧ Sw v n t f (y, y) w r)
theorem Now.ex {v : Nat → Nat → Int32} {n : Nat} {w : Nat → Nat → Int32} {r : Nat → Int32} (h : Now v n w r) : ∃ t f y, t ≤ 5000 ∧ Sw v n t f (y, y) w r := h
def His (v : Nat → Nat → Int32) (n : Nat) (hs : Nat → Nat → Int32) (ww : Nat → Nat → Nat → Int32) (z : Nat → Nat → Int32) : Prop :=
  (∃ o h, o < 8 ∧ h ≤ 8 ∧ hs 0 0 = nI o ∧ hs 1 0 = nI h ∧ z 15 0 = nI h ∧ ∀ k, k < h → Now v n (ww ((o + k) % 8 + 2)) (fun i => z 12 (411 * k + i))) ∧
  (∀ k, k < 2 → z 14 k = b01 (hs 2 0) k) ∧
  (∀ k, k < 2 → bt (hs 2 0) k = true → Now v n (ww (k + 10)) (fun i => z 13 (411 * k + i)))
theorem His.ring {v : Nat → Nat → Int32} {n : Nat} {hs : Nat → Nat → Int32} {ww : Nat → Nat → Nat → Int32} {z : Nat → Nat → Int32} (h : His v n hs ww z) : ∃ o h, o < 8 ∧ h ≤ 8 ∧ hs 0 0 = nI o ∧ hs 1 0 = nI h ∧ z 15 0 = nI h ∧ ∀ k, k < h → Now v n (ww ((o + k) % 8 + 2)) (fun i => z 12 (411 * k + i)) := h.1
theorem His.flag {v : Nat → Nat → Int32} {n : Nat} {hs : Nat → Nat → Int32} {ww : Nat → Nat → Nat → Int32} {z : Nat → Nat → Int32} (h : His v n hs ww z) : ∀ k, k < 2 → z 14 k = b01 (hs 2 0) k := h.2.1
theorem His.slot {v : Nat → Nat → Int32} {n : Nat} {hs : Nat → Nat → Int32} {ww : Nat → Nat → Nat → Int32} {z : Nat → Nat → Int32} (h : His v n hs ww z) : ∀ k, k < 2 → bt (hs 2 0) k = true → Now v n (ww (k + 10)) (fun i => z 13 (411 * k + i)) := h.2.2
def Txt (tx z : Nat → Nat → Int32) : Prop :=
  (∃ L, L ≤ 900 ∧ tx 0 0 = nI L ∧ z 23 0 = nI L ∧ ∀ i, i < L → z 16 i = tx 1 i &&& 255 ∧ -128 ≤ (tx 1 i).toInt ∧ (tx 1 i).toInt < 128)
theorem Txt.ex {tx z : Nat → Nat → Int32} (h : Txt tx z) : ∃ L, L ≤ 900 ∧ tx 0 0 = nI L ∧ z 23 0 = nI L ∧ ∀ i, i < L → z 16 i = tx 1 i &&& 255 ∧ -128 ≤ (tx 1 i).toInt ∧ (tx 1 i).toInt < 128 := h
def pkn (f : Nat → Int32) : Nat → Int64
  | 0 => 0
  | k + 1 => (pkn f k <<< (8 : Int64)) ||| (f k).toInt64
def Nam (n : Nat) (vn : Nat → Int64) (z : Nat → Nat → Int32) : Prop :=
  (∀ o, o < n → ∃ k, 0 < k ∧ k ≤ 8 ∧ vn o = pkn (fun i => z 9 (8 * o + i)) k ∧ (∀ i, i < k → 97 ≤ (z 9 (8 * o + i)).toInt ∧ (z 9 (8 * o + i)).toInt ≤ 122) ∧ ∀ i, k ≤ i → i < 8 → z 9 (8 * o + i) = 0)
theorem Nam.ex {n : Nat} {vn : Nat → Int64} {z : Nat → Nat → Int32} (h : Nam n vn z) : ∀ o, o < n → ∃ k, 0 < k ∧ k ≤ 8 ∧ vn o = pkn (fun i => z 9 (8 * o + i)) k ∧ (∀ i, i < k → 97 ≤ (z 9 (8 * o + i)).toInt ∧ (z 9 (8 * o + i)).toInt ≤ 122) ∧ ∀ i, k ≤ i → i < 8 → z 9 (8 * o + i) = 0 := h
def Smn (n : Nat) (tx ps : Nat → Nat → Int32) (v : Nat → Nat → Int32) (vn : Nat → Int64) (hs : Nat → Nat → Int32) (ww : Nat → Nat → Nat → Int32) (z : Nat → Nat → Int32) : Prop :=
  (Pl v z n) ∧
  (Now v n (ww 0) (z 10)) ∧
  (His v n hs ww z) ∧
  (Txt tx z) ∧
  (Nam n vn z) ∧
  (ps 3 0 = z 28 0) ∧
  (ps 4 0 = z 29 0)
theorem Smn.pl {n : Nat} {tx ps : Nat → Nat → Int32} {v : Nat → Nat → Int32} {vn : Nat → Int64} {hs : Nat → Nat → Int32} {ww : Nat → Nat → Nat → Int32} {z : Nat → Nat → Int32} (h : Smn n tx ps v vn hs ww z) : Pl v z n := h.1
theorem Smn.now {n : Nat} {tx ps : Nat → Nat → Int32} {v : Nat → Nat → Int32} {vn : Nat → Int64} {hs : Nat → Nat → Int32} {ww : Nat → Nat → Nat → Int32} {z : Nat → Nat → Int32} (h : Smn n tx ps v vn hs ww z) : Now v n (ww 0) (z 10) := h.2.1
theorem Smn.his {n : Nat} {tx ps : Nat → Nat → Int32} {v : Nat → Nat → Int32} {vn : Nat → Int64} {hs : Nat → Nat → Int32} {ww : Nat → Nat → Nat → Int32} {z : Nat → Nat → Int32} (h : Smn n tx ps v vn hs ww z) : His v n hs ww z := h.2.2.1
theorem Smn.txt {n : Nat} {tx ps : Nat → Nat → Int32} {v : Nat → Nat → Int32} {vn : Nat → Int64} {hs : Nat → Nat → Int32} {ww : Nat → Nat → Nat → Int32} {z : Nat → Nat → Int32} (h : Smn n tx ps v vn hs ww z) : Txt tx z := h.2.2.2.1
theorem Smn.nam {n : Nat} {tx ps : Nat → Nat → Int32} {v : Nat → Nat → Int32} {vn : Nat → Int64} {hs : Nat → Nat → Int32} {ww : Nat → Nat → Nat → Int32} {z : Nat → Nat → Int32} (h : Smn n tx ps v vn hs ww z) : Nam n vn z := h.2.2.2.2.1
theorem Smn.err {n : Nat} {tx ps : Nat → Nat → Int32} {v : Nat → Nat → Int32} {vn : Nat → Int64} {hs : Nat → Nat → Int32} {ww : Nat → Nat → Nat → Int32} {z : Nat → Nat → Int32} (h : Smn n tx ps v vn hs ww z) : ps 3 0 = z 28 0 := h.2.2.2.2.2.1
theorem Smn.pos {n : Nat} {tx ps : Nat → Nat → Int32} {v : Nat → Nat → Int32} {vn : Nat → Int64} {hs : Nat → Nat → Int32} {ww : Nat → Nat → Nat → Int32} {z : Nat → Nat → Int32} (h : Smn n tx ps v vn hs ww z) : ps 4 0 = z 29 0 := h.2.2.2.2.2.2
def Sim (tx ps : Nat → Nat → Int32) (_nm : Nat → Int64) (v : Nat → Nat → Int32) (vn : Nat → Int64) (hs : Nat → Nat → Int32) (ww : Nat → Nat → Nat → Int32) (z : Nat → Nat → Int32) : Prop := ∃ n, Smn n tx ps v vn hs ww z
theorem smn_z {v : Nat → Nat → Int32} {z : Nat → Nat → Int32} {n : Nat} {tx ps hs : Nat → Nat → Int32} {vn : Nat → Int64} {ww : Nat → Nat → Nat → Int32} {z2 : Nat → Nat → Int32} (h : Smn n tx ps v vn hs ww z) (hz : ∀ i, i ≠ 0 → i ≠ 11 → z2 i = z i) : Smn n tx ps v vn hs ww z2 := by
  obtain ⟨h1, h2, h3, h4, h5, h6, h7⟩ := h
  refine ⟨pl_c h1 (fun i a b => hz i (by omega) (by omega)), ?_, ⟨?_, ?_, ?_⟩, ?_, ?_, ?_, ?_⟩
  · rw [hz 10 (by omega) (by omega)]
    exact h2
  · rw [hz 15 (by omega) (by omega), hz 12 (by omega) (by omega)]
    exact h3.ring
  · rw [hz 14 (by omega) (by omega)]
    exact h3.flag
  · rw [hz 13 (by omega) (by omega)]
    exact h3.slot
  · unfold Txt at h4 ⊢
    rw [hz 23 (by omega) (by omega), hz 16 (by omega) (by omega)]
    exact h4
  · unfold Nam at h5 ⊢
    rw [hz 9 (by omega) (by omega)]
    exact h5
  · rw [hz 28 (by omega) (by omega)]
    exact h6
  · rw [hz 29 (by omega) (by omega)]
    exact h7
theorem lg_lt {x y : Int64} : lg_cmp x y < 0 ↔ x < y := by
  unfold lg_cmp
  by_cases h1 : x > y
  · rw [if_pos h1]
    exact ⟨fun h => absurd h (by decide), fun h => absurd (Int64.lt_trans h h1) (Int64.lt_irrefl)⟩
  · rw [if_neg h1]
    by_cases h2 : x = y
    · rw [if_pos h2, h2]
      exact ⟨fun h => absurd h (by decide), fun h => absurd h (Int64.lt_irrefl)⟩
    · rw [if_neg h2]
      refine ⟨fun _ => ?_, fun _ => by decide⟩
      have h3 := Int64.not_lt.mp h1
      exact Int64.lt_of_le_of_ne h3 h2
theorem lg_gt {x y : Int64} : 0 < lg_cmp x y ↔ y < x := by
  unfold lg_cmp
  by_cases h1 : x > y
  · rw [if_pos h1]
    exact ⟨fun _ => h1, fun _ => by decide⟩
  · rw [if_neg h1]
    by_cases h2 : x = y
    · rw [if_pos h2]
      exact ⟨fun h => absurd h (by decide), fun h => absurd h h1⟩
    · rw [if_neg h2]
      exact ⟨fun h => absurd h (by decide), fun h => absurd h h1⟩
theorem isInR (x a b : Int32) : qX11_isIn x.toInt64 a.toInt64 b.toInt64 = some (if a ≤ x ∧ x ≤ b then 1 else 0) := by
  unfold qX11_isIn
  have h1 : x.toInt64 < a.toInt64 ↔ ¬ a ≤ x := by
    rw [Int64.lt_iff_toInt_lt, Int32.toInt_toInt64, Int32.toInt_toInt64, Int32.le_iff_toInt_le]
    omega
  have h2 : b.toInt64 < x.toInt64 ↔ ¬ x ≤ b := by
    rw [Int64.lt_iff_toInt_lt, Int32.toInt_toInt64, Int32.toInt_toInt64, Int32.le_iff_toInt_le]
    omega
  by_cases c1 : a ≤ x
  · rw [if_neg (show ¬ lg_cmp x.toInt64 a.toInt64 < 0 from fun h => (h1.mp (lg_lt.mp h)) c1)]
    by_cases c2 : x ≤ b
    · rw [if_neg (show ¬ 0 < lg_cmp x.toInt64 b.toInt64 from fun h => (h2.mp (lg_gt.mp h)) c2), if_pos ⟨c1, c2⟩]
    · rw [if_pos (show 0 < lg_cmp x.toInt64 b.toInt64 from lg_gt.mpr (h2.mpr c2)), if_neg (show ¬ (a ≤ x ∧ x ≤ b) from fun h => c2 h.2)]
  · rw [if_pos (show lg_cmp x.toInt64 a.toInt64 < 0 from lg_lt.mpr (h1.mpr c1)), if_neg (show ¬ (a ≤ x ∧ x ≤ b) from fun h => c1 h.1)]
theorem may1 {z : Nat → Nat → Int32} {x : Int32} (h : z 0 0 = 0) : qX11_may z 1 x = some (1, z) := by
  unfold qX11_may
  rw [jn_e, if_neg (show ¬ (1 : Int32) = 0 by decide)]
  dsimp only
  rw [if_pos h]
theorem may0 {z : Nat → Nat → Int32} {x : Int32} (h : z 0 0 = 0) (hx : x ≠ 0) : qX11_may z 0 x = some (0, va_up z 0 (fun _ => x)) := by
  unfold qX11_may
  rw [jn_e, if_pos rfl, if_pos h, bs_e]
  dsimp only
  rw [va_s, if_neg hx]
theorem range_e (x a b : Int32) : qX10_checkRange x a b = some (if a ≤ x ∧ x ≤ b then 0 else 3) := by
  unfold qX10_checkRange
  rw [jn_e]
  by_cases h1 : x < a
  · rw [if_pos h1, if_neg (show ¬ (a ≤ x ∧ x ≤ b) from fun h => Int32.not_lt.mpr h.1 h1)]
  · rw [if_neg h1]
    by_cases h2 : x ≤ b
    · rw [if_pos h2, if_pos ⟨Int32.not_lt.mp h1, h2⟩]
    · rw [if_neg h2, if_neg (show ¬ (a ≤ x ∧ x ≤ b) from fun h => h2 h.2)]
theorem outl_e {v : Nat → Nat → Int32} {z : Nat → Nat → Int32} {n : Nat} {tx ps hs : Nat → Nat → Int32} {nm vn : Nat → Int64} {ww : Nat → Nat → Nat → Int32} (x : Int32) (hp : Pl v z n) : (qX10_checkOutlet tx ps nm v vn hs ww x = some 0 ∧ qX11_isOutlet z x = some 1 ∧ ∃ o, o < n ∧ x = nI o) ∨ (qX10_checkOutlet tx ps nm v vn hs ww x = some 2 ∧ qX11_isOutlet z x = some 0) := by
  have hn := hp.hn
  have hR : qX11_isOutlet z x = some (if 0 ≤ x ∧ x ≤ nI n - 1 then 1 else 0) := by
    unfold qX11_isOutlet
    rw [hp.z1, show (0 : Int64) = (0 : Int32).toInt64 from rfl, isInR, bd_s]
    split
    · rw [gd_t nb1]
    · rw [gd_t nb0]
  have hle : x ≤ nI n - 1 ↔ x < nI n := by
    rw [Int32.le_iff_toInt_le, Int32.lt_iff_toInt_lt, Int32.toInt_sub, nI_toInt (by omega), Int.bmod_eq_of_le (by have : (1 : Int32).toInt = 1 := rfl; omega) (by have : (1 : Int32).toInt = 1 := rfl; omega)]
    have : (1 : Int32).toInt = 1 := rfl
    omega
  unfold qX10_checkOutlet
  rw [hR, hp.v0, jn_e]
  by_cases h1 : x < 0
  · rw [if_pos h1, if_neg (show ¬ (0 ≤ x ∧ x ≤ nI n - 1) from fun h => Int32.not_lt.mpr h.1 h1)]
    exact Or.inr ⟨rfl, rfl⟩
  · rw [if_neg h1]
    by_cases h2 : x < nI n
    · rw [if_pos h2, if_pos (show 0 ≤ x ∧ x ≤ nI n - 1 from ⟨Int32.not_lt.mp h1, hle.mpr h2⟩)]
      obtain ⟨o, g1, g2⟩ := nI_of h1
      refine Or.inl ⟨rfl, rfl, o, ?_, g2⟩
      rw [g2] at h2
      exact (nI_ltI (by omega) (by omega)).mp h2
    · rw [if_neg h2, if_neg (show ¬ (0 ≤ x ∧ x ≤ nI n - 1) from fun h => h2 (hle.mp h.2))]
      exact Or.inr ⟨rfl, rfl⟩
