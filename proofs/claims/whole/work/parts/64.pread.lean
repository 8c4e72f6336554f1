-- the reports
theorem ne0_6 : (((0 : Int32) = 6) = False) := eq_false (by decide)
theorem ne0_7 : (((0 : Int32) = 7) = False) := eq_false (by decide)
theorem ne0_8 : (((0 : Int32) = 8) = False) := eq_false (by decide)
theorem ne0_9 : (((0 : Int32) = 9) = False) := eq_false (by decide)
theorem ne0_10 : (((0 : Int32) = 10) = False) := eq_false (by decide)
theorem ne0_11 : (((0 : Int32) = 11) = False) := eq_false (by decide)
theorem ne0_12 : (((0 : Int32) = 12) = False) := eq_false (by decide)
theorem ne0_13 : (((0 : Int32) = 13) = False) := eq_false (by decide)
theorem ne1_6 : (((1 : Int32) = 6) = False) := eq_false (by decide)
theorem ne1_7 : (((1 : Int32) = 7) = False) := eq_false (by decide)
theorem ne1_8 : (((1 : Int32) = 8) = False) := eq_false (by decide)
theorem ne1_9 : (((1 : Int32) = 9) = False) := eq_false (by decide)
theorem ne1_10 : (((1 : Int32) = 10) = False) := eq_false (by decide)
theorem ne1_11 : (((1 : Int32) = 11) = False) := eq_false (by decide)
theorem ne1_12 : (((1 : Int32) = 12) = False) := eq_false (by decide)
theorem ne1_13 : (((1 : Int32) = 13) = False) := eq_false (by decide)
theorem ne2_6 : (((2 : Int32) = 6) = False) := eq_false (by decide)
theorem ne2_7 : (((2 : Int32) = 7) = False) := eq_false (by decide)
theorem ne2_8 : (((2 : Int32) = 8) = False) := eq_false (by decide)
theorem ne2_9 : (((2 : Int32) = 9) = False) := eq_false (by decide)
theorem ne2_10 : (((2 : Int32) = 10) = False) := eq_false (by decide)
theorem ne2_11 : (((2 : Int32) = 11) = False) := eq_false (by decide)
theorem ne2_12 : (((2 : Int32) = 12) = False) := eq_false (by decide)
theorem ne2_13 : (((2 : Int32) = 13) = False) := eq_false (by decide)
theorem ne3_6 : (((3 : Int32) = 6) = False) := eq_false (by decide)
theorem ne3_7 : (((3 : Int32) = 7) = False) := eq_false (by decide)
theorem ne3_8 : (((3 : Int32) = 8) = False) := eq_false (by decide)
theorem ne3_9 : (((3 : Int32) = 9) = False) := eq_false (by decide)
theorem ne3_10 : (((3 : Int32) = 10) = False) := eq_false (by decide)
theorem ne3_11 : (((3 : Int32) = 11) = False) := eq_false (by decide)
theorem ne3_12 : (((3 : Int32) = 12) = False) := eq_false (by decide)
theorem ne3_13 : (((3 : Int32) = 13) = False) := eq_false (by decide)
theorem ne4_6 : (((4 : Int32) = 6) = False) := eq_false (by decide)
theorem ne4_7 : (((4 : Int32) = 7) = False) := eq_false (by decide)
theorem ne4_8 : (((4 : Int32) = 8) = False) := eq_false (by decide)
theorem ne4_9 : (((4 : Int32) = 9) = False) := eq_false (by decide)
theorem ne4_10 : (((4 : Int32) = 10) = False) := eq_false (by decide)
theorem ne4_11 : (((4 : Int32) = 11) = False) := eq_false (by decide)
theorem ne4_12 : (((4 : Int32) = 12) = False) := eq_false (by decide)
theorem ne4_13 : (((4 : Int32) = 13) = False) := eq_false (by decide)
theorem ne5_6 : (((5 : Int32) = 6) = False) := eq_false (by decide)
theorem ne5_7 : (((5 : Int32) = 7) = False) := eq_false (by decide)
theorem ne5_8 : (((5 : Int32) = 8) = False) := eq_false (by decide)
theorem ne5_9 : (((5 : Int32) = 9) = False) := eq_false (by decide)
theorem ne5_10 : (((5 : Int32) = 10) = False) := eq_false (by decide)
theorem ne5_11 : (((5 : Int32) = 11) = False) := eq_false (by decide)
theorem ne5_12 : (((5 : Int32) = 12) = False) := eq_false (by decide)
theorem ne5_13 : (((5 : Int32) = 13) = False) := eq_false (by decide)
theorem ne6_0 : (((6 : Int32) = 0) = False) := eq_false (by decide)
theorem ne6_1 : (((6 : Int32) = 1) = False) := eq_false (by decide)
theorem ne6_2 : (((6 : Int32) = 2) = False) := eq_false (by decide)
theorem ne6_3 : (((6 : Int32) = 3) = False) := eq_false (by decide)
theorem ne6_4 : (((6 : Int32) = 4) = False) := eq_false (by decide)
theorem ne6_5 : (((6 : Int32) = 5) = False) := eq_false (by decide)
theorem ne6_7 : (((6 : Int32) = 7) = False) := eq_false (by decide)
theorem ne6_8 : (((6 : Int32) = 8) = False) := eq_false (by decide)
theorem ne6_9 : (((6 : Int32) = 9) = False) := eq_false (by decide)
theorem ne6_10 : (((6 : Int32) = 10) = False) := eq_false (by decide)
theorem ne6_11 : (((6 : Int32) = 11) = False) := eq_false (by decide)
theorem ne6_12 : (((6 : Int32) = 12) = False) := eq_false (by decide)
theorem ne6_13 : (((6 : Int32) = 13) = False) := eq_false (by decide)
theorem ne7_0 : (((7 : Int32) = 0) = False) := eq_false (by decide)
theorem ne7_1 : (((7 : Int32) = 1) = False) := eq_false (by decide)
theorem ne7_2 : (((7 : Int32) = 2) = False) := eq_false (by decide)
theorem ne7_3 : (((7 : Int32) = 3) = False) := eq_false (by decide)
theorem ne7_4 : (((7 : Int32) = 4) = False) := eq_false (by decide)
theorem ne7_5 : (((7 : Int32) = 5) = False) := eq_false (by decide)
theorem ne7_6 : (((7 : Int32) = 6) = False) := eq_false (by decide)
theorem ne7_8 : (((7 : Int32) = 8) = False) := eq_false (by decide)
theorem ne7_9 : (((7 : Int32) = 9) = False) := eq_false (by decide)
theorem ne7_10 : (((7 : Int32) = 10) = False) := eq_false (by decide)
theorem ne7_11 : (((7 : Int32) = 11) = False) := eq_false (by decide)
theorem ne7_12 : (((7 : Int32) = 12) = False) := eq_false (by decide)
theorem ne7_13 : (((7 : Int32) = 13) = False) := eq_false (by decide)
theorem ne8_0 : (((8 : Int32) = 0) = False) := eq_false (by decide)
theorem ne8_1 : (((8 : Int32) = 1) = False) := eq_false (by decide)
theorem ne8_2 : (((8 : Int32) = 2) = False) := eq_false (by decide)
theorem ne8_3 : (((8 : Int32) = 3) = False) := eq_false (by decide)
theorem ne8_4 : (((8 : Int32) = 4) = False) := eq_false (by decide)
theorem ne8_5 : (((8 : Int32) = 5) = False) := eq_false (by decide)
theorem ne8_6 : (((8 : Int32) = 6) = False) := eq_false (by decide)
theorem ne8_7 : (((8 : Int32) = 7) = False) := eq_false (by decide)
theorem ne8_9 : (((8 : Int32) = 9) = False) := eq_false (by decide)
theorem ne8_10 : (((8 : Int32) = 10) = False) := eq_false (by decide)
theorem ne8_11 : (((8 : Int32) = 11) = False) := eq_false (by decide)
theorem ne8_12 : (((8 : Int32) = 12) = False) := eq_false (by decide)
theorem ne8_13 : (((8 : Int32) = 13) = False) := eq_false (by decide)
theorem ne9_0 : (((9 : Int32) = 0) = False) := eq_false (by decide)
theorem ne9_1 : (((9 : Int32) = 1) = False) := eq_false (by decide)
theorem ne9_2 : (((9 : Int32) = 2) = False) := eq_false (by decide)
theorem ne9_3 : (((9 : Int32) = 3) = False) := eq_false (by decide)
theorem ne9_4 : (((9 : Int32) = 4) = False) := eq_false (by decide)
theorem ne9_5 : (((9 : Int32) = 5) = False) := eq_false (by decide)
theorem ne9_6 : (((9 : Int32) = 6) = False) := eq_false (by decide)
theorem ne9_7 : (((9 : Int32) = 7) = False) := eq_false (by decide)
theorem ne9_8 : (((9 : Int32) = 8) = False) := eq_false (by decide)
theorem ne9_10 : (((9 : Int32) = 10) = False) := eq_false (by decide)
theorem ne9_11 : (((9 : Int32) = 11) = False) := eq_false (by decide)
theorem ne9_12 : (((9 : Int32) = 12) = False) := eq_false (by decide)
theorem ne9_13 : (((9 : Int32) = 13) = False) := eq_false (by decide)
theorem ne10_0 : (((10 : Int32) = 0) = False) := eq_false (by decide)
theorem ne10_1 : (((10 : Int32) = 1) = False) := eq_false (by decide)
theorem ne10_2 : (((10 : Int32) = 2) = False) := eq_false (by decide)
theorem ne10_3 : (((10 : Int32) = 3) = False) := eq_false (by decide)
theorem ne10_4 : (((10 : Int32) = 4) = False) := eq_false (by decide)
theorem ne10_5 : (((10 : Int32) = 5) = False) := eq_false (by decide)
theorem ne10_6 : (((10 : Int32) = 6) = False) := eq_false (by decide)
theorem ne10_7 : (((10 : Int32) = 7) = False) := eq_false (by decide)
theorem ne10_8 : (((10 : Int32) = 8) = False) := eq_false (by decide)
theorem ne10_9 : (((10 : Int32) = 9) = False) := eq_false (by decide)
theorem ne10_11 : (((10 : Int32) = 11) = False) := eq_false (by decide)
theorem ne10_12 : (((10 : Int32) = 12) = False) := eq_false (by decide)
theorem ne10_13 : (((10 : Int32) = 13) = False) := eq_false (by decide)
theorem ne11_0 : (((11 : Int32) = 0) = False) := eq_false (by decide)
theorem ne11_1 : (((11 : Int32) = 1) = False) := eq_false (by decide)
theorem ne11_2 : (((11 : Int32) = 2) = False) := eq_false (by decide)
theorem ne11_3 : (((11 : Int32) = 3) = False) := eq_false (by decide)
theorem ne11_4 : (((11 : Int32) = 4) = False) := eq_false (by decide)
theorem ne11_5 : (((11 : Int32) = 5) = False) := eq_false (by decide)
theorem ne11_6 : (((11 : Int32) = 6) = False) := eq_false (by decide)
theorem ne11_7 : (((11 : Int32) = 7) = False) := eq_false (by decide)
theorem ne11_8 : (((11 : Int32) = 8) = False) := eq_false (by decide)
theorem ne11_9 : (((11 : Int32) = 9) = False) := eq_false (by decide)
theorem ne11_10 : (((11 : Int32) = 10) = False) := eq_false (by decide)
theorem ne11_12 : (((11 : Int32) = 12) = False) := eq_false (by decide)
theorem ne11_13 : (((11 : Int32) = 13) = False) := eq_false (by decide)
theorem ne12_0 : (((12 : Int32) = 0) = False) := eq_false (by decide)
theorem ne12_1 : (((12 : Int32) = 1) = False) := eq_false (by decide)
theorem ne12_2 : (((12 : Int32) = 2) = False) := eq_false (by decide)
theorem ne12_3 : (((12 : Int32) = 3) = False) := eq_false (by decide)
theorem ne12_4 : (((12 : Int32) = 4) = False) := eq_false (by decide)
theorem ne12_5 : (((12 : Int32) = 5) = False) := eq_false (by decide)
theorem ne12_6 : (((12 : Int32) = 6) = False) := eq_false (by decide)
theorem ne12_7 : (((12 : Int32) = 7) = False) := eq_false (by decide)
theorem ne12_8 : (((12 : Int32) = 8) = False) := eq_false (by decide)
theorem ne12_9 : (((12 : Int32) = 9) = False) := eq_false (by decide)
theorem ne12_10 : (((12 : Int32) = 10) = False) := eq_false (by decide)
theorem ne12_11 : (((12 : Int32) = 11) = False) := eq_false (by decide)
theorem ne12_13 : (((12 : Int32) = 13) = False) := eq_false (by decide)
theorem ne13_0 : (((13 : Int32) = 0) = False) := eq_false (by decide)
theorem ne13_1 : (((13 : Int32) = 1) = False) := eq_false (by decide)
theorem ne13_2 : (((13 : Int32) = 2) = False) := eq_false (by decide)
theorem ne13_3 : (((13 : Int32) = 3) = False) := eq_false (by decide)
theorem ne13_4 : (((13 : Int32) = 4) = False) := eq_false (by decide)
theorem ne13_5 : (((13 : Int32) = 5) = False) := eq_false (by decide)
theorem ne13_6 : (((13 : Int32) = 6) = False) := eq_false (by decide)
theorem ne13_7 : (((13 : Int32) = 7) = False) := eq_false (by decide)
theorem ne13_8 : (((13 : Int32) = 8) = False) := eq_false (by decide)
theorem ne13_9 : (((13 : Int32) = 9) = False) := eq_false (by decide)
theorem ne13_10 : (((13 : Int32) = 10) = False) := eq_false (by decide)
theorem ne13_11 : (((13 : Int32) = 11) = False) := eq_false (by decide)
theorem ne13_12 : (((13 : Int32) = 12) = False) := eq_false (by decide)
theorem isIn_0_13 (x : Int32) : qX11_isIn x.toInt64 0 13 = some (if 0 ≤ x ∧ x ≤ 13 then 1 else 0) := isInR x 0 13
theorem isIn_0_9 (x : Int32) : qX11_isIn x.toInt64 0 9 = some (if 0 ≤ x ∧ x ≤ 9 then 1 else 0) := isInR x 0 9
theorem isIn_0_5 (x : Int32) : qX11_isIn x.toInt64 0 5 = some (if 0 ≤ x ∧ x ≤ 5 then 1 else 0) := isInR x 0 5
theorem isIn_0_3 (x : Int32) : qX11_isIn x.toInt64 0 3 = some (if 0 ≤ x ∧ x ≤ 3 then 1 else 0) := isInR x 0 3
theorem isIn_0_2 (x : Int32) : qX11_isIn x.toInt64 0 2 = some (if 0 ≤ x ∧ x ≤ 2 then 1 else 0) := isInR x 0 2
theorem isIn_1_200 (x : Int32) : qX11_isIn x.toInt64 1 200 = some (if 1 ≤ x ∧ x ≤ 200 then 1 else 0) := isInR x 1 200
theorem isIn_1_50 (x : Int32) : qX11_isIn x.toInt64 1 50 = some (if 1 ≤ x ∧ x ≤ 50 then 1 else 0) := isInR x 1 50
theorem isIn_1_9999 (x : Int32) : qX11_isIn x.toInt64 1 9999 = some (if 1 ≤ x ∧ x ≤ 9999 then 1 else 0) := isInR x 1 9999
theorem isIn_1_500 (x : Int32) : qX11_isIn x.toInt64 1 500 = some (if 1 ≤ x ∧ x ≤ 500 then 1 else 0) := isInR x 1 500
theorem isIn_0_1 (x : Int32) : qX11_isIn x.toInt64 0 1 = some (if 0 ≤ x ∧ x ≤ 1 then 1 else 0) := isInR x 0 1
theorem isIn_1_20 (x : Int32) : qX11_isIn x.toInt64 1 20 = some (if 1 ≤ x ∧ x ≤ 20 then 1 else 0) := isInR x 1 20
theorem inl_of {x : Int32} {m : Nat} {M : Int32} (hM : M.toInt = m) (h : 0 ≤ x ∧ x ≤ M) : ∃ j, j ≤ m ∧ x = nI j := nI_of2 hM (Int32.not_lt.mpr h.1) h.2
def z0 (z : Nat → Nat → Int32) : Nat → Nat → Int32 := va_up z 0 (fun _ => 0)
theorem z0_0 (z : Nat → Nat → Int32) : z0 z 0 0 = 0 := by unfold z0; rw [va_s]
theorem z0_n (z : Nat → Nat → Int32) {i : Nat} (h : i ≠ 0) : z0 z i = z i := by unfold z0; rw [va_n h]
theorem smn_0 {v : Nat → Nat → Int32} {z : Nat → Nat → Int32} {n : Nat} {tx ps hs : Nat → Nat → Int32} {vn : Nat → Int64} {ww : Nat → Nat → Nat → Int32} (h : Smn n tx ps v vn hs ww z) : Smn n tx ps v vn hs ww (z0 z) := smn_z h (fun i a _ => z0_n z a)
theorem smn_e {v : Nat → Nat → Int32} {z : Nat → Nat → Int32} {n : Nat} {tx ps hs : Nat → Nat → Int32} {vn : Nat → Int64} {ww : Nat → Nat → Nat → Int32} (h : Smn n tx ps v vn hs ww z) (x : Int32) : Smn n tx ps v vn hs ww (va_up z 0 (fun _ => x)) := smn_z h (fun i a _ => va_n a)
theorem st_errorCode : St_errorCode Sim := by
  intro tx ps nm v vn hs ww z ⟨n, h⟩
  refine ⟨ps 3 0, z 28 0, z0 z, rfl, ?_, h.err, n, smn_0 h⟩
  unfold qX11_errorCode
  rfl
theorem st_errorPosition : St_errorPosition Sim := by
  intro tx ps nm v vn hs ww z ⟨n, h⟩
  refine ⟨ps 4 0, z 29 0, z0 z, rfl, ?_, h.pos, n, smn_0 h⟩
  unfold qX11_errorPosition
  rfl
theorem lostInAll_e {v : Nat → Nat → Int32} {w : Nat → Nat → Int32} {r : Nat → Int32} {n : Nat} {t : Nat} {s : Nat} {c : Nat} {p : Nat} {l : Nat} {f : Nat} {pk : Int32 × Int32} (h : Ev v n t s c p l f pk w r) : qX8_lostInAll v w = some (r 5) := by
  unfold qX8_lostInAll
  have e6 : (6 : Int32) = nI 6 := rfl
  have st : ∀ g k (y : Int32), k < 6 → qX8_lostInAll_L4 v w (fun (x1_3 : Int32) => some x1_3) (g + 1) y (nI k) = qX8_lostInAll_L4 v w (fun (x1_3 : Int32) => some x1_3) g (y + w 33 k) (nI (k + 1)) := by
    intro g k y hk
    rw [qX8_lostInAll_L4, e6, if_neg (nle hk (by omega)), gdn (by omega) (by omega), cl (by omega), p1]
  have ef : fu = 3993 + 1 + 1 + 1 + 1 + 1 + 1 + 1 := rfl
  rw [ef]
  show qX8_lostInAll_L4 v w _ _ 0 (nI 0) = _
  rw [st _ 0 _ (by omega), st _ 1 _ (by omega), st _ 2 _ (by omega), st _ 3 _ (by omega), st _ 4 _ (by omega), st _ 5 _ (by omega), qX8_lostInAll_L4, e6, if_pos (Int32.le_refl _), h.lost, Int32.zero_add]
theorem st_count : St_count Sim := by
  intro tx ps nm v vn hs ww z ⟨n, h⟩ x
  have h0 := smn_0 h
  have hz := z0_0 z
  obtain ⟨t, f, pk, ht, s, c, p, l, hE, hI, hs72, hpk⟩ := h0.now.ex
  obtain ⟨o, hc, ho, hh, o0, o1, o2, o3⟩ := h0.his.ring
  obtain ⟨nn, n16, nz, nv⟩ := h0.pl.need
  have hR : qX11_count z x = bd2 (qX11_may (z0 z) (if 0 ≤ x ∧ x ≤ 13 then 1 else 0) 1) fun r_3 z_4 => if r_3 = 0 then some (0, z_4) else (if x = 0 then some ((z_4 1 0), z_4) else if x = 1 then some ((z_4 2 0), z_4) else if x = 2 then some (((z_4 10) 0), z_4) else if x = 3 then bd (qX11_isDark z_4 (z_4 10)) fun r_5 => if r_5 = 0 then some (1, z_4) else some (0, z_4) else if x = 4 then some (((z_4 10) 2), z_4) else if x = 5 then some (((z_4 10) 3), z_4) else if x = 6 then some (((z_4 10) 11), z_4) else if x = 7 then some (((z_4 10) 4), z_4) else if x = 8 then some (((z_4 10) 5), z_4) else if x = 9 then some (((z_4 10) 6), z_4) else if x = 10 then some (((z_4 10) 7), z_4) else if x = 11 then some (((z_4 10) 8), z_4) else if x = 12 then some (((z_4 10) 9), z_4) else some ((z_4 15 0), z_4)) := by
    unfold qX11_count
    rw [bs_e, isIn_0_13, bd_s]
    rfl
  rw [hR]
  by_cases hx : 0 ≤ x ∧ x ≤ 13
  · rw [if_pos hx, may1 hz, bd2_s, if_neg (show ¬ (1 : Int32) = 0 by decide)]
    obtain ⟨j, hj, ej⟩ := inl_of (m := 13) rfl hx
    subst ej
    rcases (show j = 0 ∨ j = 1 ∨ j = 2 ∨ j = 3 ∨ j = 4 ∨ j = 5 ∨ j = 6 ∨ j = 7 ∨ j = 8 ∨ j = 9 ∨ j = 10 ∨ j = 11 ∨ j = 12 ∨ j = 13 by omega) with e | e | e | e | e | e | e | e | e | e | e | e | e | e <;> subst e
    · simp only [show (nI 0 : Int32) = 0 from rfl, qX10_count, ne01, ne02, ne03, ne04, ne05, ne0_6, ne0_7, ne0_8, ne0_9, ne0_10, ne0_11, ne0_12, ne0_13, e_t, i_t, i_f, if_true, if_false]
      exact ⟨0, v 0 0, (z0 z) 1 0, z0 z, rfl, rfl, Or.inl ⟨rfl, hz, h0.pl.v0.trans h0.pl.z1.symm⟩, n, h0⟩
    · simp only [show (nI 1 : Int32) = 1 from rfl, qX10_count, ne10, ne12, ne13, ne14, ne15, ne1_6, ne1_7, ne1_8, ne1_9, ne1_10, ne1_11, ne1_12, ne1_13, e_t, i_t, i_f, if_true, if_false]
      rw [nv, bd_s]
      exact ⟨0, nI nn, (z0 z) 2 0, z0 z, rfl, rfl, Or.inl ⟨rfl, hz, nz.symm⟩, n, h0⟩
    · simp only [show (nI 2 : Int32) = 2 from rfl, qX10_count, ne20, ne21, ne23, ne24, ne25, ne2_6, ne2_7, ne2_8, ne2_9, ne2_10, ne2_11, ne2_12, ne2_13, e_t, i_t, i_f, if_true, if_false]
      exact ⟨0, (ww 0) 0 0, (z0 z) 10 0, z0 z, rfl, rfl, Or.inl ⟨rfl, hz, hE.tick.trans hE.tickr.symm⟩, n, h0⟩
    · simp only [show (nI 3 : Int32) = 3 from rfl, qX10_count, ne30, ne31, ne32, ne34, ne35, ne3_6, ne3_7, ne3_8, ne3_9, ne3_10, ne3_11, ne3_12, ne3_13, e_t, i_t, i_f, if_true, if_false]
      rw [isDark_e (v := v) hE]
      have hD : qX9_isDark v (ww 0) = some (if (ww 0) 1 0 ≤ (ww 0) 0 0 then 0 else 1) := by
        unfold qX9_isDark
        split <;> rfl
      rw [hD, bd_s, bd_s]
      by_cases e : (ww 0) 1 0 ≤ (ww 0) 0 0
      · rw [if_pos e, if_pos rfl, if_pos rfl]
        exact ⟨0, 1, 1, z0 z, rfl, rfl, Or.inl ⟨rfl, hz, rfl⟩, n, h0⟩
      · rw [if_neg e, if_neg (show ¬ (1 : Int32) = 0 by decide), if_neg (show ¬ (1 : Int32) = 0 by decide)]
        exact ⟨0, 0, 0, z0 z, rfl, rfl, Or.inl ⟨rfl, hz, rfl⟩, n, h0⟩
    · simp only [show (nI 4 : Int32) = 4 from rfl, qX10_count, ne40, ne41, ne42, ne43, ne45, ne4_6, ne4_7, ne4_8, ne4_9, ne4_10, ne4_11, ne4_12, ne4_13, e_t, i_t, i_f, if_true, if_false]
      exact ⟨0, (ww 0) 5 0, (z0 z) 10 2, z0 z, rfl, rfl, Or.inl ⟨rfl, hz, hE.blk⟩, n, h0⟩
    · simp only [show (nI 5 : Int32) = 5 from rfl, qX10_count, ne50, ne51, ne52, ne53, ne54, ne5_6, ne5_7, ne5_8, ne5_9, ne5_10, ne5_11, ne5_12, ne5_13, e_t, i_t, i_f, if_true, if_false]
      exact ⟨0, (ww 0) 6 0, (z0 z) 10 3, z0 z, rfl, rfl, Or.inl ⟨rfl, hz, hE.trips⟩, n, h0⟩
    · simp only [show (nI 6 : Int32) = 6 from rfl, qX10_count, ne6_0, ne6_1, ne6_2, ne6_3, ne6_4, ne6_5, ne6_7, ne6_8, ne6_9, ne6_10, ne6_11, ne6_12, ne6_13, e_t, i_t, i_f, if_true, if_false]
      exact ⟨0, (ww 0) 31 0, (z0 z) 10 11, z0 z, rfl, rfl, Or.inl ⟨rfl, hz, hE.wait.trans hE.waitr.symm⟩, n, h0⟩
    · simp only [show (nI 7 : Int32) = 7 from rfl, qX10_count, ne7_0, ne7_1, ne7_2, ne7_3, ne7_4, ne7_5, ne7_6, ne7_8, ne7_9, ne7_10, ne7_11, ne7_12, ne7_13, e_t, i_t, i_f, if_true, if_false]
      exact ⟨0, (ww 0) 34 0, (z0 z) 10 4, z0 z, rfl, rfl, Or.inl ⟨rfl, hz, hE.sent.trans hE.sentr.symm⟩, n, h0⟩
    · simp only [show (nI 8 : Int32) = 8 from rfl, qX10_count, ne8_0, ne8_1, ne8_2, ne8_3, ne8_4, ne8_5, ne8_6, ne8_7, ne8_9, ne8_10, ne8_11, ne8_12, ne8_13, e_t, i_t, i_f, if_true, if_false]
      rw [lostInAll_e hE, bd_s]
      exact ⟨0, (z0 z) 10 5, (z0 z) 10 5, z0 z, rfl, rfl, Or.inl ⟨rfl, hz, rfl⟩, n, h0⟩
    · simp only [show (nI 9 : Int32) = 9 from rfl, qX10_count, ne9_0, ne9_1, ne9_2, ne9_3, ne9_4, ne9_5, ne9_6, ne9_7, ne9_8, ne9_10, ne9_11, ne9_12, ne9_13, e_t, i_t, i_f, if_true, if_false]
      exact ⟨0, (ww 0) 2 0, (z0 z) 10 6, z0 z, rfl, rfl, Or.inl ⟨rfl, hz, hE.fuse.trans hE.fuser.symm⟩, n, h0⟩
    · simp only [show (nI 10 : Int32) = 10 from rfl, qX10_count, ne10_0, ne10_1, ne10_2, ne10_3, ne10_4, ne10_5, ne10_6, ne10_7, ne10_8, ne10_9, ne10_11, ne10_12, ne10_13, e_t, i_t, i_f, if_true, if_false]
      exact ⟨0, (ww 0) 3 0, (z0 z) 10 7, z0 z, rfl, rfl, Or.inl ⟨rfl, hz, hE.retry⟩, n, h0⟩
    · simp only [show (nI 11 : Int32) = 11 from rfl, qX10_count, ne11_0, ne11_1, ne11_2, ne11_3, ne11_4, ne11_5, ne11_6, ne11_7, ne11_8, ne11_9, ne11_10, ne11_12, ne11_13, e_t, i_t, i_f, if_true, if_false]
      exact ⟨0, v 4 0, (z0 z) 10 8, z0 z, rfl, rfl, Or.inl ⟨rfl, hz, hE.pat⟩, n, h0⟩
    · simp only [show (nI 12 : Int32) = 12 from rfl, qX10_count, ne12_0, ne12_1, ne12_2, ne12_3, ne12_4, ne12_5, ne12_6, ne12_7, ne12_8, ne12_9, ne12_10, ne12_11, ne12_13, e_t, i_t, i_f, if_true, if_false]
      rcases hI.s01 with e | e
      · rw [if_pos e]
        exact ⟨0, 0, (z0 z) 10 9, z0 z, rfl, rfl, Or.inl ⟨rfl, hz, by rw [← hE.strict, e]⟩, n, h0⟩
      · rw [if_neg (show ¬ (ww 0) 4 0 = 0 by rw [e]; decide)]
        exact ⟨0, 1, (z0 z) 10 9, z0 z, rfl, rfl, Or.inl ⟨rfl, hz, by rw [← hE.strict, e]⟩, n, h0⟩
    · simp only [show (nI 13 : Int32) = 13 from rfl, qX10_count, ne13_0, ne13_1, ne13_2, ne13_3, ne13_4, ne13_5, ne13_6, ne13_7, ne13_8, ne13_9, ne13_10, ne13_11, ne13_12, e_t, i_t, i_f, if_true, if_false]
      exact ⟨0, hs 1 0, (z0 z) 15 0, z0 z, rfl, rfl, Or.inl ⟨rfl, hz, o1.trans o2.symm⟩, n, h0⟩
  · rw [if_neg hx, may0 hz (by decide), bd2_s, if_pos rfl]
    refine ⟨3, 0, 0, va_up (z0 z) 0 (fun _ => 1), ?_, rfl, Or.inr ⟨rfl, by rw [va_s]⟩, n, smn_e h0 _⟩
    unfold qX10_count
    rw [if_neg (show ¬ x = 0 from fun e => hx (by rw [e]; decide))]
    rw [if_neg (show ¬ x = 1 from fun e => hx (by rw [e]; decide))]
    rw [if_neg (show ¬ x = 2 from fun e => hx (by rw [e]; decide))]
    rw [if_neg (show ¬ x = 3 from fun e => hx (by rw [e]; decide))]
    rw [if_neg (show ¬ x = 4 from fun e => hx (by rw [e]; decide))]
    rw [if_neg (show ¬ x = 5 from fun e => hx (by rw [e]; decide))]
    rw [if_neg (show ¬ x = 6 from fun e => hx (by rw [e]; decide))]
    rw [if_neg (show ¬ x = 7 from fun e => hx (by rw [e]; decide))]
    rw [if_neg (show ¬ x = 8 from fun e => hx (by rw [e]; decide))]
    rw [if_neg (show ¬ x = 9 from fun e => hx (by rw [e]; decide))]
    rw [if_neg (show ¬ x = 10 from fun e => hx (by rw [e]; decide))]
    rw [if_neg (show ¬ x = 11 from fun e => hx (by rw [e]; decide))]
    rw [if_neg (show ¬ x = 12 from fun e => hx (by rw [e]; decide))]
    rw [if_neg (show ¬ x = 13 from fun e => hx (by rw [e]; decide))]
