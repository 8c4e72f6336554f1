-- a name as a number
def lb (x : Int64) (i : Nat) : Bool := x.toBitVec.getLsbD i
theorem b_sm : ∀ m, m < 256 → ∀ i, i < 32 → 8 ≤ i → bt (nI m) i = false := by decide +kernel
theorem lett_n {c : Int32} (h : lett c = true) : ∃ m, m < 256 ∧ c = nI m := by
  obtain ⟨h1, h2⟩ := lett_i.mp h
  have h0 : ¬ c < 0 := by
    rw [Int32.lt_iff_toInt_lt, show (0 : Int32).toInt = 0 from rfl]
    omega
  obtain ⟨m, g1, g2⟩ := nI_of h0
  refine ⟨m, ?_, g2⟩
  rw [g2, nI_toInt g1] at h2
  omega
theorem lett_b {c : Int32} (h : lett c = true) {i : Nat} (h8 : 8 ≤ i) : bt c i = false := by
  obtain ⟨m, h1, h2⟩ := lett_n h
  by_cases e : i < 32
  · rw [h2]
    exact b_sm m h1 i e h8
  · exact b_big (by omega)
theorem pk_bit (a : Int64) {c : Int32} (h : lett c = true) {i : Nat} (hi : i < 64) : lb ((a <<< (8 : Int64)) ||| c.toInt64) i = if i < 8 then bt c i else lb a (i - 8) := by
  have hm : c.toBitVec.msb = false := by
    rw [BitVec.msb_eq_getLsbD_last]
    exact lett_b h (i := 31) (by omega)
  unfold lb
  rw [Int64.toBitVec_or, BitVec.getLsbD_or, Int64.toBitVec_shiftLeft, Int32.toBitVec_toInt64]
  show ((a.toBitVec <<< ((8 : Int64).toBitVec.smod 64).toNat).getLsbD i || _) = _
  rw [show ((8 : Int64).toBitVec.smod 64).toNat = 8 from by decide, BitVec.getLsbD_shiftLeft, BitVec.getLsbD_signExtend, hm, decide_eq_true hi, Bool.true_and, Bool.true_and]
  by_cases e : i < 8
  · rw [if_pos e, decide_eq_true e, if_pos (show i < 32 by omega)]
    rfl
  · rw [if_neg e, decide_eq_false e]
    have h2 : (if i < 32 then c.toBitVec.getLsbD i else false) = false := by
      split
      · exact lett_b h (by omega)
      · rfl
    rw [h2, Bool.or_false]
    rfl
theorem lb_ext {x y : Int64} (h : ∀ i, i < 64 → lb x i = lb y i) : x = y := Int64.toBitVec_inj.mp (BitVec.eq_of_getLsbD_eq (fun i hi => h i hi))
theorem pkn_hi {f : Nat → Int32} : ∀ (k : Nat), (∀ i, i < k → lett (f i) = true) → ∀ i, 8 * k ≤ i → i < 64 → lb (pkn f k) i = false
  | 0, _, i, _, _ => BitVec.getLsbD_zero
  | k + 1, h, i, h1, h2 => by
    show lb ((pkn f k <<< (8 : Int64)) ||| (f k).toInt64) i = false
    rw [pk_bit _ (h k (by omega)) h2, if_neg (by omega)]
    exact pkn_hi k (fun j hj => h j (by omega)) (i - 8) (by omega) (by omega)
theorem pkn_ne {f : Nat → Int32} {k : Nat} (h : ∀ i, i < k + 1 → lett (f i) = true) : pkn f (k + 1) ≠ 0 := by
  intro e
  have hk := h k (by omega)
  refine lett_0 hk (b_ext fun i hi => ?_)
  rw [b_0]
  by_cases g : i < 8
  · have h1 : lb (pkn f (k + 1)) i = lb 0 i := by rw [e]
    have h2 : lb (pkn f (k + 1)) i = bt (f k) i := by
      show lb ((pkn f k <<< (8 : Int64)) ||| (f k).toInt64) i = _
      rw [pk_bit _ hk (by omega), if_pos g]
    rw [← h2, h1]
    exact BitVec.getLsbD_zero
  · exact lett_b hk (by omega)
theorem pkn_inj {f g : Nat → Int32} : ∀ (k m : Nat), k ≤ 8 → m ≤ 8 → (∀ i, i < k → lett (f i) = true) → (∀ i, i < m → lett (g i) = true) → pkn f k = pkn g m → k = m ∧ ∀ i, i < k → f i = g i
  | 0, 0, _, _, _, _, _ => ⟨rfl, fun i hi => absurd hi (Nat.not_lt_zero i)⟩
  | 0, m + 1, _, _, _, hg, e => absurd e.symm (pkn_ne hg)
  | k + 1, 0, _, _, hf, _, e => absurd e (pkn_ne hf)
  | k + 1, m + 1, hk, hm, hf, hg, e => by
    have e2 : (pkn f k <<< (8 : Int64)) ||| (f k).toInt64 = (pkn g m <<< (8 : Int64)) ||| (g m).toInt64 := e
    have hb : ∀ i, i < 64 → (if i < 8 then bt (f k) i else lb (pkn f k) (i - 8)) = (if i < 8 then bt (g m) i else lb (pkn g m) (i - 8)) := by
      intro i hi
      rw [← pk_bit _ (hf k (by omega)) hi, ← pk_bit _ (hg m (by omega)) hi, e2]
    have hl : f k = g m := by
      apply b_ext
      intro i hi
      by_cases c : i < 8
      · have := hb i (by omega)
        rw [if_pos c, if_pos c] at this
        exact this
      · rw [lett_b (hf k (by omega)) (by omega), lett_b (hg m (by omega)) (by omega)]
    have hh : pkn f k = pkn g m := by
      apply lb_ext
      intro i hi
      by_cases c : i < 56
      · have := hb (i + 8) (by omega)
        rw [if_neg (by omega), if_neg (by omega), Nat.add_sub_cancel] at this
        exact this
      · rw [pkn_hi k (fun j hj => hf j (by omega)) i (by omega) hi, pkn_hi m (fun j hj => hg j (by omega)) i (by omega) hi]
    obtain ⟨a1, a2⟩ := pkn_inj k m (by omega) (by omega) (fun i hi => hf i (by omega)) (fun i hi => hg i (by omega)) hh
    subst a1
    refine ⟨rfl, fun i hi => ?_⟩
    by_cases c : i = k
    · subst c
      exact hl
    · exact a2 i (by omega)
/-- whether the k bytes from b on are letters -/
def allL (tx : Nat → Nat → Int32) (b k : Nat) : Bool := alr (fun i => lett (tx 1 (b + i))) 0 k
theorem nameL_e {tx : Nat → Nat → Int32} {b k : Nat} (hb : b + k ≤ 900) (K : Int64 → Option Int64) (hK : ∀ x, K x = some x) : ∀ (m g i : Nat), i + m = k → m < g → qX6_nameAt_L27 tx (nI b) (nI k) K g (pkn (fun j => tx 1 (b + j)) i) (nI i) = some (if alr (fun i => lett (tx 1 (b + i))) i m = true then pkn (fun j => tx 1 (b + j)) k else 0)
  | 0, g, i, hi, hg => by
    obtain ⟨g, rfl⟩ : ∃ g', g = g' + 1 := ⟨g - 1, by omega⟩
    obtain rfl : i = k := by omega
    rw [qX6_nameAt_L27, if_pos (Int32.le_refl _), hK]
    rfl
  | m + 1, g, i, hi, hg => by
    obtain ⟨g, rfl⟩ : ∃ g', g = g' + 1 := ⟨g - 1, by omega⟩
    rw [qX6_nameAt_L27, if_neg (nle (by omega) (by omega)), nI_add, gdn (by omega) (by omega), cl (by omega), p1]
    show _ = some (if (lett (tx 1 (b + i)) && alr (fun i => lett (tx 1 (b + i))) (i + 1) m) = true then _ else 0)
    by_cases h : lett (tx 1 (b + i)) = true
    · have h' := h
      unfold lett at h'
      rw [Bool.and_eq_true, decide_eq_true_eq, decide_eq_true_eq] at h'
      rw [if_neg (Int32.not_lt.mpr h'.1), if_pos h'.2, show ((8 : Int32).toInt64 &&& 63) = (8 : Int64) from by decide, h, Bool.true_and]
      exact nameL_e hb K hK m g (i + 1) (by omega) (by omega)
    · rw [if_neg (show ¬ (lett (tx 1 (b + i)) && alr (fun i => lett (tx 1 (b + i))) (i + 1) m) = true from fun g => h (Bool.and_eq_true_iff.mp g).1)]
      by_cases c : tx 1 (b + i) < 97
      · rw [if_pos c]
      · rw [if_neg c, if_neg]
        intro c2
        apply h
        unfold lett
        rw [decide_eq_true (Int32.not_lt.mp c), decide_eq_true c2]
        rfl
theorem nameAt_e {tx : Nat → Nat → Int32} {L b k : Nat} (hL : tx 0 0 = nI L) (hb : b + k ≤ L) (h9 : L ≤ 900) : qX6_nameAt tx (nI b) (nI k) = some (if k ≤ 8 ∧ allL tx b k = true then pkn (fun j => tx 1 (b + j)) k else 0) := by
  unfold qX6_nameAt
  rw [if_neg (nI_pos (show b < 2 ^ 31 by omega))]
  by_cases h : k ≤ 8
  · rw [if_neg (show ¬ (8 : Int32) < nI k from Int32.not_lt.mpr (nI_le (b := 8) h (by omega))), nI_add, hL, if_pos (nI_le hb (by omega))]
    refine (nameL_e (b := b) (k := k) (by omega) _ (fun _ => rfl) k fu 0 (by omega) (by unfold fu; omega)).trans (congrArg some ?_)
    unfold allL
    by_cases c : alr (fun i => lett (tx 1 (b + i))) 0 k = true
    · rw [if_pos c, if_pos ⟨h, c⟩]
    · rw [if_neg c, if_neg (fun g => c g.2)]
  · rw [if_pos (show (8 : Int32) < nI k from Int32.not_le.mp (nle (b := 8) (by omega) (by omega))), if_neg (fun g => h g.1)]
