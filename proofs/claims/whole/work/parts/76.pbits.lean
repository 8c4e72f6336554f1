-- how many are in a set
def pcn : Nat → Nat → Nat
  | 0, _ => 0
  | k + 1, a => a % 2 + pcn k (a / 2)
theorem bitc_d : ∀ b, b < 64 → ∀ c, c < 64 → qJ6_bitCount_0f7a4 (nI (64 * b + c)) = some (nI (pcn 12 (64 * b + c))) := by
  unfold qJ6_bitCount_0f7a4
  decide +kernel
theorem bitc_c {a : Nat} (h : a < 4096) : qJ6_bitCount_0f7a4 (nI a) = some (nI (pcn 12 a)) := by
  have := bitc_d (a / 64) (by omega) (a % 64) (by omega)
  rwa [show 64 * (a / 64) + a % 64 = a by omega] at this
/-- a set of outlets as a number -/
theorem set_n (x : Int32) (h : ∀ i, 12 ≤ i → i < 32 → bt x i = false) : ∃ a, a < 4096 ∧ x = nI a := by
  have h1 : x &&& 4095 = nI (x.toBitVec.toNat % 2 ^ 12) := pk_and x 12 (by decide)
  have h2 : x &&& 4095 = x := by
    apply b_ext
    intro i hi
    have h3 : ∀ i, i < 32 → bt 4095 i = decide (i < 12) := by decide +kernel
    rw [b_and, h3 i hi]
    by_cases e : i < 12
    · rw [decide_eq_true e, Bool.and_true]
    · rw [decide_eq_false e, Bool.and_false, h i (by omega) hi]
  rw [h2] at h1
  exact ⟨_, Nat.mod_lt _ (by decide), h1⟩
theorem pcn_b : ∀ b, b < 64 → ∀ c, c < 64 → lfold (fun k x => x + b01 (nI (64 * b + c)) k) 0 12 0 = nI (pcn 12 (64 * b + c)) := by
  decide +kernel
/-- the count of a set of outlets is the sum of its bits -/
theorem bitc_e (x : Int32) (h : ∀ i, 12 ≤ i → i < 32 → bt x i = false) : qJ6_bitCount_0f7a4 x = some (lfold (fun k y => y + b01 x k) 0 12 0) := by
  obtain ⟨a, ha, e⟩ := set_n x h
  have := pcn_b (a / 64) (by omega) (a % 64) (by omega)
  rw [show 64 * (a / 64) + a % 64 = a by omega] at this
  rw [e, bitc_c ha, this]
