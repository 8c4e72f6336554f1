-- plain mathematics: numbers, bits (out of kit/laws: BITS, COUNTS), loops
def bt (x : Int32) (i : Nat) : Bool := x.toBitVec.getLsbD i
theorem b_ext {x y : Int32} (h : ∀ i, i < 32 → bt x i = bt y i) : x = y := Int32.toBitVec_inj.mp (BitVec.eq_of_getLsbD_eq (fun i hi => h i hi))
theorem b_or (x y : Int32) (i : Nat) : bt (x ||| y) i = (bt x i || bt y i) := by unfold bt; rw [Int32.toBitVec_or, BitVec.getLsbD_or]
theorem b_and (x y : Int32) (i : Nat) : bt (x &&& y) i = (bt x i && bt y i) := by unfold bt; rw [Int32.toBitVec_and, BitVec.getLsbD_and]
theorem b_xor (x y : Int32) (i : Nat) : bt (x ^^^ y) i = (bt x i ^^ bt y i) := by unfold bt; rw [Int32.toBitVec_xor, BitVec.getLsbD_xor]
theorem b_big {x : Int32} {i : Nat} (h : 32 ≤ i) : bt x i = false := BitVec.getLsbD_of_ge _ _ h
theorem b_255 (i : Nat) : bt 255 i = decide (i < 8) := by
  rcases Nat.lt_or_ge i 32 with h | h
  · exact (by decide +kernel : ∀ i, i < 32 → bt 255 i = decide (i < 8)) i h
  · rw [b_big h, decide_eq_false (by omega)]
theorem b_65535 (i : Nat) : bt 65535 i = decide (i < 16) := by
  rcases Nat.lt_or_ge i 32 with h | h
  · exact (by decide +kernel : ∀ i, i < 32 → bt 65535 i = decide (i < 16)) i h
  · rw [b_big h, decide_eq_false (by omega)]
theorem b_m1 : ∀ i, i < 32 → bt (-1) i = true := by decide +kernel
theorem b_0 (i : Nat) : bt 0 i = false := BitVec.getLsbD_zero
theorem s_l : ∀ n, n < 32 → ((nI n &&& 31).toBitVec.smod 32).toNat = n := by decide +kernel
theorem s_u : ∀ n, n < 32 → (((nI n).toUInt32 &&& Int32.toUInt32 31).toBitVec % 32).toNat = n := by decide +kernel
theorem b_shl (n : Nat) (hn : n < 32) (x : Int32) {i : Nat} (hi : i < 32) : bt (x <<< (nI n &&& 31)) i = (decide (n ≤ i) && bt x (i - n)) := by
  unfold bt
  rw [Int32.toBitVec_shiftLeft]
  show (x.toBitVec <<< ((nI n &&& 31).toBitVec.smod 32).toNat).getLsbD i = _
  rw [s_l n hn, BitVec.getLsbD_shiftLeft]
  rcases Nat.lt_or_ge i n with h | h
  · simp [h, Nat.not_le.mpr h]
  · simp [hi, h, Nat.not_lt.mpr h]
theorem b_ushr (n : Nat) (hn : n < 32) (x : Int32) (i : Nat) : bt ((x.toUInt32 >>> ((nI n).toUInt32 &&& Int32.toUInt32 31)).toInt32) i = bt x (n + i) := by
  show (x.toUInt32 >>> ((nI n).toUInt32 &&& Int32.toUInt32 31)).toBitVec.getLsbD i = x.toUInt32.toBitVec.getLsbD (n + i)
  rw [UInt32.toBitVec_shiftRight]
  show (x.toUInt32.toBitVec >>> (((nI n).toUInt32 &&& Int32.toUInt32 31).toBitVec % 32).toNat).getLsbD i = _
  rw [s_u n hn, BitVec.getLsbD_ushiftRight]
theorem b_sshr (n : Nat) (hn : n < 32) (x : Int32) {i : Nat} (hi : i < 32) : bt (x >>> (nI n &&& 31)) i = if n + i < 32 then bt x (n + i) else bt x 31 := by
  unfold bt
  rw [Int32.toBitVec_shiftRight]
  show (x.toBitVec.sshiftRight ((nI n &&& 31).toBitVec.smod 32).toNat).getLsbD i = _
  rw [s_l n hn, BitVec.getLsbD_sshiftRight, BitVec.msb_eq_getLsbD_last]
  simp [hi]
theorem fb_holes : ∀ (m n : Nat) (f : Nat → Nat), (∀ i, i < n → f i < m) → (∀ i j, i < j → j < n → f i ≠ f j) → n ≤ m := by
  intro m
  induction m with
  | zero =>
    intro n f h1 _
    rcases Nat.eq_zero_or_pos n with h | h
    · omega
    · exact absurd (h1 0 h) (Nat.not_lt_zero _)
  | succ m ih =>
    intro n f h1 h2
    by_cases hx : ∃ i, i < n ∧ f i = m
    · obtain ⟨a, ha, hfa⟩ := hx
      have hg := ih (n - 1) (fun i => if i < a then f i else f (i + 1)) (by
        intro i hi
        by_cases q : i < a
        · simp only [if_pos q]
          have b1 := h1 i (by omega)
          have b2 := h2 i a q ha
          omega
        · simp only [if_neg q]
          have b1 := h1 (i + 1) (by omega)
          have b2 := h2 a (i + 1) (by omega) (by omega)
          omega) (by
        intro i j hij hj
        by_cases q : i < a
        · by_cases r : j < a
          · simp only [if_pos q, if_pos r]
            exact h2 i j hij (by omega)
          · simp only [if_pos q, if_neg r]
            exact h2 i (j + 1) (by omega) (by omega)
        · have r : ¬ j < a := by omega
          simp only [if_neg q, if_neg r]
          exact h2 (i + 1) (j + 1) (by omega) (by omega))
      omega
    · have hg := ih n f (fun i hi => by
        have b1 := h1 i hi
        have b2 : f i ≠ m := fun e => hx ⟨i, hi, e⟩
        omega) h2
      omega
/-- two of them in one place -/

theorem nI_mul (a b : Nat) : nI a * nI b = nI (a * b) := (Int32.ofNat_mul a b).symm
theorem nI_31 : (31 : Int32) = nI 31 := rfl
/-- place of what the outlet o has at j in a row -/
def ix (o j : Nat) : Nat := 51 + 12 * o + j
theorem ix_lt {o j : Nat} (ho : o < 12) (hj : j < 12) : ix o j < 411 := by unfold ix; omega
theorem ix_inj {o j o2 j2 : Nat} (hj : j < 12) (hj2 : j2 < 12) (h : ix o j = ix o2 j2) : o = o2 ∧ j = j2 := by unfold ix at h; omega
theorem ix_ge (o j : Nat) : 51 ≤ ix o j := by unfold ix; omega
theorem ix_lt2 {o j : Nat} (ho : o < 12) (hj : j < 12) : ix o j < 195 := by unfold ix; omega
theorem gd12 {α : Type} {o n : Nat} (ho : o < n) (hn : n < 2147483648) (x : Option α) : gd (vp_in (nI o) n) x = x := gd_t (vp_in_nI ho hn)
theorem cN {o : Nat} (ho : o < 2147483648) : (nI o).toNatClampNeg = o := nI_clamp ho
theorem gdix {α : Type} {o j : Nat} (ho : o < 12) (hj : j < 12) (x : Option α) : gd (vp_in (nI (ix o j)) 411) x = x := gd_t (vp_in_nI (ix_lt ho hj) (by omega))
theorem cix {o j : Nat} (ho : o < 12) (hj : j < 12) : (nI (ix o j)).toNatClampNeg = ix o j := nI_clamp (by have := ix_lt ho hj; omega)
theorem at_n (o j : Nat) : qX11_at (nI o) (nI j) = some (nI (ix o j)) := by
  unfold qX11_at
  rw [show (51 : Int32) = nI 51 from rfl, show (12 : Int32) = nI 12 from rfl, nI_mul, nI_add, nI_add]
  rfl
theorem at0 (o : Nat) : qX11_at (nI o) 0 = some (nI (ix o 0)) := at_n o 0
theorem at1 (o : Nat) : qX11_at (nI o) 1 = some (nI (ix o 1)) := at_n o 1
theorem at2 (o : Nat) : qX11_at (nI o) 2 = some (nI (ix o 2)) := at_n o 2
theorem at3 (o : Nat) : qX11_at (nI o) 3 = some (nI (ix o 3)) := at_n o 3
theorem at4 (o : Nat) : qX11_at (nI o) 4 = some (nI (ix o 4)) := at_n o 4
theorem at5 (o : Nat) : qX11_at (nI o) 5 = some (nI (ix o 5)) := at_n o 5
theorem at6 (o : Nat) : qX11_at (nI o) 6 = some (nI (ix o 6)) := at_n o 6
theorem at7 (o : Nat) : qX11_at (nI o) 7 = some (nI (ix o 7)) := at_n o 7
theorem at8 (o : Nat) : qX11_at (nI o) 8 = some (nI (ix o 8)) := at_n o 8
theorem at9 (o : Nat) : qX11_at (nI o) 9 = some (nI (ix o 9)) := at_n o 9
theorem at10 (o : Nat) : qX11_at (nI o) 10 = some (nI (ix o 10)) := at_n o 10
theorem at11 (o : Nat) : qX11_at (nI o) 11 = some (nI (ix o 11)) := at_n o 11

theorem upd_s (f : Nat → Int32) (i : Nat) (x : Int32) : upd f i x i = x := by simp [upd]
theorem upd_n {f : Nat → Int32} {i j : Nat} {x : Int32} (h : j ≠ i) : upd f i x j = f j := by simp [upd, h]
theorem va_u {α : Type} (f : Nat → α) (i j : Nat) (x : α) : va_up f i x j = if j = i then x else f j := rfl
/-- turns from k on, m of them -/
def lfold {σ : Type} (f : Nat → σ → σ) : Nat → Nat → σ → σ
  | _, 0, s => s
  | k, m + 1, s => lfold f (k + 1) m (f k s)
theorem lfold_snoc {σ : Type} (f : Nat → σ → σ) : ∀ (m k : Nat) (s : σ), lfold f k (m + 1) s = f (k + m) (lfold f k m s)
  | 0, k, s => rfl
  | m + 1, k, s => by
    show lfold f (k + 1) (m + 1) (f k s) = _
    rw [lfold_snoc f m (k + 1) (f k s), show k + 1 + m = k + (m + 1) from by omega]
    rfl
theorem lfold_cong {σ : Type} {f g : Nat → σ → σ} : ∀ (m k : Nat) (s : σ), (∀ i s, k ≤ i → i < k + m → f i s = g i s) → lfold f k m s = lfold g k m s
  | 0, _, _, _ => rfl
  | m + 1, k, s, h => by
    show lfold f (k + 1) m (f k s) = lfold g (k + 1) m (g k s)
    rw [h k s (by omega) (by omega)]
    exact lfold_cong m (k + 1) _ (fun i s h1 h2 => h i s (by omega) (by omega))
theorem lfold_inv {σ : Type} {f : Nat → σ → σ} (P : Nat → σ → Prop) : ∀ (m k : Nat) (s : σ), P k s → (∀ i s, k ≤ i → i < k + m → P i s → P (i + 1) (f i s)) → P (k + m) (lfold f k m s)
  | 0, k, s, h, _ => h
  | m + 1, k, s, h, hs => by
    have := lfold_inv P m (k + 1) (f k s) (hs k s (by omega) (by omega) h) (fun i s h1 h2 => hs i s (by omega) (by omega))
    rw [show k + (m + 1) = k + 1 + m from by omega]
    exact this
/-- a loop that counts up to N, each turn a total step -/
theorem lp {σ ρ : Type} {L : Nat → Int32 → σ → Option ρ} {K : σ → Option ρ} {N : Nat} {f : Nat → σ → σ} (Inv : Nat → σ → Prop)
    (hs : ∀ n k s, k < N → Inv k s → L (n + 1) (nI k) s = L n (nI (k + 1)) (f k s) ∧ Inv (k + 1) (f k s)) (he : ∀ n s, Inv N s → L (n + 1) (nI N) s = K s) :
    ∀ (m n k : Nat) (s : σ), k + m = N → m < n → Inv k s → L n (nI k) s = K (lfold f k m s)
  | 0, n, k, s, hk, hn, hi => by
    obtain ⟨n, rfl⟩ : ∃ n', n = n' + 1 := ⟨n - 1, by omega⟩
    have : k = N := by omega
    subst this
    exact he n s hi
  | m + 1, n, k, s, hk, hn, hi => by
    obtain ⟨n, rfl⟩ : ∃ n', n = n' + 1 := ⟨n - 1, by omega⟩
    obtain ⟨e, hi2⟩ := hs n k s (by omega) hi
    rw [e]
    exact lp Inv hs he m n (k + 1) (f k s) (by omega) (by omega) hi2
/-- two loops in step -/
theorem lpp {σ τ ρ π : Type} {L1 : Nat → Int32 → σ → Option ρ} {L2 : Nat → Int32 → τ → Option π} {K1 : σ → Option ρ} {K2 : τ → Option π} {N : Nat} (Rel : Nat → σ → τ → Prop)
    (hs : ∀ k s t, k < N → Rel k s t → ∃ s' t', (∀ n, L1 (n + 1) (nI k) s = L1 n (nI (k + 1)) s') ∧ (∀ n, L2 (n + 1) (nI k) t = L2 n (nI (k + 1)) t') ∧ Rel (k + 1) s' t')
    (he : ∀ n s t, Rel N s t → L1 (n + 1) (nI N) s = K1 s ∧ L2 (n + 1) (nI N) t = K2 t) :
    ∀ (m n n2 k : Nat) (s : σ) (t : τ), k + m = N → m < n → m < n2 → Rel k s t → ∃ s' t', L1 n (nI k) s = K1 s' ∧ L2 n2 (nI k) t = K2 t' ∧ Rel N s' t'
  | 0, n, n2, k, s, t, hk, hn, hn2, hr => by
    obtain ⟨n, rfl⟩ : ∃ n', n = n' + 1 := ⟨n - 1, by omega⟩
    obtain ⟨n2, rfl⟩ : ∃ n', n2 = n' + 1 := ⟨n2 - 1, by omega⟩
    have : k = N := by omega
    subst this
    exact ⟨s, t, (he n s t hr).1, (he n2 s t hr).2, hr⟩
  | m + 1, n, n2, k, s, t, hk, hn, hn2, hr => by
    obtain ⟨n, rfl⟩ : ∃ n', n = n' + 1 := ⟨n - 1, by omega⟩
    obtain ⟨n2, rfl⟩ : ∃ n', n2 = n' + 1 := ⟨n2 - 1, by omega⟩
    obtain ⟨s', t', h1, h2, hr'⟩ := hs k s t (by omega) hr
    obtain ⟨s'', t'', g1, g2, g3⟩ := lpp Rel hs he m n n2 (k + 1) s' t' (by omega) (by omega) (by omega) hr'
    exact ⟨s'', t'', (h1 n).trans g1, (h2 n2).trans g2, g3⟩
theorem bs_e {α β : Type} (x : α) (f : α → β) : bs x f = f x := rfl
theorem jn_e {α β : Type} (f : α) (g : α → β) : jn f g = g f := rfl
theorem fu_lt {m : Nat} (h : m < 4000) : m < fu := h
theorem nI_le' {a b : Nat} (ha : a < 2147483648) (hb : b < 2147483648) : (nI a ≤ nI b) ↔ a ≤ b := nI_leI ha hb
theorem nI_lt' {a b : Nat} (ha : a < 2147483648) (hb : b < 2147483648) : (nI a < nI b) ↔ a < b := nI_ltI ha hb
theorem nI_inj {a b : Nat} (ha : a < 2147483648) (hb : b < 2147483648) (h : nI a = nI b) : a = b := (nI_eq ha hb).mp h
/-- the set of those of n outlets for which P holds -/
def bset (n : Nat) (P : Nat → Bool) : Int32 := lfold (fun k s => if P k = true then s ||| (1 <<< (nI k &&& 31)) else s) 0 n 0
theorem bset_cong {n : Nat} {P Q : Nat → Bool} (h : ∀ k, k < n → P k = Q k) : bset n P = bset n Q := lfold_cong n 0 0 (fun i s _ h2 => by show (if P i = true then _ else _) = (if Q i = true then _ else _); rw [h i (by omega)])
theorem b_one (k : Nat) (hk : k < 32) {i : Nat} (hi : i < 32) : bt ((1 : Int32) <<< (nI k &&& 31)) i = decide (i = k) := by
  rw [b_shl k hk 1 hi]
  have h1 : ∀ j, j < 32 → bt 1 j = decide (j = 0) := by decide +kernel
  by_cases h : k ≤ i
  · rw [h1 _ (by omega), decide_eq_true h, Bool.true_and]
    congr 1
    rw [eq_iff_iff]
    omega
  · rw [decide_eq_false h, Bool.false_and, decide_eq_false (by omega)]
theorem bset_bt {n : Nat} (hn : n ≤ 12) (P : Nat → Bool) {i : Nat} (hi : i < 32) : bt (bset n P) i = (decide (i < n) && P i) := by
  have key := lfold_inv (f := fun k s => if P k = true then s ||| ((1 : Int32) <<< (nI k &&& 31)) else s) (fun m s => m ≤ n → ∀ i, i < 32 → bt s i = (decide (i < m) && P i)) n 0 0 (fun _ i _ => by rw [b_0]; simp)
    (fun m s _ hm h hm1 i hi => by
      have h2 := h (by omega) i hi
      by_cases hp : P m = true
      · simp only [hp, if_true]
        rw [b_or, h2, b_one m (by omega) hi]
        by_cases e : i = m
        · subst e; simp [hp]
        · have : decide (i < m + 1) = decide (i < m) := by congr 1; rw [eq_iff_iff]; omega
          rw [this]; simp [e]
      · simp only [hp]
        rw [if_neg (by simp), h2]
        by_cases e : i = m
        · subst e; simp [hp]
        · have : decide (i < m + 1) = decide (i < m) := by congr 1; rw [eq_iff_iff]; omega
          rw [this])
  rw [Nat.zero_add] at key
  exact key (Nat.le_refl _) i hi
/-- a bit as 0 or 1 -/
def b01 (x : Int32) (k : Nat) : Int32 := if bt x k = true then 1 else 0
theorem and1 (x : Int32) : (x &&& 1) = if bt x 0 = true then 1 else 0 := by
  apply b_ext
  intro i hi
  rw [b_and]
  have h1 : ∀ j, j < 32 → bt 1 j = decide (j = 0) := by decide +kernel
  rw [h1 i hi]
  by_cases h : bt x 0 = true
  · rw [if_pos h, h1 i hi]
    by_cases e : i = 0
    · subst e; simp [h]
    · simp [e]
  · rw [if_neg h, b_0]
    by_cases e : i = 0
    · subst e; simpa using h
    · simp [e]
theorem shr1 (x : Int32) {k : Nat} (hk : k < 32) : ((x >>> (nI k &&& 31)) &&& 1) = b01 x k := by
  have h := b_sshr k hk x (i := 0) (by omega)
  rw [if_pos (show k + 0 < 32 by omega), Nat.add_zero] at h
  rw [and1, h]
  rfl
theorem b01_0 {x : Int32} {k : Nat} : b01 x k = 0 ↔ bt x k = false := by
  unfold b01
  cases h : bt x k <;> simp
theorem b01_1 {x : Int32} {k : Nat} : b01 x k = 1 ↔ bt x k = true := by
  unfold b01
  cases h : bt x k <;> simp
theorem isIn_e (x : Int32) {k : Nat} (hk : k < 32) : qX10_isIn x (nI k) = some (b01 x k) := by
  unfold qX10_isIn
  rw [shr1 x hk]
  unfold b01
  cases h : bt x k <;> simp
theorem b_set (x : Int32) {k : Nat} (hk : k < 32) {i : Nat} (hi : i < 32) : bt (x ||| (1 <<< (nI k &&& 31))) i = (bt x i || decide (i = k)) := by rw [b_or, b_one k hk hi]
theorem b_clr (x : Int32) {k : Nat} (hk : k < 32) {i : Nat} (hi : i < 32) : bt (x &&& ((1 <<< (nI k &&& 31)) ^^^ (-1))) i = (bt x i && !decide (i = k)) := by
  rw [b_and, b_xor, b_one k hk hi, b_m1 i hi]
  simp
theorem b01_set (x : Int32) {k i : Nat} (hk : k < 32) (hi : i < 32) : b01 (x ||| (1 <<< (nI k &&& 31))) i = if i = k then 1 else b01 x i := by
  unfold b01
  rw [b_set x hk hi]
  by_cases e : i = k <;> simp [e]
theorem b01_clr (x : Int32) {k i : Nat} (hk : k < 32) (hi : i < 32) : b01 (x &&& ((1 <<< (nI k &&& 31)) ^^^ (-1))) i = if i = k then 0 else b01 x i := by
  unfold b01
  rw [b_clr x hk hi]
  by_cases e : i = k <;> simp [e]
theorem and_zero {x y : Int32} : x &&& y = 0 ↔ ∀ i, i < 32 → ¬ (bt x i = true ∧ bt y i = true) := by
  constructor
  · intro h i hi hb
    have := b_and x y i
    rw [h, b_0, hb.1, hb.2] at this
    cases this
  · intro h
    apply b_ext
    intro i hi
    rw [b_and, b_0]
    cases hx : bt x i
    · rfl
    · cases hy : bt y i
      · rfl
      · exact absurd ⟨hx, hy⟩ (h i hi)
