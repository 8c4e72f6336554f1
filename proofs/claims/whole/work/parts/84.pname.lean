-- letters, bytes, names; the first for which it holds
theorem sby {c : Int32} (h : -128 ≤ c.toInt ∧ c.toInt < 128) : ∃ m, m < 256 ∧ c = nI m - 128 := by
  refine ⟨(c.toInt + 128).toNat, by omega, ?_⟩
  apply Int32.toInt_inj.mp
  have h1 : (128 : Int32).toInt = 128 := rfl
  rw [Int32.toInt_sub, nI_toInt (by omega), h1, Int.bmod_eq_of_le (by omega) (by omega)]
  omega
def lett (c : Int32) : Bool := decide (97 ≤ c) && decide (c ≤ 122)
def digi (c : Int32) : Bool := decide (48 ≤ c) && decide (c ≤ 57)
/-- the kind of what a byte may begin -/
def kdc (c : Int32) : Int32 := if lett c = true then 1 else if digi c = true then 2 else if c = 10 ∨ c = 32 then 4 else if c = 59 then 3 else 5
theorem sb_all : ∀ m, m < 256 → ((kdc (nI m - 128) = 1 ↔ lett ((nI m - 128) &&& 255) = true) ∧ (kdc (nI m - 128) = 2 ↔ digi ((nI m - 128) &&& 255) = true) ∧ (kdc (nI m - 128) = 4 ↔ ((nI m - 128) &&& 255 = 10 ∨ (nI m - 128) &&& 255 = 32)) ∧ (kdc (nI m - 128) = 3 ↔ (nI m - 128) &&& 255 = 59) ∧ ¬ (nI m - 128) &&& 255 = -1 ∧ (kdc (nI m - 128) = 1 ∨ kdc (nI m - 128) = 2 → (nI m - 128) &&& 255 = nI m - 128)) ∧ (kdc (nI m - 128) = 1 ∨ kdc (nI m - 128) = 2 ∨ kdc (nI m - 128) = 3 ∨ kdc (nI m - 128) = 4 ∨ kdc (nI m - 128) = 5) := by decide +kernel
theorem lett_i {c : Int32} : lett c = true ↔ 97 ≤ c.toInt ∧ c.toInt ≤ 122 := by
  unfold lett
  rw [Bool.and_eq_true, decide_eq_true_eq, decide_eq_true_eq, Int32.le_iff_toInt_le, Int32.le_iff_toInt_le]
  exact Iff.rfl
theorem lett_0 {c : Int32} (h : lett c = true) : c ≠ 0 := by
  intro e
  subst e
  exact absurd h (by decide)
theorem kdc_1 {c : Int32} : kdc c = 1 ↔ lett c = true := by
  unfold kdc
  by_cases h : lett c = true
  · rw [if_pos h]
    exact ⟨fun _ => h, fun _ => rfl⟩
  · rw [if_neg h]
    refine ⟨fun e => ?_, fun e => absurd e h⟩
    split at e
    · exact absurd e (by decide)
    · split at e
      · exact absurd e (by decide)
      · split at e
        · exact absurd e (by decide)
        · exact absurd e (by decide)
/-- the first of m from k on for which P holds -/
def frs (P : Nat → Bool) : Nat → Nat → Int32
  | _, 0 => -1
  | k, m + 1 => if P k = true then nI k else frs P (k + 1) m
theorem frs_cong {P Q : Nat → Bool} : ∀ (m k : Nat), (∀ i, k ≤ i → i < k + m → P i = Q i) → frs P k m = frs Q k m
  | 0, _, _ => rfl
  | m + 1, k, h => by
    show (if P k = true then nI k else frs P (k + 1) m) = (if Q k = true then nI k else frs Q (k + 1) m)
    rw [h k (by omega) (by omega), frs_cong m (k + 1) (fun i h1 h2 => h i (by omega) (by omega))]
theorem frs_no {P : Nat → Bool} : ∀ (m k : Nat), (∀ i, k ≤ i → i < k + m → P i = false) → frs P k m = -1
  | 0, _, _ => rfl
  | m + 1, k, h => by
    show (if P k = true then nI k else frs P (k + 1) m) = -1
    rw [h k (by omega) (by omega), if_neg (by decide)]
    exact frs_no m (k + 1) (fun i h1 h2 => h i (by omega) (by omega))
theorem frs_c {P : Nat → Bool} : ∀ (m k : Nat), frs P k m = -1 ∨ ∃ i, k ≤ i ∧ i < k + m ∧ frs P k m = nI i ∧ P i = true
  | 0, _ => Or.inl rfl
  | m + 1, k => by
    by_cases h : P k = true
    · exact Or.inr ⟨k, by omega, by omega, if_pos h, h⟩
    · have e : frs P k (m + 1) = frs P (k + 1) m := if_neg h
      rw [e]
      rcases frs_c (P := P) m (k + 1) with g | ⟨i, h1, h2, h3, h4⟩
      · exact Or.inl g
      · exact Or.inr ⟨i, by omega, by omega, h3, h4⟩
theorem nIm1 {a : Nat} (h : a < 2147483648) : ¬ nI a = -1 := by
  intro e
  have h1 := congrArg Int32.toInt e
  rw [nI_toInt h] at h1
  have h2 : (-1 : Int32).toInt = -1 := rfl
  omega
theorem lg_eq {x y : Int64} : lg_cmp x y = 0 ↔ x = y := by
  constructor
  · intro h
    have h1 : ¬ x < y := fun g => absurd (lg_lt.mpr g) (by rw [h]; decide)
    have h2 : ¬ y < x := fun g => absurd (lg_gt.mpr g) (by rw [h]; decide)
    have h3 := Int64.le_iff_toInt_le.mp (Int64.not_lt.mp h2)
    have h4 := Int64.le_iff_toInt_le.mp (Int64.not_lt.mp h1)
    exact Int64.toInt_inj.mp (by omega)
  · intro h
    subst h
    unfold lg_cmp
    rw [if_neg (show ¬ x > x from Int64.lt_irrefl), if_pos rfl]
theorem numbL_e {v : Nat → Nat → Int32} {nm : Nat → Int64} {n : Nat} (x : Int64) (hv : v 0 0 = nI n) (hn : n ≤ 12) (K : Unit → Option Int32) (hK : K () = some (-1)) : ∀ (m g k : Nat), k + m = n → m < g → qX5_numberOf_L2 v nm x K g (nI k) = some (frs (fun o => decide (nm o = x)) k m)
  | 0, g, k, hk, hg => by
    obtain ⟨g, rfl⟩ : ∃ g', g = g' + 1 := ⟨g - 1, by omega⟩
    rw [qX5_numberOf_L2, hv, if_pos (nI_le (by omega) (by omega)), hK]
    rfl
  | m + 1, g, k, hk, hg => by
    obtain ⟨g, rfl⟩ : ∃ g', g = g' + 1 := ⟨g - 1, by omega⟩
    rw [qX5_numberOf_L2, hv, if_neg (nle (by omega) (by omega)), gdn (by omega) (by omega), cl (by omega), p1]
    show _ = some (if decide (nm k = x) = true then nI k else frs (fun o => decide (nm o = x)) (k + 1) m)
    by_cases e : nm k = x
    · rw [if_pos (lg_eq.mpr e), if_pos (decide_eq_true e)]
    · rw [if_neg (show ¬ lg_cmp (nm k) x = 0 from fun h => e (lg_eq.mp h)), if_neg (by rw [decide_eq_false e]; decide)]
      exact numbL_e x hv hn K hK m g (k + 1) (by omega) (by omega)
theorem numb_e {v : Nat → Nat → Int32} {nm : Nat → Int64} {n : Nat} (x : Int64) (hv : v 0 0 = nI n) (hn : n ≤ 12) : qX5_numberOf v nm x = some (frs (fun o => decide (nm o = x)) 0 n) := by
  unfold qX5_numberOf
  exact numbL_e x hv hn _ rfl n fu 0 (by omega) (by unfold fu; omega)
theorem m8 (o : Nat) : (8 : Int32) * nI o = nI (8 * o) := nI_mul 8 o
def alr (P : Nat → Bool) : Nat → Nat → Bool
  | _, 0 => true
  | k, m + 1 => P k && alr P (k + 1) m
theorem alr_i {P : Nat → Bool} : ∀ (m k : Nat), alr P k m = true ↔ ∀ i, k ≤ i → i < k + m → P i = true
  | 0, k => ⟨fun _ i h1 h2 => absurd h2 (by omega), fun _ => rfl⟩
  | m + 1, k => by
    show (P k && alr P (k + 1) m) = true ↔ _
    rw [Bool.and_eq_true, alr_i m (k + 1)]
    constructor
    · intro h i h1 h2
      by_cases e : i = k
      · subst e
        exact h.1
      · exact h.2 i (by omega) (by omega)
    · intro h
      exact ⟨h k (by omega) (by omega), fun i h1 h2 => h i (by omega) (by omega)⟩
theorem alr_0 {P : Nat → Bool} (m : Nat) : alr P 0 m = true ↔ ∀ i, i < m → P i = true := by
  rw [alr_i]
  exact ⟨fun h i hi => h i (by omega) (by omega), fun h i _ hi => h i (by omega)⟩
def whv (f2 : Nat → Int32) (b e i : Nat) : Int32 := if b + i < e then f2 (b + i) else 0
def whb (f f2 : Nat → Int32) (b e o i : Nat) : Bool := decide (f (8 * o + i) = whv f2 b e i)
def whs (f f2 : Nat → Int32) (b e o i : Nat) (y : Int32) : Int32 := if y = 0 then 0 else if f (8 * o + i) = whv f2 b e i then 1 else 0
theorem whs_e (f f2 : Nat → Int32) (b e o : Nat) : lfold (whs f f2 b e o) 0 8 1 = if alr (whb f f2 b e o) 0 8 = true then 1 else 0 := by
  have inv := lfold_inv (f := whs f f2 b e o) (fun m s => s = if alr (whb f f2 b e o) 0 m = true then 1 else 0) 8 0 1 rfl (by
    intro m s _ _ hs
    unfold whs
    by_cases h : alr (whb f f2 b e o) 0 m = true
    · rw [if_pos h] at hs
      rw [hs, if_neg (show ¬ (1 : Int32) = 0 by decide)]
      by_cases h2 : f (8 * o + m) = whv f2 b e m
      · rw [if_pos h2, if_pos]
        rw [alr_0] at h ⊢
        intro i hi
        by_cases e1 : i = m
        · subst e1
          exact decide_eq_true h2
        · exact h i (by omega)
      · rw [if_neg h2, if_neg (fun g => h2 (of_decide_eq_true ((alr_0 _).mp g m (by omega))))]
    · rw [if_neg h] at hs
      rw [hs, if_pos rfl, if_neg (fun g => h ((alr_0 _).mpr (fun i hi => (alr_0 _).mp g i (by omega))))])
  exact inv
theorem whL_e {f f2 : Nat → Int32} {n b e o : Nat} (ho : o < 12) (hb : b < 2000) (he : e ≤ 900) (K : Int32 → Option Int32) : qX11_whichOf_L15 96 900 f f2 (nI n) (nI b) (nI e) (nI o) K fu 1 0 = K (lfold (whs f f2 b e o) 0 8 1) := by
  refine lp (L := fun g i s => qX11_whichOf_L15 96 900 f f2 (nI n) (nI b) (nI e) (nI o) K g s i) (N := 8) (K := K) (fun _ _ => True) ?_ ?_ 8 fu 0 1 (by omega) (by unfold fu; omega) trivial
  · intro g k s hk _
    refine ⟨?_, trivial⟩
    show qX11_whichOf_L15 96 900 f f2 (nI n) (nI b) (nI e) (nI o) K (g + 1) s (nI k) = qX11_whichOf_L15 96 900 f f2 (nI n) (nI b) (nI e) (nI o) K g _ (nI (k + 1))
    rw [qX11_whichOf_L15, if_neg (show ¬ (8 : Int32) ≤ nI k from nle (a := 8) (by omega) (by omega))]
    simp only [jn_e]
    rw [p1, m8, nI_add, nI_add]
    unfold whs whv
    by_cases h : s = 0
    · rw [if_pos h, if_pos h]
    · rw [if_neg h, if_neg h, gdn (i := 8 * o + k) (by omega) (by omega), cl (i := 8 * o + k) (by omega)]
      by_cases h2 : b + k < e
      · rw [if_pos h2, if_neg (nle h2 (by omega)), gdn (i := b + k) (by omega) (by omega), cl (i := b + k) (by omega)]
        by_cases h3 : f (8 * o + k) = f2 (b + k)
        · rw [if_pos h3, if_pos h3]
        · rw [if_neg h3, if_neg h3]
      · rw [if_neg h2, if_pos (nI_le (by omega) (by omega))]
        by_cases h3 : f (8 * o + k) = 0
        · rw [if_pos h3, if_pos h3]
        · rw [if_neg h3, if_neg h3]
  · intro g s _
    show qX11_whichOf_L15 96 900 f f2 (nI n) (nI b) (nI e) (nI o) K (g + 1) s (nI 8) = _
    rw [qX11_whichOf_L15, if_pos (show (8 : Int32) ≤ nI 8 from Int32.le_refl _)]
def whP (f f2 : Nat → Int32) (b e o : Nat) : Bool := alr (whb f f2 b e o) 0 8
theorem whO_e {f f2 : Nat → Int32} {n b e : Nat} (hn : n ≤ 12) (hb : b < 2000) (he : e ≤ 900) (K : Unit → Option Int32) (hK : K () = some (-1)) : ∀ (m g k : Nat), k + m = n → m < g → qX11_whichOf_L3 96 900 f f2 (nI n) (nI b) (nI e) K g (nI k) = some (frs (whP f f2 b e) k m)
  | 0, g, k, hk, hg => by
    obtain ⟨g, rfl⟩ : ∃ g', g = g' + 1 := ⟨g - 1, by omega⟩
    rw [qX11_whichOf_L3, if_pos (nI_le (by omega) (by omega)), hK]
    rfl
  | m + 1, g, k, hk, hg => by
    obtain ⟨g, rfl⟩ : ∃ g', g = g' + 1 := ⟨g - 1, by omega⟩
    rw [qX11_whichOf_L3, if_neg (nle (by omega) (by omega)), whL_e (by omega) hb he, whs_e, p1]
    show _ = some (if whP f f2 b e k = true then nI k else frs (whP f f2 b e) (k + 1) m)
    unfold whP
    by_cases h : alr (whb f f2 b e k) 0 8 = true
    · rw [if_pos h, if_neg (show ¬ (1 : Int32) = 0 by decide), if_pos h]
    · rw [if_neg h, if_pos rfl, if_neg h]
      exact whO_e hn hb he K hK m g (k + 1) (by omega) (by omega)
theorem which_e {f f2 : Nat → Int32} {n b e : Nat} (hn : n ≤ 12) (hb : b < 2000) (he : e ≤ 900) : qX11_whichOf 96 900 f f2 (nI n) (nI b) (nI e) = some (frs (whP f f2 b e) 0 n) := by
  unfold qX11_whichOf
  exact whO_e hn hb he _ rfl n fu 0 (by omega) (by unfold fu; omega)
