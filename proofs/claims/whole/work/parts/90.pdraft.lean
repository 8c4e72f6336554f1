-- the draft; the rules in step
def pop (x : Int32) : Int32 := sumf 12 (b01 x)
def D1 (n : Nat) (nm : Nat → Int64) (a6 : Nat → Int32) (a15 : Nat → Int32) (a16 : Nat → Int32) (a17 : Nat → Int32) (a18 : Nat → Int32) (a20 : Nat → Int32) (y18 : Nat → Int32) (y19 : Nat → Int32) (y22 : Nat → Int32) (y30 : Nat → Int32) (y31 : Nat → Int32) : Prop :=
  (n ≤ 12) ∧
  (a6 0 = nI n) ∧
  (y30 0 = nI n) ∧
  (∀ o, o < n → y18 (4 * o) = a15 o ∧ y18 (4 * o + 1) = a16 o ∧ y18 (4 * o + 2) = a17 o ∧ y18 (4 * o + 3) = a18 o) ∧
  (∀ o, o < n → (∃ k, k < 2000 ∧ a15 o = nI k) ∧ (∃ k, k < 2000 ∧ a16 o = nI k) ∧ ∃ k, k < 2000 ∧ a17 o = nI k) ∧
  (∀ o, o < n → y19 o = a20 o) ∧
  (∀ o, o < n → ∀ i, 12 ≤ i → i < 32 → bt (a20 o) i = false) ∧
  (∃ k, k ≤ 16 ∧ y31 0 = nI k ∧ sumf n (fun o => pop (a20 o)) = nI k) ∧
  (NmF n nm y22)
theorem D1.n12 {n : Nat} {nm : Nat → Int64} {a6 : Nat → Int32} {a15 : Nat → Int32} {a16 : Nat → Int32} {a17 : Nat → Int32} {a18 : Nat → Int32} {a20 : Nat → Int32} {y18 : Nat → Int32} {y19 : Nat → Int32} {y22 : Nat → Int32} {y30 : Nat → Int32} {y31 : Nat → Int32} (h : D1 n nm a6 a15 a16 a17 a18 a20 y18 y19 y22 y30 y31) : n ≤ 12 := h.1
theorem D1.p6 {n : Nat} {nm : Nat → Int64} {a6 : Nat → Int32} {a15 : Nat → Int32} {a16 : Nat → Int32} {a17 : Nat → Int32} {a18 : Nat → Int32} {a20 : Nat → Int32} {y18 : Nat → Int32} {y19 : Nat → Int32} {y22 : Nat → Int32} {y30 : Nat → Int32} {y31 : Nat → Int32} (h : D1 n nm a6 a15 a16 a17 a18 a20 y18 y19 y22 y30 y31) : a6 0 = nI n := h.2.1
theorem D1.z30 {n : Nat} {nm : Nat → Int64} {a6 : Nat → Int32} {a15 : Nat → Int32} {a16 : Nat → Int32} {a17 : Nat → Int32} {a18 : Nat → Int32} {a20 : Nat → Int32} {y18 : Nat → Int32} {y19 : Nat → Int32} {y22 : Nat → Int32} {y30 : Nat → Int32} {y31 : Nat → Int32} (h : D1 n nm a6 a15 a16 a17 a18 a20 y18 y19 y22 y30 y31) : y30 0 = nI n := h.2.2.1
theorem D1.four {n : Nat} {nm : Nat → Int64} {a6 : Nat → Int32} {a15 : Nat → Int32} {a16 : Nat → Int32} {a17 : Nat → Int32} {a18 : Nat → Int32} {a20 : Nat → Int32} {y18 : Nat → Int32} {y19 : Nat → Int32} {y22 : Nat → Int32} {y30 : Nat → Int32} {y31 : Nat → Int32} (h : D1 n nm a6 a15 a16 a17 a18 a20 y18 y19 y22 y30 y31) : ∀ o, o < n → y18 (4 * o) = a15 o ∧ y18 (4 * o + 1) = a16 o ∧ y18 (4 * o + 2) = a17 o ∧ y18 (4 * o + 3) = a18 o := h.2.2.2.1
theorem D1.rng {n : Nat} {nm : Nat → Int64} {a6 : Nat → Int32} {a15 : Nat → Int32} {a16 : Nat → Int32} {a17 : Nat → Int32} {a18 : Nat → Int32} {a20 : Nat → Int32} {y18 : Nat → Int32} {y19 : Nat → Int32} {y22 : Nat → Int32} {y30 : Nat → Int32} {y31 : Nat → Int32} (h : D1 n nm a6 a15 a16 a17 a18 a20 y18 y19 y22 y30 y31) : ∀ o, o < n → (∃ k, k < 2000 ∧ a15 o = nI k) ∧ (∃ k, k < 2000 ∧ a16 o = nI k) ∧ ∃ k, k < 2000 ∧ a17 o = nI k := h.2.2.2.2.1
theorem D1.need {n : Nat} {nm : Nat → Int64} {a6 : Nat → Int32} {a15 : Nat → Int32} {a16 : Nat → Int32} {a17 : Nat → Int32} {a18 : Nat → Int32} {a20 : Nat → Int32} {y18 : Nat → Int32} {y19 : Nat → Int32} {y22 : Nat → Int32} {y30 : Nat → Int32} {y31 : Nat → Int32} (h : D1 n nm a6 a15 a16 a17 a18 a20 y18 y19 y22 y30 y31) : ∀ o, o < n → y19 o = a20 o := h.2.2.2.2.2.1
theorem D1.neb {n : Nat} {nm : Nat → Int64} {a6 : Nat → Int32} {a15 : Nat → Int32} {a16 : Nat → Int32} {a17 : Nat → Int32} {a18 : Nat → Int32} {a20 : Nat → Int32} {y18 : Nat → Int32} {y19 : Nat → Int32} {y22 : Nat → Int32} {y30 : Nat → Int32} {y31 : Nat → Int32} (h : D1 n nm a6 a15 a16 a17 a18 a20 y18 y19 y22 y30 y31) : ∀ o, o < n → ∀ i, 12 ≤ i → i < 32 → bt (a20 o) i = false := h.2.2.2.2.2.2.1
theorem D1.many {n : Nat} {nm : Nat → Int64} {a6 : Nat → Int32} {a15 : Nat → Int32} {a16 : Nat → Int32} {a17 : Nat → Int32} {a18 : Nat → Int32} {a20 : Nat → Int32} {y18 : Nat → Int32} {y19 : Nat → Int32} {y22 : Nat → Int32} {y30 : Nat → Int32} {y31 : Nat → Int32} (h : D1 n nm a6 a15 a16 a17 a18 a20 y18 y19 y22 y30 y31) : ∃ k, k ≤ 16 ∧ y31 0 = nI k ∧ sumf n (fun o => pop (a20 o)) = nI k := h.2.2.2.2.2.2.2.1
theorem D1.name {n : Nat} {nm : Nat → Int64} {a6 : Nat → Int32} {a15 : Nat → Int32} {a16 : Nat → Int32} {a17 : Nat → Int32} {a18 : Nat → Int32} {a20 : Nat → Int32} {y18 : Nat → Int32} {y19 : Nat → Int32} {y22 : Nat → Int32} {y30 : Nat → Int32} {y31 : Nat → Int32} (h : D1 n nm a6 a15 a16 a17 a18 a20 y18 y19 y22 y30 y31) : NmF n nm y22 := h.2.2.2.2.2.2.2.2
def D2 (n : Nat) (a7 : Nat → Int32) (a8 : Nat → Int32) (a9 : Nat → Int32) (a10 : Nat → Int32) (a11 : Nat → Int32) (a19 : Nat → Int32) (y : Nat → Int32) : Prop :=
  (∀ o, o < n → y (51 + 12 * o) = a19 o) ∧
  (∀ o, o < n → y (51 + 12 * o + 1) = if bt (a7 0) o = true then 0 else 1) ∧
  (∀ i, n ≤ i → i < 32 → bt (a7 0) i = false) ∧
  (y 6 = a8 0) ∧
  (y 7 = a9 0) ∧
  (y 8 = a10 0) ∧
  (y 9 = a11 0) ∧
  (∃ f, 1 ≤ f ∧ f ≤ 9999 ∧ a8 0 = nI f) ∧
  (a11 0 = 0 ∨ a11 0 = 1) ∧
  (∀ i, i < 411 → (i < 6 ∨ 9 < i) → (∀ o, o < n → i ≠ 51 + 12 * o ∧ i ≠ 51 + 12 * o + 1) → y i = 0)
theorem D2.prio {n : Nat} {a7 : Nat → Int32} {a8 : Nat → Int32} {a9 : Nat → Int32} {a10 : Nat → Int32} {a11 : Nat → Int32} {a19 : Nat → Int32} {y : Nat → Int32} (h : D2 n a7 a8 a9 a10 a11 a19 y) : ∀ o, o < n → y (51 + 12 * o) = a19 o := h.1
theorem D2.want {n : Nat} {a7 : Nat → Int32} {a8 : Nat → Int32} {a9 : Nat → Int32} {a10 : Nat → Int32} {a11 : Nat → Int32} {a19 : Nat → Int32} {y : Nat → Int32} (h : D2 n a7 a8 a9 a10 a11 a19 y) : ∀ o, o < n → y (51 + 12 * o + 1) = if bt (a7 0) o = true then 0 else 1 := h.2.1
theorem D2.off {n : Nat} {a7 : Nat → Int32} {a8 : Nat → Int32} {a9 : Nat → Int32} {a10 : Nat → Int32} {a11 : Nat → Int32} {a19 : Nat → Int32} {y : Nat → Int32} (h : D2 n a7 a8 a9 a10 a11 a19 y) : ∀ i, n ≤ i → i < 32 → bt (a7 0) i = false := h.2.2.1
theorem D2.fuse {n : Nat} {a7 : Nat → Int32} {a8 : Nat → Int32} {a9 : Nat → Int32} {a10 : Nat → Int32} {a11 : Nat → Int32} {a19 : Nat → Int32} {y : Nat → Int32} (h : D2 n a7 a8 a9 a10 a11 a19 y) : y 6 = a8 0 := h.2.2.2.1
theorem D2.retry {n : Nat} {a7 : Nat → Int32} {a8 : Nat → Int32} {a9 : Nat → Int32} {a10 : Nat → Int32} {a11 : Nat → Int32} {a19 : Nat → Int32} {y : Nat → Int32} (h : D2 n a7 a8 a9 a10 a11 a19 y) : y 7 = a9 0 := h.2.2.2.2.1
theorem D2.pat {n : Nat} {a7 : Nat → Int32} {a8 : Nat → Int32} {a9 : Nat → Int32} {a10 : Nat → Int32} {a11 : Nat → Int32} {a19 : Nat → Int32} {y : Nat → Int32} (h : D2 n a7 a8 a9 a10 a11 a19 y) : y 8 = a10 0 := h.2.2.2.2.2.1
theorem D2.strict {n : Nat} {a7 : Nat → Int32} {a8 : Nat → Int32} {a9 : Nat → Int32} {a10 : Nat → Int32} {a11 : Nat → Int32} {a19 : Nat → Int32} {y : Nat → Int32} (h : D2 n a7 a8 a9 a10 a11 a19 y) : y 9 = a11 0 := h.2.2.2.2.2.2.1
theorem D2.fb {n : Nat} {a7 : Nat → Int32} {a8 : Nat → Int32} {a9 : Nat → Int32} {a10 : Nat → Int32} {a11 : Nat → Int32} {a19 : Nat → Int32} {y : Nat → Int32} (h : D2 n a7 a8 a9 a10 a11 a19 y) : ∃ f, 1 ≤ f ∧ f ≤ 9999 ∧ a8 0 = nI f := h.2.2.2.2.2.2.2.1
theorem D2.s01 {n : Nat} {a7 : Nat → Int32} {a8 : Nat → Int32} {a9 : Nat → Int32} {a10 : Nat → Int32} {a11 : Nat → Int32} {a19 : Nat → Int32} {y : Nat → Int32} (h : D2 n a7 a8 a9 a10 a11 a19 y) : a11 0 = 0 ∨ a11 0 = 1 := h.2.2.2.2.2.2.2.2.1
theorem D2.zero {n : Nat} {a7 : Nat → Int32} {a8 : Nat → Int32} {a9 : Nat → Int32} {a10 : Nat → Int32} {a11 : Nat → Int32} {a19 : Nat → Int32} {y : Nat → Int32} (h : D2 n a7 a8 a9 a10 a11 a19 y) : ∀ i, i < 411 → (i < 6 ∨ 9 < i) → (∀ o, o < n → i ≠ 51 + 12 * o ∧ i ≠ 51 + 12 * o + 1) → y i = 0 := h.2.2.2.2.2.2.2.2.2
def D3 (a12 a13 y20 y32 : Nat → Int32) : Prop := ∃ m, m ≤ 24 ∧ a13 0 = nI m ∧ y32 0 = nI m ∧ ∀ k, k < m → y20 k = b01 (a12 0) k
def D4 (a14 a21 a22 y21 y33 : Nat → Int32) : Prop := ∃ d, d ≤ 4 ∧ a14 0 = nI d ∧ y33 0 = nI d ∧ ∀ k, k < d → y21 (2 * k) = a21 k ∧ y21 (2 * k + 1) = a22 k
def Dr (n : Nat) (nm : Nat → Int64) (ps : Nat → Nat → Int32) (z : Nat → Nat → Int32) : Prop :=
  (D1 n nm (ps 6) (ps 15) (ps 16) (ps 17) (ps 18) (ps 20) (z 18) (z 19) (z 22) (z 30) (z 31)) ∧
  (D2 n (ps 7) (ps 8) (ps 9) (ps 10) (ps 11) (ps 19) (z 17)) ∧
  (D3 (ps 12) (ps 13) (z 20) (z 32)) ∧
  (D4 (ps 14) (ps 21) (ps 22) (z 21) (z 33)) ∧
  (ps 5 0 = z 34 0)
theorem Dr.d1 {n : Nat} {nm : Nat → Int64} {ps : Nat → Nat → Int32} {z : Nat → Nat → Int32} (h : Dr n nm ps z) : D1 n nm (ps 6) (ps 15) (ps 16) (ps 17) (ps 18) (ps 20) (z 18) (z 19) (z 22) (z 30) (z 31) := h.1
theorem Dr.d2 {n : Nat} {nm : Nat → Int64} {ps : Nat → Nat → Int32} {z : Nat → Nat → Int32} (h : Dr n nm ps z) : D2 n (ps 7) (ps 8) (ps 9) (ps 10) (ps 11) (ps 19) (z 17) := h.2.1
theorem Dr.d3 {n : Nat} {nm : Nat → Int64} {ps : Nat → Nat → Int32} {z : Nat → Nat → Int32} (h : Dr n nm ps z) : D3 (ps 12) (ps 13) (z 20) (z 32) := h.2.2.1
theorem Dr.d4 {n : Nat} {nm : Nat → Int64} {ps : Nat → Nat → Int32} {z : Nat → Nat → Int32} (h : Dr n nm ps z) : D4 (ps 14) (ps 21) (ps 22) (z 21) (z 33) := h.2.2.2.1
theorem Dr.d5 {n : Nat} {nm : Nat → Int64} {ps : Nat → Nat → Int32} {z : Nat → Nat → Int32} (h : Dr n nm ps z) : ps 5 0 = z 34 0 := h.2.2.2.2
theorem dr_c {n : Nat} {nm : Nat → Int64} {ps z ps2 z2 : Nat → Nat → Int32} (h : Dr n nm ps z) (hp : ∀ i, 5 ≤ i → ps2 i = ps i) (hz : ∀ i, i < 25 ∨ 29 < i → z2 i = z i) : Dr n nm ps2 z2 := by
  obtain ⟨h1, h2, h3, h4, h5⟩ := h
  refine ⟨?_, ?_, ?_, ?_, ?_⟩
  · rw [hp 6 (by omega), hp 15 (by omega), hp 16 (by omega), hp 17 (by omega), hp 18 (by omega), hp 20 (by omega), hz 18 (by omega), hz 19 (by omega), hz 22 (by omega), hz 30 (by omega), hz 31 (by omega)]
    exact h1
  · rw [hp 7 (by omega), hp 8 (by omega), hp 9 (by omega), hp 10 (by omega), hp 11 (by omega), hp 19 (by omega), hz 17 (by omega)]
    exact h2
  · rw [hp 12 (by omega), hp 13 (by omega), hz 20 (by omega), hz 32 (by omega)]
    exact h3
  · rw [hp 14 (by omega), hp 21 (by omega), hp 22 (by omega), hz 21 (by omega), hz 33 (by omega)]
    exact h4
  · rw [hp 5 (by omega), hz 34 (by omega)]
    exact h5
def Rr (n : Nat) (nm : Nat → Int64) (L : Nat) (tx : Nat → Nat → Int32) (ps : Nat → Nat → Int32) (z : Nat → Nat → Int32) (ps1 : Nat → Nat → Int32) (z1 : Nat → Nat → Int32) : Prop :=
  (Rd L tx ps1 z1) ∧
  (ps1 3 0 = 0 → Dr n nm ps1 z1) ∧
  (ps1 3 0 = 0 → po ps < po ps1) ∧
  (∀ i, i < 16 ∨ i = 23 → z1 i = z i)
theorem Rr.rd {n : Nat} {nm : Nat → Int64} {L : Nat} {tx : Nat → Nat → Int32} {ps : Nat → Nat → Int32} {z : Nat → Nat → Int32} {ps1 : Nat → Nat → Int32} {z1 : Nat → Nat → Int32} (h : Rr n nm L tx ps z ps1 z1) : Rd L tx ps1 z1 := h.1
theorem Rr.dr {n : Nat} {nm : Nat → Int64} {L : Nat} {tx : Nat → Nat → Int32} {ps : Nat → Nat → Int32} {z : Nat → Nat → Int32} {ps1 : Nat → Nat → Int32} {z1 : Nat → Nat → Int32} (h : Rr n nm L tx ps z ps1 z1) : ps1 3 0 = 0 → Dr n nm ps1 z1 := h.2.1
theorem Rr.mo {n : Nat} {nm : Nat → Int64} {L : Nat} {tx : Nat → Nat → Int32} {ps : Nat → Nat → Int32} {z : Nat → Nat → Int32} {ps1 : Nat → Nat → Int32} {z1 : Nat → Nat → Int32} (h : Rr n nm L tx ps z ps1 z1) : ps1 3 0 = 0 → po ps < po ps1 := h.2.2.1
theorem Rr.fr {n : Nat} {nm : Nat → Int64} {L : Nat} {tx : Nat → Nat → Int32} {ps : Nat → Nat → Int32} {z : Nat → Nat → Int32} {ps1 : Nat → Nat → Int32} {z1 : Nat → Nat → Int32} (h : Rr n nm L tx ps z ps1 z1) : ∀ i, i < 16 ∨ i = 23 → z1 i = z i := h.2.2.2
theorem and_bit (x : Int32) {k : Nat} (hk : k < 32) : x &&& (1 <<< (nI k &&& 31)) = 0 ↔ bt x k = false := by
  rw [and_zero]
  constructor
  · intro h
    have g := h k hk
    rw [b_one k hk hk, decide_eq_true rfl] at g
    cases c : bt x k
    · rfl
    · exact absurd ⟨c, rfl⟩ g
  · intro h i hi g
    rw [b_one k hk hi] at g
    have e := of_decide_eq_true g.2
    subst e
    rw [h] at g
    exact absurd g.1 (by decide)
theorem once_e {L k : Nat} {tx ps z : Nat → Nat → Int32} {nm : Nat → Int64} {bit : Int32} (h : Rd L tx ps z) (e : ps 3 0 = 0) (h0 : ps 0 0 ≠ 0) (hk : k < 4) (hb : bit = 1 <<< (nI k &&& 31)) (hs : ps 5 0 = z 34 0) :
    (∃ ps2 z2 : Nat → Nat → Int32, qX4_passOnce tx ps nm bit = some (0, ps2) ∧ qX11_once z (nI k) = some z2 ∧ Stq L tx ps z ps2 z2 ∧ ps2 3 0 ≠ 0 ∧ z2 28 0 ≠ 0) ∨
    (∃ ps2 z2 : Nat → Nat → Int32, qX4_passOnce tx ps nm bit = some (1, ps2) ∧ qX11_once z (nI k) = some z2 ∧ Rd L tx ps2 z2 ∧ ps2 3 0 = 0 ∧ z2 28 0 = 0 ∧ po ps < po ps2 ∧ ps2 5 0 = z2 34 0 ∧ (∀ i, 6 ≤ i → ps2 i = ps i) ∧ ∀ i, i < 25 ∨ 29 < i → i ≠ 34 → z2 i = z i) := by
  have e2 : z 28 0 = 0 := by rw [← h.err]; exact e
  unfold qX4_passOnce qX11_once
  simp only [jn_e]
  rw [hb, ← hs, shr1 _ (show k < 32 by omega)]
  by_cases c : bt (ps 5 0) k = true
  · obtain ⟨ps2, z2, a1, a2, a3, a4, a5⟩ := stop_e (nm := nm) h 5 (by decide)
    rw [if_neg (show ¬ (ps 5 0 &&& (1 <<< (nI k &&& 31))) = 0 from fun g => absurd c (by rw [(and_bit _ (by omega)).mp g]; decide)), a1, bd_s, if_pos (b01_1.mpr c), a2, bd_s, wrong1 a5, bd_s, if_neg (show ¬ (1 : Int32) = 0 by decide)]
    exact Or.inl ⟨ps2, z2, rfl, rfl, a3, a4, a5⟩
  · have cf : bt (ps 5 0) k = false := by
      cases d : bt (ps 5 0) k
      · rfl
      · exact absurd d c
    have h2 : Rd L tx (va_up ps 5 (fun _ => ps 5 0 ||| (1 <<< (nI k &&& 31)))) (va_up z 34 (fun _ => ps 5 0 ||| (1 <<< (nI k &&& 31)))) := rd_c h (fun i hi => va_n (by omega)) (fun i hi => va_n (by omega))
    obtain ⟨ps2, z2, a1, a2, a3, a4, a5, a6⟩ := adv_e (nm := nm) h2 (by rw [va_n (by omega)]; exact e)
    rw [if_pos ((and_bit _ (by omega)).mpr cf), bs_e, a1, bd_s, if_neg (show ¬ b01 (ps 5 0) k = 1 from fun g => c (b01_1.mp g)), wrong0 e2, bd_s, if_pos rfl, bs_e, a2, bd_s]
    refine Or.inr ⟨ps2, z2, rfl, rfl, a3.rd, a4, a5, ?_, ?_, fun i hi => ?_, fun i hi h34 => ?_⟩
    · have g := a6 (by rw [va_n (by omega)]; exact h0)
      have g2 : po (va_up ps 5 (fun _ => ps 5 0 ||| (1 <<< (nI k &&& 31)))) = po ps := by
        unfold po
        rw [va_n (by omega)]
      omega
    · rw [a3.fp 5 (by omega), a3.fz 34 (by omega), va_s, va_s]
    · rw [a3.fp i (by omega), va_n (by omega)]
    · rw [a3.fz i hi, va_n h34]
/-- the draft behind a rule's first word -/
theorem dr_o {n : Nat} {nm : Nat → Int64} {ps z ps2 z2 : Nat → Nat → Int32} (h : Dr n nm ps z) (h5 : ps2 5 0 = z2 34 0) (hp : ∀ i, 6 ≤ i → ps2 i = ps i) (hz : ∀ i, i < 25 ∨ 29 < i → i ≠ 34 → z2 i = z i) : Dr n nm ps2 z2 := by
  have g : Dr n nm (va_up ps2 5 (ps 5)) (va_up z2 34 (z 34)) := dr_c h (fun i hi => by
    by_cases c : i = 5
    · subst c
      rw [va_s]
    · rw [va_n c]
      exact hp i (by omega)) (fun i hi => by
    by_cases c : i = 34
    · subst c
      rw [va_s]
    · rw [va_n c]
      exact hz i hi c)
  exact ⟨g.d1, g.d2, g.d3, g.d4, h5⟩
theorem d2_set {n : Nat} {a7 a8 a9 a10 a11 a19 y : Nat → Int32} (h : D2 n a7 a8 a9 a10 a11 a19 y) (r : Int32) : D2 n a7 a8 (fun _ => r) a10 a11 a19 (upd y 7 r) ∧ D2 n a7 a8 a9 (fun _ => r) a11 a19 (upd y 8 r) ∧ (r = 0 ∨ r = 1 → D2 n a7 a8 a9 a10 (fun _ => r) a19 (upd y 9 r)) := by
  obtain ⟨h1, h2, h3, h4, h5, h6, h7, h8, h9, h10⟩ := h
  have key : ∀ q, 6 ≤ q → q ≤ 9 → (∀ o, o < n → upd y q r (51 + 12 * o) = a19 o) ∧ (∀ o, o < n → upd y q r (51 + 12 * o + 1) = if bt (a7 0) o = true then 0 else 1) ∧ ∀ i, i < 411 → (i < 6 ∨ 9 < i) → (∀ o, o < n → i ≠ 51 + 12 * o ∧ i ≠ 51 + 12 * o + 1) → upd y q r i = 0 := by
    intro q q1 q2
    exact ⟨fun o ho => by rw [upd_n (by omega)]; exact h1 o ho, fun o ho => by rw [upd_n (by omega)]; exact h2 o ho, fun i g1 g2 g3 => by rw [upd_n (by omega)]; exact h10 i g1 g2 g3⟩
  refine ⟨?_, ?_, ?_⟩
  · obtain ⟨k1, k2, k3⟩ := key 7 (by omega) (by omega)
    exact ⟨k1, k2, h3, by rw [upd_n (by omega)]; exact h4, upd_s _ _ _, by rw [upd_n (by omega)]; exact h6, by rw [upd_n (by omega)]; exact h7, h8, h9, k3⟩
  · obtain ⟨k1, k2, k3⟩ := key 8 (by omega) (by omega)
    exact ⟨k1, k2, h3, by rw [upd_n (by omega)]; exact h4, by rw [upd_n (by omega)]; exact h5, upd_s _ _ _, by rw [upd_n (by omega)]; exact h7, h8, h9, k3⟩
  · intro hr
    obtain ⟨k1, k2, k3⟩ := key 9 (by omega) (by omega)
    exact ⟨k1, k2, h3, by rw [upd_n (by omega)]; exact h4, by rw [upd_n (by omega)]; exact h5, by rw [upd_n (by omega)]; exact h6, upd_s _ _ _, h8, hr, k3⟩
theorem figu_w {z : Nat → Nat → Int32} (h : ¬ z 28 0 = 0) (lo hi : Int32) : qX11_figure z lo hi = some (lo, z) := by
  unfold qX11_figure
  rw [wrong1 h, bd_s, if_neg (show ¬ (1 : Int32) = 0 by decide)]
theorem rl_retry {L n : Nat} {tx ps z : Nat → Nat → Int32} {nm : Nat → Int64} (h : Rd L tx ps z) (e : ps 3 0 = 0) (h0 : ps 0 0 ≠ 0) (hd : Dr n nm ps z) : ∃ ps1 z1 : Nat → Nat → Int32, (bd2 (qX4_passOnce tx ps nm 2) fun r_18 ps_19 => if r_18 = 0 then some ps_19 else bd2 (qX4_readNumber tx ps_19 nm 1 20) fun r_20 ps_21 => (bs (va_up ps_21 9 (fun _ => r_20)) fun ps_22 => some ps_22)) = some ps1 ∧ (∀ J : (Nat → Nat → Int32) → Option (Nat → Nat → Int32), (bd (qX11_once z 1) fun z_37 => bd2 (qX11_figure z_37 1 20) fun r_38 z_39 => (bs (va_up z_39 17 (upd (z_39 17) 7 r_38)) fun z_40 => J z_40)) = J z1) ∧ Rr n nm L tx ps z ps1 z1 := by
  rcases once_e (k := 1) (bit := 2) (nm := nm) h e h0 (by omega) (by decide) hd.d5 with ⟨ps2, z2, a1, a2, a3, a4, a5⟩ | ⟨ps2, z2, a1, a2, a3, a4, a5, a6, a7, a8, a9⟩
  · rw [a1, bd2_s, if_pos rfl]
    refine ⟨ps2, va_up z2 17 (upd (z2 17) 7 1), rfl, fun J => ?_, rd_c a3.rd (fun _ _ => rfl) (fun i hi => va_n (by omega)), fun g => absurd g a4, fun g => absurd g a4, fun i hi => by rw [va_n (by omega), a3.fz i (by omega)]⟩
    rw [show qX11_once z 1 = some z2 from a2, bd_s, figu_w a5, bd2_s, bs_e]
  · obtain ⟨r, ps3, r2, z3, b1, b2, b3, b4⟩ := figu_e (nm := nm) a3 1 20 1 20 (fun _ => ⟨rfl, rfl⟩)
    rw [a1, bd2_s, if_neg (show ¬ (1 : Int32) = 0 by decide), b1, bd2_s, bs_e]
    refine ⟨_, va_up z3 17 (upd (z3 17) 7 r2), rfl, fun J => ?_, rd_c b3.rd (fun i hi => va_n (by omega)) (fun i hi => va_n (by omega)), fun g => ?_, fun g => ?_, fun i hi => by rw [va_n (by omega), b3.fz i (by omega), a9 i (by omega) (by omega)]⟩
    · rw [show qX11_once z 1 = some z2 from a2, bd_s, b2, bd2_s, bs_e]
    · rw [va_n (by omega)] at g
      obtain ⟨g1, _⟩ := b4 g
      subst g1
      have d := dr_c (dr_o hd a7 a8 a9) b3.fp b3.fz
      exact ⟨d.d1, (d2_set d.d2 r2).1, d.d3, d.d4, d.d5⟩
    · have m1 := b3.mo
      have m2 : po (va_up ps3 9 (fun _ => r)) = po ps3 := by
        unfold po
        rw [va_n (by omega)]
      omega
theorem rl_patience {L n : Nat} {tx ps z : Nat → Nat → Int32} {nm : Nat → Int64} (h : Rd L tx ps z) (e : ps 3 0 = 0) (h0 : ps 0 0 ≠ 0) (hd : Dr n nm ps z) : ∃ ps1 z1 : Nat → Nat → Int32, (bd2 (qX4_passOnce tx ps nm 4) fun r_18 ps_19 => if r_18 = 0 then some ps_19 else bd2 (qX4_readNumber tx ps_19 nm 2 20) fun r_20 ps_21 => (bs (va_up ps_21 10 (fun _ => r_20)) fun ps_22 => some ps_22)) = some ps1 ∧ (∀ J : (Nat → Nat → Int32) → Option (Nat → Nat → Int32), (bd (qX11_once z 2) fun z_37 => bd2 (qX11_figure z_37 2 20) fun r_38 z_39 => (bs (va_up z_39 17 (upd (z_39 17) 8 r_38)) fun z_40 => J z_40)) = J z1) ∧ Rr n nm L tx ps z ps1 z1 := by
  rcases once_e (k := 2) (bit := 4) (nm := nm) h e h0 (by omega) (by decide) hd.d5 with ⟨ps2, z2, a1, a2, a3, a4, a5⟩ | ⟨ps2, z2, a1, a2, a3, a4, a5, a6, a7, a8, a9⟩
  · rw [a1, bd2_s, if_pos rfl]
    refine ⟨ps2, va_up z2 17 (upd (z2 17) 8 2), rfl, fun J => ?_, rd_c a3.rd (fun _ _ => rfl) (fun i hi => va_n (by omega)), fun g => absurd g a4, fun g => absurd g a4, fun i hi => by rw [va_n (by omega), a3.fz i (by omega)]⟩
    rw [show qX11_once z 2 = some z2 from a2, bd_s, figu_w a5, bd2_s, bs_e]
  · obtain ⟨r, ps3, r2, z3, b1, b2, b3, b4⟩ := figu_e (nm := nm) a3 2 20 2 20 (fun _ => ⟨rfl, rfl⟩)
    rw [a1, bd2_s, if_neg (show ¬ (1 : Int32) = 0 by decide), b1, bd2_s, bs_e]
    refine ⟨_, va_up z3 17 (upd (z3 17) 8 r2), rfl, fun J => ?_, rd_c b3.rd (fun i hi => va_n (by omega)) (fun i hi => va_n (by omega)), fun g => ?_, fun g => ?_, fun i hi => by rw [va_n (by omega), b3.fz i (by omega), a9 i (by omega) (by omega)]⟩
    · rw [show qX11_once z 2 = some z2 from a2, bd_s, b2, bd2_s, bs_e]
    · rw [va_n (by omega)] at g
      obtain ⟨g1, _⟩ := b4 g
      subst g1
      have d := dr_c (dr_o hd a7 a8 a9) b3.fp b3.fz
      exact ⟨d.d1, (d2_set d.d2 r2).2.1, d.d3, d.d4, d.d5⟩
    · have m1 := b3.mo
      have m2 : po (va_up ps3 10 (fun _ => r)) = po ps3 := by
        unfold po
        rw [va_n (by omega)]
      omega
theorem rl_strict {L n : Nat} {tx ps z : Nat → Nat → Int32} {nm : Nat → Int64} (h : Rd L tx ps z) (e : ps 3 0 = 0) (h0 : ps 0 0 ≠ 0) (hd : Dr n nm ps z) : ∃ ps1 z1 : Nat → Nat → Int32, (bd2 (qX4_passOnce tx ps nm 8) fun r_10 ps_11 => gd (narrow .boolean (.int r_10) = .int r_10 ∧ fits .boolean (.int r_10) = true) (bs (va_up ps_11 11 (fun _ => r_10)) fun ps_12 => some ps_12)) = some ps1 ∧ (∀ J : (Nat → Nat → Int32) → Option (Nat → Nat → Int32), (bd (qX11_once z 3) fun z_31 => (bs (va_up z_31 17 (upd (z_31 17) 9 1)) fun z_32 => J z_32)) = J z1) ∧ Rr n nm L tx ps z ps1 z1 := by
  rcases once_e (k := 3) (bit := 8) (nm := nm) h e h0 (by omega) (by decide) hd.d5 with ⟨ps2, z2, a1, a2, a3, a4, a5⟩ | ⟨ps2, z2, a1, a2, a3, a4, a5, a6, a7, a8, a9⟩
  · rw [a1, bd2_s, gd_t ⟨rfl, rfl⟩, bs_e]
    refine ⟨_, va_up z2 17 (upd (z2 17) 9 1), rfl, fun J => ?_, rd_c a3.rd (fun i hi => va_n (by omega)) (fun i hi => va_n (by omega)), fun g => absurd g (by rw [va_n (by omega)]; exact a4), fun g => absurd g (by rw [va_n (by omega)]; exact a4), fun i hi => by rw [va_n (by omega), a3.fz i (by omega)]⟩
    rw [show qX11_once z 3 = some z2 from a2, bd_s, bs_e]
  · rw [a1, bd2_s, gd_t ⟨rfl, rfl⟩, bs_e]
    refine ⟨_, va_up z2 17 (upd (z2 17) 9 1), rfl, fun J => ?_, rd_c a3 (fun i hi => va_n (by omega)) (fun i hi => va_n (by omega)), fun g => ?_, fun g => ?_, fun i hi => by rw [va_n (by omega), a9 i (by omega) (by omega)]⟩
    · rw [show qX11_once z 3 = some z2 from a2, bd_s, bs_e]
    · have d := dr_o hd a7 a8 a9
      exact ⟨d.d1, (d2_set d.d2 1).2.2 (Or.inr rfl), d.d3, d.d4, d.d5⟩
    · have m2 : po (va_up ps2 11 (fun _ => (1 : Int32))) = po ps2 := by
        unfold po
        rw [va_n (by omega)]
      omega
