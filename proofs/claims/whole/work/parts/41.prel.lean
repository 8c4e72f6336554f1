-- the relation of one world to one row; what is read of both
theorem gdn {α : Type} {i N : Nat} (h : i < N) (hN : N < 100000) (x : Option α) : gd (vp_in (nI i) N) x = x := gd_t (vp_in_nI h (by omega))
theorem cl {i : Nat} (h : i < 2147483648) : (nI i).toNatClampNeg = i := nI_clamp h
theorem va_n {α : Type} {f : Nat → α} {i j : Nat} {x : α} (h : j ≠ i) : va_up f i x j = f j := by unfold va_up; exact if_neg h
theorem va_s {α : Type} (f : Nat → α) (i : Nat) (x : α) : va_up f i x i = x := by unfold va_up; exact if_pos rfl
theorem ag0 (o : Nat) : qX11_at (nI o) 0 = some (nI (51 + 12 * o)) := at_n o 0
theorem ag1 (o : Nat) : qX11_at (nI o) 1 = some (nI (51 + 12 * o + 1)) := at_n o 1
theorem ag2 (o : Nat) : qX11_at (nI o) 2 = some (nI (51 + 12 * o + 2)) := at_n o 2
theorem ag3 (o : Nat) : qX11_at (nI o) 3 = some (nI (51 + 12 * o + 3)) := at_n o 3
theorem ag4 (o : Nat) : qX11_at (nI o) 4 = some (nI (51 + 12 * o + 4)) := at_n o 4
theorem ag5 (o : Nat) : qX11_at (nI o) 5 = some (nI (51 + 12 * o + 5)) := at_n o 5
theorem ag6 (o : Nat) : qX11_at (nI o) 6 = some (nI (51 + 12 * o + 6)) := at_n o 6
theorem ag7 (o : Nat) : qX11_at (nI o) 7 = some (nI (51 + 12 * o + 7)) := at_n o 7
theorem ag8 (o : Nat) : qX11_at (nI o) 8 = some (nI (51 + 12 * o + 8)) := at_n o 8
theorem ag9 (o : Nat) : qX11_at (nI o) 9 = some (nI (51 + 12 * o + 9)) := at_n o 9
theorem ag10 (o : Nat) : qX11_at (nI o) 10 = some (nI (51 + 12 * o + 10)) := at_n o 10
theorem ag11 (o : Nat) : qX11_at (nI o) 11 = some (nI (51 + 12 * o + 11)) := at_n o 11
theorem m4 (o : Nat) : (4 : Int32) * nI o = nI (4 * o) := nI_mul 4 o
theorem m3 (o : Nat) : (3 : Int32) * nI o = nI (3 * o) := nI_mul 3 o
theorem m2 (o : Nat) : (2 : Int32) * nI o = nI (2 * o) := nI_mul 2 o
theorem p1 (o : Nat) : nI o + 1 = nI (o + 1) := nI_add o 1
theorem p2 (o : Nat) : nI o + 2 = nI (o + 2) := nI_add o 2
theorem p3 (o : Nat) : nI o + 3 = nI (o + 3) := nI_add o 3
theorem p195 (o : Nat) : (195 : Int32) + nI o = nI (195 + o) := nI_add 195 o
theorem p15 (o : Nat) : (15 : Int32) + nI o = nI (15 + o) := nI_add 15 o
theorem p21 (o : Nat) : (21 : Int32) + nI o = nI (21 + o) := nI_add 21 o
theorem p27 (o : Nat) : (27 : Int32) + nI o = nI (27 + o) := nI_add 27 o
theorem p39 (o : Nat) : (39 : Int32) + nI o = nI (39 + o) := nI_add 39 o
theorem nI_ne {a b : Nat} (h : a ≠ b) (ha : a < 2147483648) (hb : b < 2147483648) : ¬ nI a = nI b := fun e => h ((nI_eq ha hb).mp e)
theorem nle {a b : Nat} (h : b < a) (ha : a < 2147483648) : ¬ nI a ≤ nI b := nI_ge h ha
def Pl (v z : Nat → Nat → Int32) (n : Nat) : Prop :=
  (n ≤ 12) ∧
  (v 0 0 = nI n) ∧
  (z 1 0 = nI n) ∧
  (∀ o, o < n → z 5 (4 * o) = v 9 o) ∧
  (∀ o, o < n → z 5 (4 * o + 1) = v 10 o) ∧
  (∀ o, o < n → z 5 (4 * o + 2) = v 11 o) ∧
  (∀ o, o < n → z 5 (4 * o + 3) = v 12 o) ∧
  (∀ o, o < n → z 6 o = v 14 o) ∧
  (∀ o, o < n → ∃ k, k < 2000 ∧ v 9 o = nI k) ∧
  (∀ o, o < n → ∃ k, k < 2000 ∧ v 10 o = nI k) ∧
  (∀ o, o < n → ∃ k, k < 2000 ∧ v 11 o = nI k) ∧
  (∃ m, m ≤ 24 ∧ v 7 0 = nI m ∧ z 3 0 = nI m ∧ ∀ k, k < m → z 7 k = b01 (v 6 0) k) ∧
  (∃ d, d ≤ 4 ∧ v 8 0 = nI d ∧ z 4 0 = nI d ∧ ∀ k, k < d → z 8 (2 * k) = v 15 k ∧ z 8 (2 * k + 1) = v 16 k) ∧
  (∃ k, k ≤ 16 ∧ z 2 0 = nI k ∧ qX5_needsInAll v = some (nI k))
theorem Pl.hn {v z : Nat → Nat → Int32} {n : Nat} (h : Pl v z n) : n ≤ 12 := h.1
theorem Pl.v0 {v z : Nat → Nat → Int32} {n : Nat} (h : Pl v z n) : v 0 0 = nI n := h.2.1
theorem Pl.z1 {v z : Nat → Nat → Int32} {n : Nat} (h : Pl v z n) : z 1 0 = nI n := h.2.2.1
theorem Pl.steady {v z : Nat → Nat → Int32} {n : Nat} (h : Pl v z n) : ∀ o, o < n → z 5 (4 * o) = v 9 o := h.2.2.2.1
theorem Pl.inrush {v z : Nat → Nat → Int32} {n : Nat} (h : Pl v z n) : ∀ o, o < n → z 5 (4 * o + 1) = v 10 o := h.2.2.2.2.1
theorem Pl.peak {v z : Nat → Nat → Int32} {n : Nat} (h : Pl v z n) : ∀ o, o < n → z 5 (4 * o + 2) = v 11 o := h.2.2.2.2.2.1
theorem Pl.ticks {v z : Nat → Nat → Int32} {n : Nat} (h : Pl v z n) : ∀ o, o < n → z 5 (4 * o + 3) = v 12 o := h.2.2.2.2.2.2.1
theorem Pl.needed {v z : Nat → Nat → Int32} {n : Nat} (h : Pl v z n) : ∀ o, o < n → z 6 o = v 14 o := h.2.2.2.2.2.2.2.1
theorem Pl.bst {v z : Nat → Nat → Int32} {n : Nat} (h : Pl v z n) : ∀ o, o < n → ∃ k, k < 2000 ∧ v 9 o = nI k := h.2.2.2.2.2.2.2.2.1
theorem Pl.bin {v z : Nat → Nat → Int32} {n : Nat} (h : Pl v z n) : ∀ o, o < n → ∃ k, k < 2000 ∧ v 10 o = nI k := h.2.2.2.2.2.2.2.2.2.1
theorem Pl.bpk {v z : Nat → Nat → Int32} {n : Nat} (h : Pl v z n) : ∀ o, o < n → ∃ k, k < 2000 ∧ v 11 o = nI k := h.2.2.2.2.2.2.2.2.2.2.1
theorem Pl.script {v z : Nat → Nat → Int32} {n : Nat} (h : Pl v z n) : ∃ m, m ≤ 24 ∧ v 7 0 = nI m ∧ z 3 0 = nI m ∧ ∀ k, k < m → z 7 k = b01 (v 6 0) k := h.2.2.2.2.2.2.2.2.2.2.2.1
theorem Pl.darks {v z : Nat → Nat → Int32} {n : Nat} (h : Pl v z n) : ∃ d, d ≤ 4 ∧ v 8 0 = nI d ∧ z 4 0 = nI d ∧ ∀ k, k < d → z 8 (2 * k) = v 15 k ∧ z 8 (2 * k + 1) = v 16 k := h.2.2.2.2.2.2.2.2.2.2.2.2.1
theorem Pl.need {v z : Nat → Nat → Int32} {n : Nat} (h : Pl v z n) : ∃ k, k ≤ 16 ∧ z 2 0 = nI k ∧ qX5_needsInAll v = some (nI k) := h.2.2.2.2.2.2.2.2.2.2.2.2.2
def Ev (v : Nat → Nat → Int32) (n t s c p l f : Nat) (pk : Int32 × Int32) (w : Nat → Nat → Int32) (r : Nat → Int32) : Prop :=
  (w 0 0 = nI t) ∧
  (r 0 = nI t) ∧
  (w 1 0 = r 1) ∧
  (w 2 0 = nI f) ∧
  (r 6 = nI f) ∧
  (w 3 0 = r 7) ∧
  (w 4 0 = r 9) ∧
  (w 5 0 = r 2) ∧
  (w 6 0 = r 3) ∧
  (w 7 0 = pk.1) ∧
  (r 10 = pk.2) ∧
  (v 4 0 = r 8) ∧
  (w 31 0 = nI c) ∧
  (r 11 = nI c) ∧
  (w 34 0 = nI s) ∧
  (r 4 = nI s) ∧
  (w 35 0 = r 14) ∧
  (w 27 0 = nI p) ∧
  (r 12 = nI p) ∧
  (w 24 0 = nI l) ∧
  (r 13 = nI l) ∧
  (r 5 = w 33 0 + w 33 1 + w 33 2 + w 33 3 + w 33 4 + w 33 5) ∧
  (∀ k, k < 6 → w 32 k = r (15 + k)) ∧
  (∀ k, k < 6 → w 33 k = r (21 + k)) ∧
  (∀ o, o < n → w 10 o = r (51 + 12 * o)) ∧
  (∀ o, o < n → r (51 + 12 * o + 1) = if w 11 o = 0 then 0 else 1) ∧
  (∀ o, o < n → w 11 o = r (51 + 12 * o + 2)) ∧
  (∀ o, o < n → w 12 o = r (51 + 12 * o + 3)) ∧
  (∀ o, o < n → w 13 o = r (51 + 12 * o + 4)) ∧
  (∀ o, o < n → w 14 o = r (51 + 12 * o + 5)) ∧
  (∀ o, o < n → w 11 o ≠ 0 → w 15 o = r (51 + 12 * o + 6)) ∧
  (∀ o, o < n → r (51 + 12 * o + 7) = b01 (w 16 0) o) ∧
  (∀ o, o < n → r (51 + 12 * o + 8) = b01 (w 17 0) o) ∧
  (∀ o, o < n → w 18 o = r (51 + 12 * o + 9)) ∧
  (∀ o, o < n → w 19 o = r (51 + 12 * o + 10)) ∧
  (∀ o, o < n → r (51 + 12 * o + 11) = b01 (w 21 0) o) ∧
  (∀ o, o < n → w 20 o = if bt (w 21 0) o = true then v 11 o else v 10 o) ∧
  (∀ o, n ≤ o → o < 12 → r (51 + 12 * o + 11) = 0) ∧
  (∀ k, k < c → w 28 k = r (195 + 3 * k) ∧ w 29 k = r (195 + 3 * k + 1) ∧ w 30 k = r (195 + 3 * k + 2)) ∧
  (∀ k, k < p → w 25 k = r (27 + k)) ∧
  (∀ k, k < l → w 22 k = r (39 + k))
theorem Ev.tick {v : Nat → Nat → Int32} {n t s c p l f : Nat} {pk : Int32 × Int32} {w : Nat → Nat → Int32} {r : Nat → Int32} (h : Ev v n t s c p l f pk w r) : w 0 0 = nI t := h.1
theorem Ev.tickr {v : Nat → Nat → Int32} {n t s c p l f : Nat} {pk : Int32 × Int32} {w : Nat → Nat → Int32} {r : Nat → Int32} (h : Ev v n t s c p l f pk w r) : r 0 = nI t := h.2.1
theorem Ev.dark {v : Nat → Nat → Int32} {n t s c p l f : Nat} {pk : Int32 × Int32} {w : Nat → Nat → Int32} {r : Nat → Int32} (h : Ev v n t s c p l f pk w r) : w 1 0 = r 1 := h.2.2.1
theorem Ev.fuse {v : Nat → Nat → Int32} {n t s c p l f : Nat} {pk : Int32 × Int32} {w : Nat → Nat → Int32} {r : Nat → Int32} (h : Ev v n t s c p l f pk w r) : w 2 0 = nI f := h.2.2.2.1
theorem Ev.fuser {v : Nat → Nat → Int32} {n t s c p l f : Nat} {pk : Int32 × Int32} {w : Nat → Nat → Int32} {r : Nat → Int32} (h : Ev v n t s c p l f pk w r) : r 6 = nI f := h.2.2.2.2.1
theorem Ev.retry {v : Nat → Nat → Int32} {n t s c p l f : Nat} {pk : Int32 × Int32} {w : Nat → Nat → Int32} {r : Nat → Int32} (h : Ev v n t s c p l f pk w r) : w 3 0 = r 7 := h.2.2.2.2.2.1
theorem Ev.strict {v : Nat → Nat → Int32} {n t s c p l f : Nat} {pk : Int32 × Int32} {w : Nat → Nat → Int32} {r : Nat → Int32} (h : Ev v n t s c p l f pk w r) : w 4 0 = r 9 := h.2.2.2.2.2.2.1
theorem Ev.blk {v : Nat → Nat → Int32} {n t s c p l f : Nat} {pk : Int32 × Int32} {w : Nat → Nat → Int32} {r : Nat → Int32} (h : Ev v n t s c p l f pk w r) : w 5 0 = r 2 := h.2.2.2.2.2.2.2.1
theorem Ev.trips {v : Nat → Nat → Int32} {n t s c p l f : Nat} {pk : Int32 × Int32} {w : Nat → Nat → Int32} {r : Nat → Int32} (h : Ev v n t s c p l f pk w r) : w 6 0 = r 3 := h.2.2.2.2.2.2.2.2.1
theorem Ev.peak {v : Nat → Nat → Int32} {n t s c p l f : Nat} {pk : Int32 × Int32} {w : Nat → Nat → Int32} {r : Nat → Int32} (h : Ev v n t s c p l f pk w r) : w 7 0 = pk.1 := h.2.2.2.2.2.2.2.2.2.1
theorem Ev.peakr {v : Nat → Nat → Int32} {n t s c p l f : Nat} {pk : Int32 × Int32} {w : Nat → Nat → Int32} {r : Nat → Int32} (h : Ev v n t s c p l f pk w r) : r 10 = pk.2 := h.2.2.2.2.2.2.2.2.2.2.1
theorem Ev.pat {v : Nat → Nat → Int32} {n t s c p l f : Nat} {pk : Int32 × Int32} {w : Nat → Nat → Int32} {r : Nat → Int32} (h : Ev v n t s c p l f pk w r) : v 4 0 = r 8 := h.2.2.2.2.2.2.2.2.2.2.2.1
theorem Ev.wait {v : Nat → Nat → Int32} {n t s c p l f : Nat} {pk : Int32 × Int32} {w : Nat → Nat → Int32} {r : Nat → Int32} (h : Ev v n t s c p l f pk w r) : w 31 0 = nI c := h.2.2.2.2.2.2.2.2.2.2.2.2.1
theorem Ev.waitr {v : Nat → Nat → Int32} {n t s c p l f : Nat} {pk : Int32 × Int32} {w : Nat → Nat → Int32} {r : Nat → Int32} (h : Ev v n t s c p l f pk w r) : r 11 = nI c := h.2.2.2.2.2.2.2.2.2.2.2.2.2.1
theorem Ev.sent {v : Nat → Nat → Int32} {n t s c p l f : Nat} {pk : Int32 × Int32} {w : Nat → Nat → Int32} {r : Nat → Int32} (h : Ev v n t s c p l f pk w r) : w 34 0 = nI s := h.2.2.2.2.2.2.2.2.2.2.2.2.2.2.1
theorem Ev.sentr {v : Nat → Nat → Int32} {n t s c p l f : Nat} {pk : Int32 × Int32} {w : Nat → Nat → Int32} {r : Nat → Int32} (h : Ev v n t s c p l f pk w r) : r 4 = nI s := h.2.2.2.2.2.2.2.2.2.2.2.2.2.2.2.1
theorem Ev.clear {v : Nat → Nat → Int32} {n t s c p l f : Nat} {pk : Int32 × Int32} {w : Nat → Nat → Int32} {r : Nat → Int32} (h : Ev v n t s c p l f pk w r) : w 35 0 = r 14 := h.2.2.2.2.2.2.2.2.2.2.2.2.2.2.2.2.1
theorem Ev.pm {v : Nat → Nat → Int32} {n t s c p l f : Nat} {pk : Int32 × Int32} {w : Nat → Nat → Int32} {r : Nat → Int32} (h : Ev v n t s c p l f pk w r) : w 27 0 = nI p := h.2.2.2.2.2.2.2.2.2.2.2.2.2.2.2.2.2.1
theorem Ev.pmr {v : Nat → Nat → Int32} {n t s c p l f : Nat} {pk : Int32 × Int32} {w : Nat → Nat → Int32} {r : Nat → Int32} (h : Ev v n t s c p l f pk w r) : r 12 = nI p := h.2.2.2.2.2.2.2.2.2.2.2.2.2.2.2.2.2.2.1
theorem Ev.lm {v : Nat → Nat → Int32} {n t s c p l f : Nat} {pk : Int32 × Int32} {w : Nat → Nat → Int32} {r : Nat → Int32} (h : Ev v n t s c p l f pk w r) : w 24 0 = nI l := h.2.2.2.2.2.2.2.2.2.2.2.2.2.2.2.2.2.2.2.1
theorem Ev.lmr {v : Nat → Nat → Int32} {n t s c p l f : Nat} {pk : Int32 × Int32} {w : Nat → Nat → Int32} {r : Nat → Int32} (h : Ev v n t s c p l f pk w r) : r 13 = nI l := h.2.2.2.2.2.2.2.2.2.2.2.2.2.2.2.2.2.2.2.2.1
theorem Ev.lost {v : Nat → Nat → Int32} {n t s c p l f : Nat} {pk : Int32 × Int32} {w : Nat → Nat → Int32} {r : Nat → Int32} (h : Ev v n t s c p l f pk w r) : r 5 = w 33 0 + w 33 1 + w 33 2 + w 33 3 + w 33 4 + w 33 5 := h.2.2.2.2.2.2.2.2.2.2.2.2.2.2.2.2.2.2.2.2.2.1
theorem Ev.sby {v : Nat → Nat → Int32} {n t s c p l f : Nat} {pk : Int32 × Int32} {w : Nat → Nat → Int32} {r : Nat → Int32} (h : Ev v n t s c p l f pk w r) : ∀ k, k < 6 → w 32 k = r (15 + k) := h.2.2.2.2.2.2.2.2.2.2.2.2.2.2.2.2.2.2.2.2.2.2.1
theorem Ev.lby {v : Nat → Nat → Int32} {n t s c p l f : Nat} {pk : Int32 × Int32} {w : Nat → Nat → Int32} {r : Nat → Int32} (h : Ev v n t s c p l f pk w r) : ∀ k, k < 6 → w 33 k = r (21 + k) := h.2.2.2.2.2.2.2.2.2.2.2.2.2.2.2.2.2.2.2.2.2.2.2.1
theorem Ev.prio {v : Nat → Nat → Int32} {n t s c p l f : Nat} {pk : Int32 × Int32} {w : Nat → Nat → Int32} {r : Nat → Int32} (h : Ev v n t s c p l f pk w r) : ∀ o, o < n → w 10 o = r (51 + 12 * o) := h.2.2.2.2.2.2.2.2.2.2.2.2.2.2.2.2.2.2.2.2.2.2.2.2.1
theorem Ev.wants {v : Nat → Nat → Int32} {n t s c p l f : Nat} {pk : Int32 × Int32} {w : Nat → Nat → Int32} {r : Nat → Int32} (h : Ev v n t s c p l f pk w r) : ∀ o, o < n → r (51 + 12 * o + 1) = if w 11 o = 0 then 0 else 1 := h.2.2.2.2.2.2.2.2.2.2.2.2.2.2.2.2.2.2.2.2.2.2.2.2.2.1
theorem Ev.how {v : Nat → Nat → Int32} {n t s c p l f : Nat} {pk : Int32 × Int32} {w : Nat → Nat → Int32} {r : Nat → Int32} (h : Ev v n t s c p l f pk w r) : ∀ o, o < n → w 11 o = r (51 + 12 * o + 2) := h.2.2.2.2.2.2.2.2.2.2.2.2.2.2.2.2.2.2.2.2.2.2.2.2.2.2.1
theorem Ev.left {v : Nat → Nat → Int32} {n t s c p l f : Nat} {pk : Int32 × Int32} {w : Nat → Nat → Int32} {r : Nat → Int32} (h : Ev v n t s c p l f pk w r) : ∀ o, o < n → w 12 o = r (51 + 12 * o + 3) := h.2.2.2.2.2.2.2.2.2.2.2.2.2.2.2.2.2.2.2.2.2.2.2.2.2.2.2.1
theorem Ev.starts {v : Nat → Nat → Int32} {n t s c p l f : Nat} {pk : Int32 × Int32} {w : Nat → Nat → Int32} {r : Nat → Int32} (h : Ev v n t s c p l f pk w r) : ∀ o, o < n → w 13 o = r (51 + 12 * o + 4) := h.2.2.2.2.2.2.2.2.2.2.2.2.2.2.2.2.2.2.2.2.2.2.2.2.2.2.2.2.1
theorem Ev.ran {v : Nat → Nat → Int32} {n t s c p l f : Nat} {pk : Int32 × Int32} {w : Nat → Nat → Int32} {r : Nat → Int32} (h : Ev v n t s c p l f pk w r) : ∀ o, o < n → w 14 o = r (51 + 12 * o + 5) := h.2.2.2.2.2.2.2.2.2.2.2.2.2.2.2.2.2.2.2.2.2.2.2.2.2.2.2.2.2.1
theorem Ev.asked {v : Nat → Nat → Int32} {n t s c p l f : Nat} {pk : Int32 × Int32} {w : Nat → Nat → Int32} {r : Nat → Int32} (h : Ev v n t s c p l f pk w r) : ∀ o, o < n → w 11 o ≠ 0 → w 15 o = r (51 + 12 * o + 6) := h.2.2.2.2.2.2.2.2.2.2.2.2.2.2.2.2.2.2.2.2.2.2.2.2.2.2.2.2.2.2.1
theorem Ev.stop {v : Nat → Nat → Int32} {n t s c p l f : Nat} {pk : Int32 × Int32} {w : Nat → Nat → Int32} {r : Nat → Int32} (h : Ev v n t s c p l f pk w r) : ∀ o, o < n → r (51 + 12 * o + 7) = b01 (w 16 0) o := h.2.2.2.2.2.2.2.2.2.2.2.2.2.2.2.2.2.2.2.2.2.2.2.2.2.2.2.2.2.2.2.1
theorem Ev.poll {v : Nat → Nat → Int32} {n t s c p l f : Nat} {pk : Int32 × Int32} {w : Nat → Nat → Int32} {r : Nat → Int32} (h : Ev v n t s c p l f pk w r) : ∀ o, o < n → r (51 + 12 * o + 8) = b01 (w 17 0) o := h.2.2.2.2.2.2.2.2.2.2.2.2.2.2.2.2.2.2.2.2.2.2.2.2.2.2.2.2.2.2.2.2.1
theorem Ev.mark {v : Nat → Nat → Int32} {n t s c p l f : Nat} {pk : Int32 × Int32} {w : Nat → Nat → Int32} {r : Nat → Int32} (h : Ev v n t s c p l f pk w r) : ∀ o, o < n → w 18 o = r (51 + 12 * o + 9) := h.2.2.2.2.2.2.2.2.2.2.2.2.2.2.2.2.2.2.2.2.2.2.2.2.2.2.2.2.2.2.2.2.2.1
theorem Ev.time {v : Nat → Nat → Int32} {n t s c p l f : Nat} {pk : Int32 × Int32} {w : Nat → Nat → Int32} {r : Nat → Int32} (h : Ev v n t s c p l f pk w r) : ∀ o, o < n → w 19 o = r (51 + 12 * o + 10) := h.2.2.2.2.2.2.2.2.2.2.2.2.2.2.2.2.2.2.2.2.2.2.2.2.2.2.2.2.2.2.2.2.2.2.1
theorem Ev.known {v : Nat → Nat → Int32} {n t s c p l f : Nat} {pk : Int32 × Int32} {w : Nat → Nat → Int32} {r : Nat → Int32} (h : Ev v n t s c p l f pk w r) : ∀ o, o < n → r (51 + 12 * o + 11) = b01 (w 21 0) o := h.2.2.2.2.2.2.2.2.2.2.2.2.2.2.2.2.2.2.2.2.2.2.2.2.2.2.2.2.2.2.2.2.2.2.2.1
theorem Ev.exp {v : Nat → Nat → Int32} {n t s c p l f : Nat} {pk : Int32 × Int32} {w : Nat → Nat → Int32} {r : Nat → Int32} (h : Ev v n t s c p l f pk w r) : ∀ o, o < n → w 20 o = if bt (w 21 0) o = true then v 11 o else v 10 o := h.2.2.2.2.2.2.2.2.2.2.2.2.2.2.2.2.2.2.2.2.2.2.2.2.2.2.2.2.2.2.2.2.2.2.2.2.1
theorem Ev.knz {v : Nat → Nat → Int32} {n t s c p l f : Nat} {pk : Int32 × Int32} {w : Nat → Nat → Int32} {r : Nat → Int32} (h : Ev v n t s c p l f pk w r) : ∀ o, n ≤ o → o < 12 → r (51 + 12 * o + 11) = 0 := h.2.2.2.2.2.2.2.2.2.2.2.2.2.2.2.2.2.2.2.2.2.2.2.2.2.2.2.2.2.2.2.2.2.2.2.2.2.1
theorem Ev.msg {v : Nat → Nat → Int32} {n t s c p l f : Nat} {pk : Int32 × Int32} {w : Nat → Nat → Int32} {r : Nat → Int32} (h : Ev v n t s c p l f pk w r) : ∀ k, k < c → w 28 k = r (195 + 3 * k) ∧ w 29 k = r (195 + 3 * k + 1) ∧ w 30 k = r (195 + 3 * k + 2) := h.2.2.2.2.2.2.2.2.2.2.2.2.2.2.2.2.2.2.2.2.2.2.2.2.2.2.2.2.2.2.2.2.2.2.2.2.2.2.1
theorem Ev.pres {v : Nat → Nat → Int32} {n t s c p l f : Nat} {pk : Int32 × Int32} {w : Nat → Nat → Int32} {r : Nat → Int32} (h : Ev v n t s c p l f pk w r) : ∀ k, k < p → w 25 k = r (27 + k) := h.2.2.2.2.2.2.2.2.2.2.2.2.2.2.2.2.2.2.2.2.2.2.2.2.2.2.2.2.2.2.2.2.2.2.2.2.2.2.2.1
theorem Ev.lear {v : Nat → Nat → Int32} {n t s c p l f : Nat} {pk : Int32 × Int32} {w : Nat → Nat → Int32} {r : Nat → Int32} (h : Ev v n t s c p l f pk w r) : ∀ k, k < l → w 22 k = r (39 + k) := h.2.2.2.2.2.2.2.2.2.2.2.2.2.2.2.2.2.2.2.2.2.2.2.2.2.2.2.2.2.2.2.2.2.2.2.2.2.2.2.2
def Ord (n : Nat) (out place : Nat → Int32) (p : Nat) : Prop :=
  (p ≤ n) ∧
  (∀ k, k < p → ∃ o, o < n ∧ out k = nI o ∧ place o = nI k) ∧
  (∀ o, o < n → place o = -1 ∨ ∃ k, k < p ∧ place o = nI k ∧ out k = nI o)
theorem Ord.pn {n : Nat} {out place : Nat → Int32} {p : Nat} (h : Ord n out place p) : p ≤ n := h.1
theorem Ord.inn {n : Nat} {out place : Nat → Int32} {p : Nat} (h : Ord n out place p) : ∀ k, k < p → ∃ o, o < n ∧ out k = nI o ∧ place o = nI k := h.2.1
theorem Ord.plc {n : Nat} {out place : Nat → Int32} {p : Nat} (h : Ord n out place p) : ∀ o, o < n → place o = -1 ∨ ∃ k, k < p ∧ place o = nI k ∧ out k = nI o := h.2.2
def Iv (n t s c p l f : Nat) (w : Nat → Nat → Int32) : Prop :=
  (n ≤ 12) ∧
  (t ≤ 6000) ∧
  (s ≤ 72 * t + 72) ∧
  (c ≤ 72) ∧
  (1 ≤ f ∧ f ≤ 9999) ∧
  (∀ o, o < n → w 11 o = 0 ∨ w 11 o = 1 ∨ w 11 o = 2 ∨ w 11 o = 3) ∧
  (∀ o, o < n → w 18 o = 0 ∨ w 18 o = 1 ∨ w 18 o = 2 ∨ w 18 o = 3) ∧
  (∀ o, o < n → w 11 o = 0 → w 12 o = 0) ∧
  (w 4 0 = 0 ∨ w 4 0 = 1) ∧
  (w 35 0 = 0 ∨ w 35 0 = 1) ∧
  (∀ k, k < c → ∃ kd o, kd < 6 ∧ o < n ∧ w 28 k = nI kd ∧ w 29 k = nI o ∧ (kd = 3 → w 30 k = 0 ∨ w 30 k = 1 ∨ w 30 k = 2 ∨ w 30 k = 3)) ∧
  (Ord n (w 25) (w 26) p) ∧
  (Ord n (w 22) (w 23) l) ∧
  (∀ i, n ≤ i → i < 32 → bt (w 21 0) i = false)
theorem Iv.n12 {n t s c p l f : Nat} {w : Nat → Nat → Int32} (h : Iv n t s c p l f w) : n ≤ 12 := h.1
theorem Iv.tb {n t s c p l f : Nat} {w : Nat → Nat → Int32} (h : Iv n t s c p l f w) : t ≤ 6000 := h.2.1
theorem Iv.sb {n t s c p l f : Nat} {w : Nat → Nat → Int32} (h : Iv n t s c p l f w) : s ≤ 72 * t + 72 := h.2.2.1
theorem Iv.cb {n t s c p l f : Nat} {w : Nat → Nat → Int32} (h : Iv n t s c p l f w) : c ≤ 72 := h.2.2.2.1
theorem Iv.fb {n t s c p l f : Nat} {w : Nat → Nat → Int32} (h : Iv n t s c p l f w) : 1 ≤ f ∧ f ≤ 9999 := h.2.2.2.2.1
theorem Iv.st {n t s c p l f : Nat} {w : Nat → Nat → Int32} (h : Iv n t s c p l f w) : ∀ o, o < n → w 11 o = 0 ∨ w 11 o = 1 ∨ w 11 o = 2 ∨ w 11 o = 3 := h.2.2.2.2.2.1
theorem Iv.mk {n t s c p l f : Nat} {w : Nat → Nat → Int32} (h : Iv n t s c p l f w) : ∀ o, o < n → w 18 o = 0 ∨ w 18 o = 1 ∨ w 18 o = 2 ∨ w 18 o = 3 := h.2.2.2.2.2.2.1
theorem Iv.idle {n t s c p l f : Nat} {w : Nat → Nat → Int32} (h : Iv n t s c p l f w) : ∀ o, o < n → w 11 o = 0 → w 12 o = 0 := h.2.2.2.2.2.2.2.1
theorem Iv.s01 {n t s c p l f : Nat} {w : Nat → Nat → Int32} (h : Iv n t s c p l f w) : w 4 0 = 0 ∨ w 4 0 = 1 := h.2.2.2.2.2.2.2.2.1
theorem Iv.c01 {n t s c p l f : Nat} {w : Nat → Nat → Int32} (h : Iv n t s c p l f w) : w 35 0 = 0 ∨ w 35 0 = 1 := h.2.2.2.2.2.2.2.2.2.1
theorem Iv.msg {n t s c p l f : Nat} {w : Nat → Nat → Int32} (h : Iv n t s c p l f w) : ∀ k, k < c → ∃ kd o, kd < 6 ∧ o < n ∧ w 28 k = nI kd ∧ w 29 k = nI o ∧ (kd = 3 → w 30 k = 0 ∨ w 30 k = 1 ∨ w 30 k = 2 ∨ w 30 k = 3) := h.2.2.2.2.2.2.2.2.2.2.1
theorem Iv.ordP {n t s c p l f : Nat} {w : Nat → Nat → Int32} (h : Iv n t s c p l f w) : Ord n (w 25) (w 26) p := h.2.2.2.2.2.2.2.2.2.2.2.1
theorem Iv.ordL {n t s c p l f : Nat} {w : Nat → Nat → Int32} (h : Iv n t s c p l f w) : Ord n (w 22) (w 23) l := h.2.2.2.2.2.2.2.2.2.2.2.2.1
theorem Iv.kn {n t s c p l f : Nat} {w : Nat → Nat → Int32} (h : Iv n t s c p l f w) : ∀ i, n ≤ i → i < 32 → bt (w 21 0) i = false := h.2.2.2.2.2.2.2.2.2.2.2.2.2
/-- what is drawn -/
def drw (v : Nat → Nat → Int32) (h : Nat → Int32) (o : Nat) : Int32 := if h o = 2 then v 11 o else if h o = 3 then v 9 o else 0
def rsv (v : Nat → Nat → Int32) (w : Nat → Nat → Int32) (o : Nat) : Int32 := if w 18 o = 2 then w 20 o else if w 18 o = 3 then v 9 o else 0
def sumf (n : Nat) (f : Nat → Int32) : Int32 := lfold (fun k s => s + f k) 0 n 0
theorem steady_e {v : Nat → Nat → Int32} {z : Nat → Nat → Int32} {r : Nat → Int32} {n : Nat} {o : Nat} (hp : Pl v z n) (ho : o < n) : qX11_steady z r (nI o) = some (v 9 o) := by
  have := hp.hn
  unfold qX11_steady
  simp (disch := omega) only [m4, gdn, cl]
  rw [hp.steady o ho]
theorem inrush_e {v : Nat → Nat → Int32} {z : Nat → Nat → Int32} {r : Nat → Int32} {n : Nat} {o : Nat} (hp : Pl v z n) (ho : o < n) : qX11_inrush z r (nI o) = some (v 10 o) := by
  have := hp.hn
  unfold qX11_inrush
  simp (disch := omega) only [m4, p1, gdn, cl]
  rw [hp.inrush o ho]
theorem peak_e {v : Nat → Nat → Int32} {z : Nat → Nat → Int32} {r : Nat → Int32} {n : Nat} {o : Nat} (hp : Pl v z n) (ho : o < n) : qX11_peak z r (nI o) = some (v 11 o) := by
  have := hp.hn
  unfold qX11_peak
  simp (disch := omega) only [m4, p2, gdn, cl]
  rw [hp.peak o ho]
theorem drawOf_e {v : Nat → Nat → Int32} {z : Nat → Nat → Int32} {w : Nat → Nat → Int32} {n : Nat} {o : Nat} (hp : Pl v z n) (ho : o < n) : qX2_drawOf v w (nI o) = some (drw v (w 11) o) := by
  have := hp.hn
  unfold qX2_drawOf drw
  simp (disch := omega) only [gdn, cl]
  split
  · rfl
  · split <;> rfl
theorem draw_e {v : Nat → Nat → Int32} {z : Nat → Nat → Int32} {w : Nat → Nat → Int32} {r : Nat → Int32} {n : Nat} {t : Nat} {s : Nat} {c : Nat} {p : Nat} {l : Nat} {f : Nat} {o : Nat} {pk : Int32 × Int32} (hp : Pl v z n) (h : Ev v n t s c p l f pk w r) (ho : o < n) : qX11_draw z r (nI o) = some (drw v (w 11) o) := by
  have := hp.hn
  unfold qX11_draw drw
  simp (disch := omega) only [ag2, bd_s, gdn, cl]
  rw [peak_e hp ho, steady_e hp ho, h.how o ho]
  simp only [bd_s]
  split
  · rfl
  · split <;> rfl
theorem drawOfAll_e {v : Nat → Nat → Int32} {z : Nat → Nat → Int32} {w : Nat → Nat → Int32} {n : Nat} (hp : Pl v z n) : qX9_drawOfAll v w = some (sumf n (drw v (w 11))) := by
  have hn := hp.hn
  unfold qX9_drawOfAll sumf
  refine lp (L := fun n i s => qX9_drawOfAll_L4 v w _ n s i) (N := n) (K := fun s => some s) (fun _ _ => True) ?_ ?_ n fu 0 0 (by omega) (by unfold fu; omega) trivial
  · intro g k s hk _
    refine ⟨?_, trivial⟩
    show qX9_drawOfAll_L4 v w _ (g + 1) s (nI k) = _
    rw [qX9_drawOfAll_L4, hp.v0, if_neg (nle hk (by omega)), drawOf_e hp hk, bd_s, p1]
  · intro g s _
    show qX9_drawOfAll_L4 v w _ (g + 1) s (nI n) = _
    rw [qX9_drawOfAll_L4, hp.v0, if_pos (Int32.le_refl _)]
theorem drawn_e {v : Nat → Nat → Int32} {z : Nat → Nat → Int32} {w : Nat → Nat → Int32} {r : Nat → Int32} {n : Nat} {t : Nat} {s : Nat} {c : Nat} {p : Nat} {l : Nat} {f : Nat} {pk : Int32 × Int32} (hp : Pl v z n) (h : Ev v n t s c p l f pk w r) : qX11_drawn z r = some (sumf n (drw v (w 11))) := by
  have hn := hp.hn
  unfold qX11_drawn sumf
  refine lp (L := fun n i s => qX11_drawn_L4 z r _ n s i) (N := n) (K := fun s => some s) (fun _ _ => True) ?_ ?_ n fu 0 0 (by omega) (by unfold fu; omega) trivial
  · intro g k s hk _
    refine ⟨?_, trivial⟩
    show qX11_drawn_L4 z r _ (g + 1) s (nI k) = _
    rw [qX11_drawn_L4, hp.z1, if_neg (nle hk (by omega)), draw_e hp h hk, bd_s, p1]
  · intro g s _
    show qX11_drawn_L4 z r _ (g + 1) s (nI n) = _
    rw [qX11_drawn_L4, hp.z1, if_pos (Int32.le_refl _)]
theorem expected_e {v : Nat → Nat → Int32} {z : Nat → Nat → Int32} {w : Nat → Nat → Int32} {r : Nat → Int32} {n : Nat} {t : Nat} {s : Nat} {c : Nat} {p : Nat} {l : Nat} {f : Nat} {o : Nat} {pk : Int32 × Int32} (hp : Pl v z n) (h : Ev v n t s c p l f pk w r) (ho : o < n) : qX11_expected z r (nI o) = some (w 20 o) := by
  have := hp.hn
  unfold qX11_expected
  simp (disch := omega) only [ag11, bd_s, gdn, cl]
  rw [peak_e hp ho, inrush_e hp ho, h.known o ho, h.exp o ho]
  simp only [bd_s, b01_1]
  split <;> rfl
theorem reservedFor_e {v : Nat → Nat → Int32} {z : Nat → Nat → Int32} {w : Nat → Nat → Int32} {n : Nat} {o : Nat} (hp : Pl v z n) (ho : o < n) : qX3_reservedFor v w (nI o) = some (rsv v w o) := by
  have := hp.hn
  unfold qX3_reservedFor rsv
  simp (disch := omega) only [gdn, cl]
  split
  · rfl
  · split <;> rfl
theorem reserved_e {v : Nat → Nat → Int32} {z : Nat → Nat → Int32} {w : Nat → Nat → Int32} {r : Nat → Int32} {n : Nat} {t : Nat} {s : Nat} {c : Nat} {p : Nat} {l : Nat} {f : Nat} {o : Nat} {pk : Int32 × Int32} (hp : Pl v z n) (h : Ev v n t s c p l f pk w r) (ho : o < n) : qX11_reserved z r (nI o) = some (rsv v w o) := by
  have := hp.hn
  unfold qX11_reserved rsv
  simp (disch := omega) only [ag9, bd_s, gdn, cl]
  rw [expected_e hp h ho, steady_e hp ho, h.mark o ho]
  simp only [bd_s]
  split
  · rfl
  · split <;> rfl
theorem reservedForAll_e {v : Nat → Nat → Int32} {z : Nat → Nat → Int32} {w : Nat → Nat → Int32} {n : Nat} (hp : Pl v z n) : qX3_reservedForAll v w = some (sumf n (rsv v w)) := by
  have hn := hp.hn
  unfold qX3_reservedForAll sumf
  refine lp (L := fun n i s => qX3_reservedForAll_L4 v w _ n s i) (N := n) (K := fun s => some s) (fun _ _ => True) ?_ ?_ n fu 0 0 (by omega) (by unfold fu; omega) trivial
  · intro g k s hk _
    refine ⟨?_, trivial⟩
    show qX3_reservedForAll_L4 v w _ (g + 1) s (nI k) = _
    rw [qX3_reservedForAll_L4, hp.v0, if_neg (nle hk (by omega)), reservedFor_e hp hk, bd_s, p1]
  · intro g s _
    show qX3_reservedForAll_L4 v w _ (g + 1) s (nI n) = _
    rw [qX3_reservedForAll_L4, hp.v0, if_pos (Int32.le_refl _)]
theorem reservedAll_e {v : Nat → Nat → Int32} {z : Nat → Nat → Int32} {w : Nat → Nat → Int32} {r : Nat → Int32} {n : Nat} {t : Nat} {s : Nat} {c : Nat} {p : Nat} {l : Nat} {f : Nat} {pk : Int32 × Int32} (hp : Pl v z n) (h : Ev v n t s c p l f pk w r) : qX11_reservedAll z r = some (sumf n (rsv v w)) := by
  have hn := hp.hn
  unfold qX11_reservedAll sumf
  refine lp (L := fun n i s => qX11_reservedAll_L4 z r _ n s i) (N := n) (K := fun s => some s) (fun _ _ => True) ?_ ?_ n fu 0 0 (by omega) (by unfold fu; omega) trivial
  · intro g k s hk _
    refine ⟨?_, trivial⟩
    show qX11_reservedAll_L4 z r _ (g + 1) s (nI k) = _
    rw [qX11_reservedAll_L4, hp.z1, if_neg (nle hk (by omega)), reserved_e hp h hk, bd_s, p1]
  · intro g s _
    show qX11_reservedAll_L4 z r _ (g + 1) s (nI n) = _
    rw [qX11_reservedAll_L4, hp.z1, if_pos (Int32.le_refl _)]
theorem markedWith_e {v : Nat → Nat → Int32} {z : Nat → Nat → Int32} {w : Nat → Nat → Int32} {n : Nat} (hp : Pl v z n) (x : Int32) : qX3_markedWith v w x = some (bset n (fun k => decide (w 18 k = x))) := by
  have hn := hp.hn
  unfold qX3_markedWith bset
  refine lp (L := fun n i s => qX3_markedWith_L4 v w x _ n s i) (N := n) (K := fun s => some s) (fun _ _ => True) ?_ ?_ n fu 0 0 (by omega) (by unfold fu; omega) trivial
  · intro g k s hk _
    refine ⟨?_, trivial⟩
    show qX3_markedWith_L4 v w x _ (g + 1) s (nI k) = _
    rw [qX3_markedWith_L4, hp.v0, if_neg (nle hk (by omega))]
    simp (disch := omega) only [gdn, cl, jn_e, p1, decide_eq_true_eq]
    split <;> rfl
  · intro g s _
    show qX3_markedWith_L4 v w x _ (g + 1) s (nI n) = _
    rw [qX3_markedWith_L4, hp.v0, if_pos (Int32.le_refl _)]
theorem inState_e {v : Nat → Nat → Int32} {z : Nat → Nat → Int32} {w : Nat → Nat → Int32} {n : Nat} (hp : Pl v z n) (x : Int32) : qX2_inState v w x = some (bset n (fun k => decide (w 11 k = x))) := by
  have hn := hp.hn
  unfold qX2_inState bset
  refine lp (L := fun n i s => qX2_inState_L4 v w x _ n s i) (N := n) (K := fun s => some s) (fun _ _ => True) ?_ ?_ n fu 0 0 (by omega) (by unfold fu; omega) trivial
  · intro g k s hk _
    refine ⟨?_, trivial⟩
    show qX2_inState_L4 v w x _ (g + 1) s (nI k) = _
    rw [qX2_inState_L4, hp.v0, if_neg (nle hk (by omega))]
    simp (disch := omega) only [gdn, cl, jn_e, p1, decide_eq_true_eq]
    split <;> rfl
  · intro g s _
    show qX2_inState_L4 v w x _ (g + 1) s (nI n) = _
    rw [qX2_inState_L4, hp.v0, if_pos (Int32.le_refl _)]
theorem withState_e {v : Nat → Nat → Int32} {z : Nat → Nat → Int32} {r : Nat → Int32} {n : Nat} (hp : Pl v z n) (j : Nat) (hj : j < 12) (x : Int32) : qX11_withState z r (nI j) x = some (bset n (fun k => decide (r (51 + 12 * k + j) = x))) := by
  have hn := hp.hn
  unfold qX11_withState bset
  refine lp (L := fun n i s => qX11_withState_L6 z r (nI j) x _ n s i) (N := n) (K := fun s => some s) (fun _ _ => True) ?_ ?_ n fu 0 0 (by omega) (by unfold fu; omega) trivial
  · intro g k s hk _
    refine ⟨?_, trivial⟩
    show qX11_withState_L6 z r (nI j) x _ (g + 1) s (nI k) = _
    rw [qX11_withState_L6, hp.z1, if_neg (nle hk (by omega)), at_n, bd_s, show ix k j = 51 + 12 * k + j from rfl]
    simp (disch := omega) only [gdn, cl, jn_e, p1, decide_eq_true_eq]
    split <;> rfl
  · intro g s _
    show qX11_withState_L6 z r (nI j) x _ (g + 1) s (nI n) = _
    rw [qX11_withState_L6, hp.z1, if_pos (Int32.le_refl _)]
theorem withMark_e {v : Nat → Nat → Int32} {z : Nat → Nat → Int32} {w : Nat → Nat → Int32} {r : Nat → Int32} {n : Nat} {t : Nat} {s : Nat} {c : Nat} {p : Nat} {l : Nat} {f : Nat} {pk : Int32 × Int32} (hp : Pl v z n) (h : Ev v n t s c p l f pk w r) (x : Int32) : qX11_withState z r 9 x = some (bset n (fun k => decide (w 18 k = x))) := by
  rw [show (9 : Int32) = nI 9 from rfl, withState_e hp 9 (by omega)]
  refine congrArg some (bset_cong fun k hk => ?_)
  rw [h.mark k hk]
theorem withHow_e {v : Nat → Nat → Int32} {z : Nat → Nat → Int32} {w : Nat → Nat → Int32} {r : Nat → Int32} {n : Nat} {t : Nat} {s : Nat} {c : Nat} {p : Nat} {l : Nat} {f : Nat} {pk : Int32 × Int32} (hp : Pl v z n) (h : Ev v n t s c p l f pk w r) (x : Int32) : qX11_withState z r 2 x = some (bset n (fun k => decide (w 11 k = x))) := by
  rw [show (2 : Int32) = nI 2 from rfl, withState_e hp 2 (by omega)]
  refine congrArg some (bset_cong fun k hk => ?_)
  rw [h.how k hk]
theorem isDark_e {v : Nat → Nat → Int32} {z : Nat → Nat → Int32} {w : Nat → Nat → Int32} {r : Nat → Int32} {n : Nat} {t : Nat} {s : Nat} {c : Nat} {p : Nat} {l : Nat} {f : Nat} {pk : Int32 × Int32} (h : Ev v n t s c p l f pk w r) : qX11_isDark z r = qX9_isDark v w := by
  unfold qX11_isDark qX9_isDark
  rw [h.tick, h.tickr, h.dark]
