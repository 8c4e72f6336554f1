-- strain: a quotient that is a number
def okd : FP.Core.Datum → Prop
  | .nan => False
  | .inf _ => True
  | .fin _ c q => c < 9007199254740992 ∧ q ≤ 971
def finz : FP.Core.Datum → Prop
  | .nan => False
  | .inf _ => False
  | .fin _ c _ => c ≠ 0
theorem b64_t : FP.Core.b64.tails = 4503599627370496 := by decide +kernel
theorem b64_e : FP.Core.b64.exps = 2048 := by decide +kernel
theorem b64_qx : FP.Core.b64.qmax = 971 := by decide +kernel
theorem b64_qn : FP.Core.b64.qmin = -1074 := by decide +kernel
theorem b64_p : 2 ^ FP.Core.b64.p = 9007199254740992 := by decide +kernel
theorem okd_bound (sg : Bool) (c : Nat) (q : Int) (h : c < 9007199254740992) : okd (FP.Core.bound FP.Core.b64 sg c q) := by
  unfold FP.Core.bound
  rw [b64_qx]
  by_cases g : q ≤ 971
  · rw [if_pos g]
    exact ⟨h, g⟩
  · rw [if_neg g]
    exact trivial
theorem okd_settle (sg : Bool) (c : Nat) (q : Int) : okd (FP.Core.settle FP.Core.b64 sg c q) := by
  unfold FP.Core.settle
  rw [b64_p, b64_t]
  by_cases g : c < 9007199254740992
  · rw [if_pos g]
    exact okd_bound sg c q g
  · rw [if_neg g]
    exact okd_bound sg _ _ (Nat.lt_of_sub_pos (Nat.le_of_ble_eq_true rfl))
theorem okd_rr (sg : Bool) (a b : Nat) (e : Int) : okd (FP.Core.roundRatio FP.Core.b64 sg a b e) := by
  unfold FP.Core.roundRatio
  by_cases g : a = 0
  · rw [if_pos g]
    exact ⟨Nat.lt_of_sub_pos (Nat.le_of_ble_eq_true rfl), by rw [b64_qn]; decide⟩
  · rw [if_neg g]
    exact okd_settle _ _ _
theorem enc_e {d : FP.Core.Datum} (h : okd d) : ∃ S E T : Nat, S < 2 ∧ E < 2048 ∧ T < 4503599627370496 ∧ (E = 2047 → T = 0) ∧ FP.Core.encode FP.Core.b64 d = (S * 2048 + E) * 4503599627370496 + T ∧ (finz d → E < 2047 ∧ (E = 0 → T ≠ 0)) := by
  cases d with
  | nan => exact h.elim
  | inf sg =>
    refine ⟨sg.toNat, 2047, 0, Bool.toNat_lt sg, by omega, by omega, fun _ => rfl, ?_, fun g => g.elim⟩
    show FP.Core.assemble FP.Core.b64 sg _ 0 = _
    unfold FP.Core.assemble
    rw [b64_t, b64_e]
  | fin sg c q =>
    obtain ⟨h1, h2⟩ := h
    by_cases g : c < 4503599627370496
    · refine ⟨sg.toNat, 0, c, Bool.toNat_lt sg, by omega, g, fun e => by omega, ?_, fun g2 => ⟨by omega, fun _ => g2⟩⟩
      show (if c < FP.Core.b64.tails then FP.Core.assemble FP.Core.b64 sg 0 c else _) = _
      rw [b64_t, if_pos g]
      unfold FP.Core.assemble
      rw [b64_t, b64_e]
    · refine ⟨sg.toNat, (q - (-1074)).toNat + 1, c - 4503599627370496, Bool.toNat_lt sg, by omega, by omega, fun e => by omega, ?_, fun g2 => ⟨by omega, fun e => by omega⟩⟩
      show (if c < FP.Core.b64.tails then _ else FP.Core.assemble FP.Core.b64 sg ((q - FP.Core.b64.qmin).toNat + 1) (c - FP.Core.b64.tails)) = _
      rw [b64_t, b64_qn, if_neg g]
      unfold FP.Core.assemble
      rw [b64_t, b64_e]
theorem ord_self {d : FP.Core.Datum} (h : d ≠ .nan) : FP.Core.order d d = some .eq := by
  have key : ∀ a : Int, compare a a = .eq := by
    intro a
    show compareOfLessAndEq a a = .eq
    unfold compareOfLessAndEq
    rw [if_neg (Int.lt_irrefl a), if_pos rfl]
  cases d with
  | nan => exact absurd rfl h
  | inf sg => exact congrArg some (key _)
  | fin sg c q => exact congrArg some (key _)
theorem num_e {d : FP.Core.Datum} (h : okd d) : FP.Core.decode FP.Core.b64 (UInt64.ofNat (FP.Core.encode FP.Core.b64 d)).toNat ≠ .nan ∧ vf_n64 (UInt64.ofNat (FP.Core.encode FP.Core.b64 d)) ∧ (finz d → finz (FP.Core.decode FP.Core.b64 (UInt64.ofNat (FP.Core.encode FP.Core.b64 d)).toNat)) := by
  obtain ⟨S, E, T, hS, hE, hT, hz, hn, hf⟩ := enc_e h
  have hlt : FP.Core.encode FP.Core.b64 d < UInt64.size := by
    rw [hn]
    show _ < 18446744073709551616
    omega
  have hto := UInt64.toNat_ofNat_of_lt' hlt
  have hE' : FP.Core.fieldE FP.Core.b64 (UInt64.ofNat (FP.Core.encode FP.Core.b64 d)).toNat = E := by
    unfold FP.Core.fieldE
    rw [hto, hn, b64_t, b64_e]
    omega
  have hT' : FP.Core.fieldT FP.Core.b64 (UInt64.ofNat (FP.Core.encode FP.Core.b64 d)).toNat = T := by
    unfold FP.Core.fieldT
    rw [hto, hn, b64_t]
    omega
  refine ⟨?_, ?_, ?_⟩
  · unfold FP.Core.decode
    rw [hE', hT', b64_e]
    by_cases e : E = 2048 - 1
    · rw [if_pos e, if_pos (hz e)]
      exact fun e => nomatch e
    · rw [if_neg e]
      by_cases e2 : E = 0
      · rw [if_pos e2]
        exact fun e => nomatch e
      · rw [if_neg e2]
        exact fun e => nomatch e
  · unfold vf_n64
    rw [UInt64.le_iff_toNat_le, UInt64.toNat_and, hto, show (0x7fffffffffffffff : UInt64).toNat = 2 ^ 63 - 1 from rfl, Nat.and_two_pow_sub_one_eq_mod, hn]
    show _ ≤ 9218868437227405312
    by_cases e : E = 2047
    · have := hz e
      omega
    · omega
  · intro g
    obtain ⟨g1, g2⟩ := hf g
    unfold FP.Core.decode
    rw [hE', hT', b64_e, if_neg (show ¬ E = 2048 - 1 by omega)]
    by_cases e2 : E = 0
    · rw [if_pos e2]
      exact g2 e2
    · rw [if_neg e2, b64_t]
      show ¬ (4503599627370496 + T = 0)
      omega
theorem finz_i {k : Nat} (h1 : 1 ≤ k) (h2 : k ≤ 9999) : finz (FP.Core.roundRatio FP.Core.b64 false k 1 0) := by
  unfold FP.Core.roundRatio
  rw [if_neg (show ¬ k = 0 by omega)]
  have hl : FP.Core.leading k 1 ≤ 13 := by
    have hk : k.log2 < 14 := (Nat.log2_lt (by omega)).mpr (by omega)
    have h0 : Nat.log2 1 = 0 := by decide
    unfold FP.Core.leading
    rw [h0]
    dsimp only
    split <;> omega
  have hq : FP.Core.quantum FP.Core.b64 k 1 0 ≤ 0 := by
    unfold FP.Core.quantum
    rw [b64_qn, show ((FP.Core.b64.p : Nat) : Int) = 53 from rfl]
    omega
  unfold FP.Core.roundAt
  generalize FP.Core.quantum FP.Core.b64 k 1 0 = q at hq
  have hu : FP.Core.unitsDen 1 0 q = 1 := by
    unfold FP.Core.unitsDen
    rw [show (q - 0).toNat = 0 by omega]
  have hN : FP.Core.nearest (FP.Core.unitsNum k 0 q) (FP.Core.unitsDen 1 0 q) ≠ 0 := by
    rw [hu]
    unfold FP.Core.nearest
    rw [Nat.mod_one, if_pos (by decide), Nat.div_one]
    unfold FP.Core.unitsNum
    have := Nat.mul_pos (show 0 < k by omega) (Nat.two_pow_pos (0 - q).toNat)
    omega
  generalize FP.Core.nearest (FP.Core.unitsNum k 0 q) (FP.Core.unitsDen 1 0 q) = N at hN
  unfold FP.Core.settle
  rw [b64_p, b64_t]
  unfold FP.Core.bound
  rw [b64_qx]
  by_cases g : N < 9007199254740992
  · rw [if_pos g, if_pos (show q ≤ 971 by omega)]
    exact hN
  · rw [if_neg g, if_pos (show q + 1 ≤ 971 by omega)]
    exact (show ¬ (4503599627370496 = 0) by omega)
theorem strain_e (x : Int32) {k : Nat} (h1 : 1 ≤ k) (h2 : k ≤ 9999) : vf_n64 (FP.ddiv (FP.i2d x) (FP.i2d (nI k))) ∧ FP.dcmp (FP.ddiv (FP.i2d x) (FP.i2d (nI k))) (FP.ddiv (FP.i2d x) (FP.i2d (nI k))) = some .eq := by
  have hk : (nI k).toInt = (k : Int) := nI_toInt (by omega)
  have ha : FP.Core.decode FP.Core.b64 (FP.i2d x).toNat ≠ .nan := (num_e (okd_rr (decide (x.toInt < 0)) x.toInt.natAbs 1 0)).1
  have hb : finz (FP.Core.decode FP.Core.b64 (FP.i2d (nI k)).toNat) := by
    have g := (num_e (okd_rr false k 1 0)).2.2 (finz_i h1 h2)
    have e : FP.i2d (nI k) = UInt64.ofNat (FP.Core.encode FP.Core.b64 (FP.Core.roundRatio FP.Core.b64 false k 1 0)) := by
      show UInt64.ofNat (FP.Core.encode FP.Core.b64 (FP.Core.roundRatio FP.Core.b64 (decide ((nI k).toInt < 0)) (nI k).toInt.natAbs 1 0)) = _
      rw [hk, decide_eq_false (show ¬ ((k : Int) < 0) by omega), Int.natAbs_natCast]
    rw [e]
    exact g
  have hq : okd (FP.Core.quotient FP.Core.b64 (FP.Core.decode FP.Core.b64 (FP.i2d x).toNat) (FP.Core.decode FP.Core.b64 (FP.i2d (nI k)).toNat)) := by
    generalize FP.Core.decode FP.Core.b64 (FP.i2d x).toNat = d1 at ha
    generalize FP.Core.decode FP.Core.b64 (FP.i2d (nI k)).toNat = d2 at hb
    cases d2 with
    | nan => exact hb.elim
    | inf sg => exact hb.elim
    | fin sg c q =>
      cases d1 with
      | nan => exact absurd rfl ha
      | inf s1 => exact trivial
      | fin s1 c1 q1 =>
        show okd (if c = 0 then _ else FP.Core.roundRatio FP.Core.b64 (s1 != sg) c1 c (q1 - q))
        rw [if_neg hb]
        exact okd_rr _ _ _ _
  have g := num_e hq
  exact ⟨g.2.1, ord_self g.1⟩
theorem st_strain : St_strain Sim := by
  intro tx ps nm v vn hs ww z ⟨n, h⟩
  have h0 := smn_0 h
  have hzz : va_up z 0 (fun _ => 0) = z0 z := rfl
  obtain ⟨t, f, y0, ht, s, c, p, l, hE, hI, hs72, hpk⟩ := h0.now.ex
  obtain ⟨g1, g2⟩ := strain_e y0 hI.fb.1 hI.fb.2
  have e1 : ww 0 7 0 = y0 := hE.peak
  have e2 : z0 z 10 10 = y0 := hE.peakr
  have e3 : z0 z 10 6 = nI f := hE.fuser
  unfold qX11_strain qX10_strain
  rw [hzz, bs_e, e1, e2, e3, hE.fuse, gd_t g1, gd_t g1, if_pos (show (1 : Int32) ≤ nI f from nI_le (a := 1) hI.fb.1 (by have := hI.fb.2; omega))]
  exact ⟨_, _, _, rfl, rfl, ⟨rfl, g2⟩, n, h0⟩
