-- find
theorem lett_255 {c : Int32} (h : -128 ≤ c.toInt ∧ c.toInt < 128) : (lett c = true ↔ lett (c &&& 255) = true) ∧ (lett c = true → c &&& 255 = c) := by
  obtain ⟨m, hm, e⟩ := sby h
  have g := sb_all m hm
  rw [← e] at g
  exact ⟨kdc_1.symm.trans g.1.1, fun hl => g.1.2.2.2.2.2 (Or.inl (kdc_1.mpr hl))⟩
/-- names told are found alike -/
theorem same_o {nm : Nat → Int64} {f tx1 f2 : Nat → Int32} {L b k : Nat} {o : Nat} (hN : ∃ k, 0 < k ∧ k ≤ 8 ∧ nm o = pkn (fun i => f (8 * o + i)) k ∧ (∀ i, i < k → 97 ≤ (f (8 * o + i)).toInt ∧ (f (8 * o + i)).toInt ≤ 122) ∧ ∀ i, k ≤ i → i < 8 → f (8 * o + i) = 0)
    (hT : ∀ i, i < L → f2 i = tx1 i &&& 255 ∧ -128 ≤ (tx1 i).toInt ∧ (tx1 i).toInt < 128) (hb : b + k ≤ L) (h0 : 0 < k) (h8 : k ≤ 8) (hnz : ∀ i, i < k → f2 (b + i) ≠ 0) :
    (nm o = (if k ≤ 8 ∧ alr (fun i => lett (tx1 (b + i))) 0 k = true then pkn (fun j => tx1 (b + j)) k else 0)) ↔ whP f f2 b (b + k) o = true := by
  refine Iff.trans ?_ (show (∀ i, i < 8 → f (8 * o + i) = if b + i < b + k then f2 (b + i) else 0) ↔ whP f f2 b (b + k) o = true from ⟨fun g => (alr_0 _).mpr (fun i hi => decide_eq_true (g i hi)), fun g i hi => of_decide_eq_true ((alr_0 _).mp g i hi)⟩)
  obtain ⟨m, m0, m8, e1, e2, e3⟩ := hN
  have hl : ∀ i, i < m → lett (f (8 * o + i)) = true := fun i hi => lett_i.mpr (e2 i hi)
  constructor
  · intro h
    have hc : k ≤ 8 ∧ alr (fun i => lett (tx1 (b + i))) 0 k = true := by
      by_cases c : k ≤ 8 ∧ alr (fun i => lett (tx1 (b + i))) 0 k = true
      · exact c
      · rw [if_neg c, e1] at h
        obtain ⟨m', rfl⟩ : ∃ m', m = m' + 1 := ⟨m - 1, by omega⟩
        exact absurd h (pkn_ne hl)
    rw [if_pos hc, e1] at h
    have hlt := (alr_0 _).mp hc.2
    obtain ⟨q1, q2⟩ := pkn_inj m k m8 h8 hl hlt h
    subst q1
    intro i hi
    by_cases c : i < m
    · rw [if_pos (by omega), q2 i c, (hT (b + i) (by omega)).1, (lett_255 (hT (b + i) (by omega)).2).2 (hlt i c)]
    · rw [if_neg (by omega)]
      exact e3 i (by omega) hi
  · intro h
    have hmk : m = k := by
      rcases Nat.lt_trichotomy m k with c | c | c
      · have h1 := h m (by omega)
        rw [if_pos (by omega), e3 m (Nat.le_refl _) (by omega)] at h1
        exact absurd h1.symm (hnz m c)
      · exact c
      · have h1 := h k (by omega)
        rw [if_neg (by omega)] at h1
        exact absurd h1 (lett_0 (hl k c))
    subst hmk
    have hlt : ∀ i, i < m → lett (tx1 (b + i)) = true := by
      intro i hi
      have h1 := h i (by omega)
      rw [if_pos (by omega), (hT (b + i) (by omega)).1] at h1
      refine (lett_255 (hT (b + i) (by omega)).2).1.mpr ?_
      rw [← h1]
      exact hl i hi
    rw [if_pos ⟨h8, (alr_0 _).mpr hlt⟩, e1]
    have hfe : ∀ i, i < m → f (8 * o + i) = tx1 (b + i) := by
      intro i hi
      have h1 := h i (by omega)
      rw [if_pos (by omega), (hT (b + i) (by omega)).1, (lett_255 (hT (b + i) (by omega)).2).2 (hlt i hi)] at h1
      exact h1
    have pe : ∀ (q : Nat) (u u2 : Nat → Int32), (∀ i, i < q → u i = u2 i) → pkn u q = pkn u2 q := by
      intro q
      induction q with
      | zero => intro u u2 _; rfl
      | succ q ih =>
        intro u u2 hu
        show (pkn u q <<< (8 : Int64)) ||| (u q).toInt64 = (pkn u2 q <<< (8 : Int64)) ||| (u2 q).toInt64
        rw [ih u u2 (fun i hi => hu i (by omega)), hu q (by omega)]
    exact pe m _ _ hfe
theorem findL_e {z : Nat → Nat → Int32} {L : Nat} (hL : z 23 0 = nI L) (h9 : L ≤ 900) (K : Int32 → Option (Int32 × (Nat → Nat → Int32))) : ∀ (m g i : Nat), i + m = L → m < g → qX11_find_L29 z K g 1 (nI i) = K (if alr (fun j => !decide (z 16 j = 0)) i m = true then 1 else 0)
  | 0, g, i, hi, hg => by
    obtain ⟨g, rfl⟩ : ∃ g', g = g' + 1 := ⟨g - 1, by omega⟩
    rw [qX11_find_L29, hL, if_pos (nI_le (by omega) (by omega))]
    rfl
  | m + 1, g, i, hi, hg => by
    obtain ⟨g, rfl⟩ : ∃ g', g = g' + 1 := ⟨g - 1, by omega⟩
    rw [qX11_find_L29, hL, if_neg (nle (by omega) (by omega)), if_neg (show ¬ (1 : Int32) = 0 by decide), gdn (by omega) (by omega), cl (by omega), jn_e, p1]
    dsimp only
    show _ = K (if ((!decide (z 16 i = 0)) && alr (fun j => !decide (z 16 j = 0)) (i + 1) m) = true then 1 else 0)
    by_cases c : z 16 i = 0
    · rw [if_pos c, decide_eq_true c, if_neg (show ¬ ((!true) && alr (fun j => !decide (z 16 j = 0)) (i + 1) m) = true from fun g => absurd (Bool.and_eq_true_iff.mp g).1 (by decide))]
      obtain ⟨g, rfl⟩ : ∃ g', g = g' + 1 := ⟨g - 1, by omega⟩
      rw [qX11_find_L29, hL]
      by_cases c2 : nI L ≤ nI (i + 1)
      · rw [if_pos c2]
      · rw [if_neg c2, if_pos rfl]
    · rw [if_neg c, findL_e hL h9 K m g (i + 1) (by omega) (by omega), decide_eq_false c]
      rfl
theorem st_find : St_find Sim := by
  intro tx ps nm v vn hs ww z ⟨n, h⟩
  have h0 := smn_0 h
  have hz := z0_0 z
  have hp := h0.pl
  have hn := hp.hn
  have hzz : va_up z 0 (fun _ => 0) = z0 z := rfl
  obtain ⟨L, hL, e1, e2, e3⟩ := h0.txt.ex
  obtain ⟨r1, hr1⟩ : ∃ r1, r1 = (if L ≤ 8 ∧ allL tx 0 L = true then pkn (fun j => tx 1 (0 + j)) L else 0) := ⟨_, rfl⟩
  have hA : qX6_nameAt tx 0 (nI L) = some r1 := by
    rw [hr1]
    exact nameAt_e (b := 0) e1 (by omega) hL
  have hB := numb_e (nm := vn) r1 hp.v0 hn
  obtain ⟨res, hres⟩ : ∃ res, res = frs (fun o => decide (vn o = r1)) 0 n := ⟨_, rfl⟩
  rw [← hres] at hB
  have hC : qX10_find tx ps nm v vn hs ww = if res = (-1) then some (4, 0, va_up tx 0 (fun _ => 0)) else some (0, res, va_up tx 0 (fun _ => 0)) := by
    unfold qX10_find
    rw [e1, hA, bd_s, hB, bd_s, bs_e]
  have hN : ∀ o, o < n → vn o = r1 → ∃ k, k + 1 = L ∧ L ≤ 8 ∧ allL tx 0 L = true := by
    intro o ho e
    obtain ⟨k, k0, k8, g1, g2, g3⟩ := h0.nam.ex o ho
    by_cases c : L ≤ 8 ∧ allL tx 0 L = true
    · rw [if_pos c] at hr1
      by_cases c2 : L = 0
      · subst c2
        obtain ⟨k', rfl⟩ : ∃ k', k = k' + 1 := ⟨k - 1, by omega⟩
        refine absurd (g1.symm.trans (e.trans hr1)) (pkn_ne (fun i hi => lett_i.mpr (g2 i hi)))
      · exact ⟨L - 1, by omega, c.1, c.2⟩
    · rw [if_neg c] at hr1
      obtain ⟨k', rfl⟩ : ∃ k', k = k' + 1 := ⟨k - 1, by omega⟩
      refine absurd (g1.symm.trans (e.trans hr1)) (pkn_ne (fun i hi => lett_i.mpr (g2 i hi)))
  have hno : (∀ o, o < n → ¬ vn o = r1) → res = -1 := by
    intro g
    rw [hres]
    exact frs_no n 0 (fun i _ hi => decide_eq_false (g i (by omega)))
  have hR : qX11_find z = (bs (va_up (z0 z) 23 (fun _ => 0)) fun z_9 => (jn (fun (y_10 : Int32) => bd2 (qX11_may z_9 y_10 1) fun r_11 z_12 => if r_11 = 0 then some (0, z_12) else some (res, z_12)) fun j107 => if res = (-1) then (j107 0) else (j107 1))) := by
    unfold qX11_find
    rw [hzz, bs_e]
    have hzL : (nI L ≤ (0 : Int32)) ↔ L = 0 := by
      rw [show (0 : Int32) = nI 0 from rfl, nI_leI (by omega) (by omega)]
      omega
    have h8L : ((8 : Int32) < nI L) ↔ 8 < L := by
      rw [show (8 : Int32) = nI 8 from rfl, nI_ltI (by omega) (by omega)]
    simp only [jn_e]
    rw [e2]
    have hbad : (∀ o, o < n → ¬ vn o = r1) → qX11_find_L29 (z0 z) (fun (x1_6 : Int32) => if x1_6 = 0 then (bs (va_up (z0 z) 23 (fun _ => 0)) fun z_9 => if (-1 : Int32) = (-1) then bd2 (qX11_may z_9 0 1) fun r_11 z_12 => if r_11 = 0 then some (0, z_12) else some (-1, z_12) else bd2 (qX11_may z_9 1 1) fun r_11 z_12 => if r_11 = 0 then some (0, z_12) else some (-1, z_12)) else bd (qX11_whichOf 96 900 (z0 z 9) (z0 z 16) (z0 z 1 0) 0 (nI L)) fun r_13 => (bs (va_up (z0 z) 23 (fun _ => 0)) fun z_9 => if r_13 = (-1) then bd2 (qX11_may z_9 0 1) fun r_11 z_12 => if r_11 = 0 then some (0, z_12) else some (r_13, z_12) else bd2 (qX11_may z_9 1 1) fun r_11 z_12 => if r_11 = 0 then some (0, z_12) else some (r_13, z_12))) fu 0 0 = (bs (va_up (z0 z) 23 (fun _ => 0)) fun z_9 => if res = (-1) then bd2 (qX11_may z_9 0 1) fun r_11 z_12 => if r_11 = 0 then some (0, z_12) else some (res, z_12) else bd2 (qX11_may z_9 1 1) fun r_11 z_12 => if r_11 = 0 then some (0, z_12) else some (res, z_12)) := by
      intro g
      rw [show fu = 3999 + 1 from rfl, qX11_find_L29, e2, hno g]
      by_cases c : nI L ≤ (0 : Int32)
      · rw [if_pos c]
        rfl
      · rw [if_neg c]
        rfl
    by_cases c0 : L = 0
    · rw [if_pos (hzL.mpr c0)]
      refine hbad (fun o ho e => ?_)
      obtain ⟨k, k1, _⟩ := hN o ho e
      omega
    · rw [if_neg (fun g => c0 (hzL.mp g))]
      by_cases c8 : 8 < L
      · rw [if_pos (h8L.mpr c8)]
        refine hbad (fun o ho e => ?_)
        obtain ⟨k, _, k2, _⟩ := hN o ho e
        omega
      · rw [if_neg (fun g => c8 (h8L.mp g))]
        refine (findL_e e2 hL _ L fu 0 (by omega) (by unfold fu; omega)).trans ?_
        by_cases cz : alr (fun j => !decide (z0 z 16 j = 0)) 0 L = true
        · rw [if_pos cz, if_neg (show ¬ (1 : Int32) = 0 by decide), hp.z1, show qX11_whichOf 96 900 (z0 z 9) (z0 z 16) (nI n) 0 (nI L) = _ from which_e (b := 0) hn (by omega) (by omega), bd_s]
          have hq : frs (whP (z0 z 9) (z0 z 16) 0 L) 0 n = res := by
            rw [hres]
            refine frs_cong n 0 (fun o _ ho => ?_)
            rw [hr1]
            have g := same_o (nm := vn) (f := z0 z 9) (tx1 := tx 1) (f2 := z0 z 16) (L := L) (b := 0) (k := L) (o := o) (h0.nam.ex o (by omega)) e3 (by omega) (by omega) (by omega) (fun i hi => by rw [Nat.zero_add]; exact fun e => absurd ((alr_0 _).mp cz i hi) (by rw [decide_eq_true e]; decide))
            rw [Nat.zero_add L] at g
            exact Bool.eq_iff_iff.mpr (g.symm.trans decide_eq_true_iff.symm)
          rw [hq]
        · rw [if_neg cz, if_pos rfl]
          have g : ∀ o, o < n → ¬ vn o = r1 := by
            intro o ho e
            obtain ⟨k, _, _, k3⟩ := hN o ho e
            have k4 := (alr_0 _).mp k3
            refine cz ((alr_0 _).mpr fun j hj => ?_)
            have k5 : lett (tx 1 (0 + j)) = true := k4 j hj
            rw [Nat.zero_add] at k5
            rw [decide_eq_false]
            · rfl
            · rw [(e3 j hj).1]
              exact lett_0 ((lett_255 (e3 j hj).2).1.mp k5)
          rw [hno g]
          rfl
  rw [hC, hR, bs_e, jn_e]
  have hS : ∀ z2 : Nat → Nat → Int32, (∀ i, i ≠ 0 → i ≠ 23 → z2 i = z0 z i) → z2 23 0 = 0 → Smn n (va_up tx 0 (fun _ => 0)) ps v vn hs ww z2 := by
    intro z2 g1 g2
    exact smn_t h0 (fun i a _ _ d => g1 i a d) ⟨0, by omega, rfl, g2, fun i hi => absurd hi (Nat.not_lt_zero i)⟩
  have hz3 : va_up (z0 z) 23 (fun _ => 0) 0 0 = 0 := by rw [va_n (by omega)]; exact hz
  by_cases c : res = -1
  · rw [if_pos c, if_pos c]
    dsimp only
    rw [may0 hz3 (by decide), bd2_s, if_pos rfl]
    exact ⟨4, 0, _, 0, _, rfl, rfl, Or.inr ⟨rfl, by rw [va_s]⟩, n, hS _ (fun i a b => by rw [va_n a, va_n b]) (by rw [va_n (by omega), va_s])⟩
  · rw [if_neg c, if_neg c]
    dsimp only
    rw [may1 hz3, bd2_s, if_neg (show ¬ (1 : Int32) = 0 by decide)]
    exact ⟨0, res, _, res, _, rfl, rfl, Or.inl ⟨rfl, hz3, rfl⟩, n, hS _ (fun i a b => by rw [va_n b]) (by rw [va_s])⟩
