-- who has a right to power; the order is learned
def rgi (v w : Nat → Nat → Int32) (n f : Nat) (s : Int32) : Int32 := lfold (fun k s => if w 11 k ≠ 0 ∧ ¬ nI f < v 10 k ∧ v 14 k &&& (s ^^^ (-1)) = 0 then s ||| (1 <<< (nI k &&& 31)) else s) 0 n s
def rgt (v w : Nat → Nat → Int32) (n f : Nat) : Int32 := lfold (fun _ s => rgi v w n f s) 0 n 0
theorem rg_step {α : Type} {P Q S : Prop} [Decidable P] [Decidable Q] [Decidable S] (a b : α) : (if P then b else if Q then b else if S then a else b) = if ¬ P ∧ ¬ Q ∧ S then a else b := by
  by_cases h1 : P
  · rw [if_pos h1, if_neg (show ¬ (¬ P ∧ ¬ Q ∧ S) from fun h => h.1 h1)]
  · rw [if_neg h1]
    by_cases h2 : Q
    · rw [if_pos h2, if_neg (show ¬ (¬ P ∧ ¬ Q ∧ S) from fun h => h.2.1 h2)]
    · rw [if_neg h2]
      by_cases h3 : S
      · rw [if_pos h3, if_pos (show ¬ P ∧ ¬ Q ∧ S from ⟨h1, h2, h3⟩)]
      · rw [if_neg h3, if_neg (show ¬ (¬ P ∧ ¬ Q ∧ S) from fun h => h3 h.2.2)]
theorem rg_step2 {α : Type} {P Q S : Prop} [Decidable P] [Decidable Q] [Decidable S] (a b : α) : (if P then if Q then b else if S then a else b else b) = if P ∧ ¬ Q ∧ S then a else b := by
  by_cases h1 : P
  · rw [if_pos h1]
    by_cases h2 : Q
    · rw [if_pos h2, if_neg (show ¬ (P ∧ ¬ Q ∧ S) from fun h => h.2.1 h2)]
    · rw [if_neg h2]
      by_cases h3 : S
      · rw [if_pos h3, if_pos (show P ∧ ¬ Q ∧ S from ⟨h1, h2, h3⟩)]
      · rw [if_neg h3, if_neg (show ¬ (P ∧ ¬ Q ∧ S) from fun h => h3 h.2.2)]
  · rw [if_neg h1, if_neg (show ¬ (P ∧ ¬ Q ∧ S) from fun h => h1 h.1)]
theorem w_if {x : Int32} : ((if x = 0 then (0 : Int32) else 1) = 0) ↔ x = 0 := by
  by_cases h : x = 0
  · rw [if_pos h]
    exact ⟨fun _ => h, fun _ => rfl⟩
  · rw [if_neg h]
    exact ⟨fun e => absurd e (by decide), fun e => absurd e h⟩
theorem w_if1 {x : Int32} : ((if x = 0 then (0 : Int32) else 1) = 1) ↔ x ≠ 0 := by
  by_cases h : x = 0
  · rw [if_pos h]
    exact ⟨fun e => absurd e (by decide), fun e => absurd h e⟩
  · rw [if_neg h]
    exact ⟨fun _ => h, fun _ => rfl⟩
theorem doesWant_e {v : Nat → Nat → Int32} {w : Nat → Nat → Int32} {o : Nat} (ho : o < 12) : qX2_doesWant v w (nI o) = some (if w 11 o = 0 then 0 else 1) := by
  unfold qX2_doesWant
  simp (disch := omega) only [gdn, cl]
  split <;> rfl
theorem ent_in {v : Nat → Nat → Int32} {z : Nat → Nat → Int32} {w : Nat → Nat → Int32} {r : Nat → Int32} {n : Nat} {t : Nat} {s : Nat} {c : Nat} {p : Nat} {l : Nat} {f : Nat} {pk : Int32 × Int32} (hp : Pl v z n) (h : Ev v n t s c p l f pk w r) (x y : Int32) (K : Int32 → Option Int32) (b : Int32) : qX9_entitled_L20 v w x y K fu b 0 = K (rgi v w n f b) := by
  have hn := hp.hn
  unfold rgi
  refine lp (L := fun g i s => qX9_entitled_L20 v w x y K g s i) (N := n) (K := K) (fun _ _ => True) ?_ ?_ n fu 0 b (by omega) (by unfold fu; omega) trivial
  · intro g k b hk _
    refine ⟨?_, trivial⟩
    show qX9_entitled_L20 v w x y K (g + 1) b (nI k) = qX9_entitled_L20 v w x y K g _ (nI (k + 1))
    rw [qX9_entitled_L20, hp.v0, if_neg (nle hk (by omega)), doesWant_e (by omega), bd_s]
    simp (disch := omega) only [gdn, cl, jn_e, p1, h.fuse, w_if]
    rw [rg_step]
    split <;> rfl
  · intro g b _
    show qX9_entitled_L20 v w x y K (g + 1) b (nI n) = _
    rw [qX9_entitled_L20, hp.v0, if_pos (Int32.le_refl _)]
theorem rig_in {v : Nat → Nat → Int32} {z : Nat → Nat → Int32} {w : Nat → Nat → Int32} {r : Nat → Int32} {n : Nat} {t : Nat} {s : Nat} {c : Nat} {p : Nat} {l : Nat} {f : Nat} {pk : Int32 × Int32} (hp : Pl v z n) (h : Ev v n t s c p l f pk w r) (y : Int32) (K : Int32 → Option Int32) (b : Int32) : qX11_rightsOf_L15 z r y K fu b 0 = K (rgi v w n f b) := by
  have hn := hp.hn
  unfold rgi
  refine lp (L := fun g i s => qX11_rightsOf_L15 z r y K g s i) (N := n) (K := K) (fun _ _ => True) ?_ ?_ n fu 0 b (by omega) (by unfold fu; omega) trivial
  · intro g k b hk _
    refine ⟨?_, trivial⟩
    show qX11_rightsOf_L15 z r y K (g + 1) b (nI k) = qX11_rightsOf_L15 z r y K g _ (nI (k + 1))
    rw [qX11_rightsOf_L15, hp.z1, if_neg (nle hk (by omega)), ag1, bd_s, gdn (by omega) (by omega), inrush_e hp hk]
    simp (disch := omega) only [bd_s, gdn, cl, jn_e, p1, h.fuser, h.wants, w_if1, hp.needed]
    rw [rg_step2]
    split <;> rfl
  · intro g b _
    show qX11_rightsOf_L15 z r y K (g + 1) b (nI n) = _
    rw [qX11_rightsOf_L15, hp.z1, if_pos (Int32.le_refl _)]
theorem lfold_fix {σ : Type} {F : σ → σ} {b : σ} (h : F b = b) : ∀ (m k : Nat), lfold (fun _ x => F x) k m b = b
  | 0, _ => rfl
  | m + 1, k => by
    show lfold (fun _ x => F x) (k + 1) m (F b) = b
    rw [h]
    exact lfold_fix h m (k + 1)
theorem entitled_e {v : Nat → Nat → Int32} {z : Nat → Nat → Int32} {w : Nat → Nat → Int32} {r : Nat → Int32} {n : Nat} {t : Nat} {s : Nat} {c : Nat} {p : Nat} {l : Nat} {f : Nat} {pk : Int32 × Int32} (hp : Pl v z n) (h : Ev v n t s c p l f pk w r) : qX9_entitled v w = some (rgt v w n f) := by
  have hn := hp.hn
  have key : ∀ (m g k : Nat) (b : Int32), k + m = n → m < g → qX9_entitled_L4 v w (fun (x1_3 : Int32) => some x1_3) g b (nI k) = some (lfold (fun _ s => rgi v w n f s) k m b) := by
    intro m
    induction m with
    | zero =>
      intro g k b hk hg
      obtain ⟨g, rfl⟩ : ∃ g', g = g' + 1 := ⟨g - 1, by omega⟩
      have : k = n := by omega
      subst this
      rw [qX9_entitled_L4, hp.v0, if_pos (Int32.le_refl _)]
      rfl
    | succ m ih =>
      intro g k b hk hg
      obtain ⟨g, rfl⟩ : ∃ g', g = g' + 1 := ⟨g - 1, by omega⟩
      rw [qX9_entitled_L4, hp.v0, if_neg (nle (show k < n by omega) (by omega)), ent_in hp h]
      by_cases e : rgi v w n f b = b
      · rw [if_pos e]
        show some (rgi v w n f b) = some (lfold _ (k + 1) m (rgi v w n f b))
        rw [e, lfold_fix e]
      · rw [if_neg e, p1]
        exact ih g (k + 1) _ (by omega) (by omega)
  unfold qX9_entitled rgt
  exact key n fu 0 0 (by omega) (by unfold fu; omega)
theorem rightsOf_e {v : Nat → Nat → Int32} {z : Nat → Nat → Int32} {w : Nat → Nat → Int32} {r : Nat → Int32} {n : Nat} {t : Nat} {s : Nat} {c : Nat} {p : Nat} {l : Nat} {f : Nat} {pk : Int32 × Int32} (hp : Pl v z n) (h : Ev v n t s c p l f pk w r) : qX11_rightsOf z r = some (rgt v w n f) := by
  have hn := hp.hn
  unfold qX11_rightsOf rgt
  refine lp (L := fun g i s => qX11_rightsOf_L4 z r (fun (x2_3 : Int32) => some x2_3) g s i) (N := n) (K := fun s => some s) (fun _ _ => True) ?_ ?_ n fu 0 0 (by omega) (by unfold fu; omega) trivial
  · intro g k b hk _
    refine ⟨?_, trivial⟩
    show qX11_rightsOf_L4 z r _ (g + 1) b (nI k) = qX11_rightsOf_L4 z r _ g _ (nI (k + 1))
    rw [qX11_rightsOf_L4, hp.z1, if_neg (nle hk (by omega)), rig_in hp h, p1]
  · intro g b _
    show qX11_rightsOf_L4 z r _ (g + 1) b (nI n) = _
    rw [qX11_rightsOf_L4, hp.z1, if_pos (Int32.le_refl _)]
theorem ord_cong {n : Nat} {p : Nat} {out out2 place place2 : Nat → Int32} (h : Ord n out place p) (h12 : n ≤ 12) (ha : ∀ k, k < 12 → out2 k = out k) (hb : ∀ k, k < 12 → place2 k = place k) : Ord n out2 place2 p := by
  have hpn := h.pn
  refine ⟨hpn, ?_, ?_⟩
  · intro k hk
    obtain ⟨o, h1, h2, h3⟩ := h.inn k hk
    exact ⟨o, h1, by rw [ha k (by omega), h2], by rw [hb o (by omega), h3]⟩
  · intro o ho
    rcases h.plc o ho with e | ⟨k, h1, h2, h3⟩
    · exact Or.inl (by rw [hb o (by omega), e])
    · exact Or.inr ⟨k, h1, by rw [hb o (by omega), h2], by rw [ha k (by omega), h3]⟩
def lnW (w : Nat → Nat → Int32) : Nat → Nat → Int32 := va_up (va_up (va_up w 22 (kcpy 12 (w 25) (w 22))) 23 (kcpy 12 (w 26) (w 23))) 24 (fun _ => w 27 0)
def lnR (r : Nat → Int32) (p : Nat) : Nat → Int32 := lfold (fun k u => upd u (39 + k) (u (27 + k))) 0 p (upd r 13 (nI p))
theorem lnR_c {r : Nat → Int32} {p : Nat} (hp : p ≤ 12) : (∀ i, i < 39 ∨ 51 ≤ i → lnR r p i = upd r 13 (nI p) i) ∧ (∀ i, i < p → lnR r p (39 + i) = r (27 + i)) := by
  have := lfold_inv (f := fun k (u : Nat → Int32) => upd u (39 + k) (u (27 + k))) (fun k u => k ≤ p → (∀ i, i < 39 ∨ 51 ≤ i → u i = upd r 13 (nI p) i) ∧ (∀ i, i < k → u (39 + i) = r (27 + i))) p 0 (upd r 13 (nI p)) (fun _ => ⟨fun i _ => rfl, fun i hi => by omega⟩) (by
    intro k u _ hk ih hk1
    obtain ⟨g1, g2⟩ := ih (by omega)
    refine ⟨fun i hi => ?_, fun i hi => ?_⟩
    · show upd u (39 + k) (u (27 + k)) i = _
      rw [upd_n (by omega), g1 i hi]
    · show upd u (39 + k) (u (27 + k)) (39 + i) = _
      by_cases e : i = k
      · subst e
        rw [upd_s, g1 _ (by omega), upd_n (by omega)]
      · rw [upd_n (by omega), g2 i (by omega)])
  rw [Nat.zero_add] at this
  exact this (Nat.le_refl _)
theorem ln_ev {v : Nat → Nat → Int32} {w : Nat → Nat → Int32} {r : Nat → Int32} {n : Nat} {t : Nat} {s : Nat} {c : Nat} {p : Nat} {l : Nat} {f : Nat} {pk : Int32 × Int32} (h : Ev v n t s c p l f pk w r) (h12 : n ≤ 12) (hpp : p ≤ 12) : Ev v n t s c p p f pk (lnW w) (lnR r p) := by
  obtain ⟨hA, hB⟩ := lnR_c (r := r) hpp
  exact ⟨(by first | exact h.tick | (simp (disch := omega) only [lnW, va_n, va_s, hA, upd_n, upd_s]; exact h.tick) | (simp (disch := omega) only [lnW, va_n, va_s, hA, upd_n, upd_s]; done)),
    (by first | exact h.tickr | (simp (disch := omega) only [lnW, va_n, va_s, hA, upd_n, upd_s]; exact h.tickr) | (simp (disch := omega) only [lnW, va_n, va_s, hA, upd_n, upd_s]; done)),
    (by first | exact h.dark | (simp (disch := omega) only [lnW, va_n, va_s, hA, upd_n, upd_s]; exact h.dark) | (simp (disch := omega) only [lnW, va_n, va_s, hA, upd_n, upd_s]; done)),
    (by first | exact h.fuse | (simp (disch := omega) only [lnW, va_n, va_s, hA, upd_n, upd_s]; exact h.fuse) | (simp (disch := omega) only [lnW, va_n, va_s, hA, upd_n, upd_s]; done)),
    (by first | exact h.fuser | (simp (disch := omega) only [lnW, va_n, va_s, hA, upd_n, upd_s]; exact h.fuser) | (simp (disch := omega) only [lnW, va_n, va_s, hA, upd_n, upd_s]; done)),
    (by first | exact h.retry | (simp (disch := omega) only [lnW, va_n, va_s, hA, upd_n, upd_s]; exact h.retry) | (simp (disch := omega) only [lnW, va_n, va_s, hA, upd_n, upd_s]; done)),
    (by first | exact h.strict | (simp (disch := omega) only [lnW, va_n, va_s, hA, upd_n, upd_s]; exact h.strict) | (simp (disch := omega) only [lnW, va_n, va_s, hA, upd_n, upd_s]; done)),
    (by first | exact h.blk | (simp (disch := omega) only [lnW, va_n, va_s, hA, upd_n, upd_s]; exact h.blk) | (simp (disch := omega) only [lnW, va_n, va_s, hA, upd_n, upd_s]; done)),
    (by first | exact h.trips | (simp (disch := omega) only [lnW, va_n, va_s, hA, upd_n, upd_s]; exact h.trips) | (simp (disch := omega) only [lnW, va_n, va_s, hA, upd_n, upd_s]; done)),
    (by first | exact h.peak | (simp (disch := omega) only [lnW, va_n, va_s, hA, upd_n, upd_s]; exact h.peak) | (simp (disch := omega) only [lnW, va_n, va_s, hA, upd_n, upd_s]; done)),
    (by first | exact h.peakr | (simp (disch := omega) only [lnW, va_n, va_s, hA, upd_n, upd_s]; exact h.peakr) | (simp (disch := omega) only [lnW, va_n, va_s, hA, upd_n, upd_s]; done)),
    (by first | exact h.pat | (simp (disch := omega) only [lnW, va_n, va_s, hA, upd_n, upd_s]; exact h.pat) | (simp (disch := omega) only [lnW, va_n, va_s, hA, upd_n, upd_s]; done)),
    (by first | exact h.wait | (simp (disch := omega) only [lnW, va_n, va_s, hA, upd_n, upd_s]; exact h.wait) | (simp (disch := omega) only [lnW, va_n, va_s, hA, upd_n, upd_s]; done)),
    (by first | exact h.waitr | (simp (disch := omega) only [lnW, va_n, va_s, hA, upd_n, upd_s]; exact h.waitr) | (simp (disch := omega) only [lnW, va_n, va_s, hA, upd_n, upd_s]; done)),
    (by first | exact h.sent | (simp (disch := omega) only [lnW, va_n, va_s, hA, upd_n, upd_s]; exact h.sent) | (simp (disch := omega) only [lnW, va_n, va_s, hA, upd_n, upd_s]; done)),
    (by first | exact h.sentr | (simp (disch := omega) only [lnW, va_n, va_s, hA, upd_n, upd_s]; exact h.sentr) | (simp (disch := omega) only [lnW, va_n, va_s, hA, upd_n, upd_s]; done)),
    (by first | exact h.clear | (simp (disch := omega) only [lnW, va_n, va_s, hA, upd_n, upd_s]; exact h.clear) | (simp (disch := omega) only [lnW, va_n, va_s, hA, upd_n, upd_s]; done)),
    (by first | exact h.pm | (simp (disch := omega) only [lnW, va_n, va_s, hA, upd_n, upd_s]; exact h.pm) | (simp (disch := omega) only [lnW, va_n, va_s, hA, upd_n, upd_s]; done)),
    (by first | exact h.pmr | (simp (disch := omega) only [lnW, va_n, va_s, hA, upd_n, upd_s]; exact h.pmr) | (simp (disch := omega) only [lnW, va_n, va_s, hA, upd_n, upd_s]; done)),
    (by
      simp (disch := omega) only [lnW, va_n, va_s, hA, upd_n, upd_s]
      exact h.pm),
    (by simp (disch := omega) only [lnW, va_n, va_s, hA, upd_n, upd_s]),
    (by first | exact h.lost | (simp (disch := omega) only [lnW, va_n, va_s, hA, upd_n, upd_s]; exact h.lost) | (simp (disch := omega) only [lnW, va_n, va_s, hA, upd_n, upd_s]; done)),
    (fun k hk => by first | exact h.sby k hk | (simp (disch := omega) only [lnW, va_n, va_s, hA, upd_n, upd_s]; exact h.sby k (by omega))),
    (fun k hk => by first | exact h.lby k hk | (simp (disch := omega) only [lnW, va_n, va_s, hA, upd_n, upd_s]; exact h.lby k (by omega))),
    (fun o ho => by first | exact h.prio o ho | (simp (disch := omega) only [lnW, va_n, va_s, hA, upd_n, upd_s]; exact h.prio o ho)),
    (fun o ho => by first | exact h.wants o ho | (simp (disch := omega) only [lnW, va_n, va_s, hA, upd_n, upd_s]; exact h.wants o ho)),
    (fun o ho => by first | exact h.how o ho | (simp (disch := omega) only [lnW, va_n, va_s, hA, upd_n, upd_s]; exact h.how o ho)),
    (fun o ho => by first | exact h.left o ho | (simp (disch := omega) only [lnW, va_n, va_s, hA, upd_n, upd_s]; exact h.left o ho)),
    (fun o ho => by first | exact h.starts o ho | (simp (disch := omega) only [lnW, va_n, va_s, hA, upd_n, upd_s]; exact h.starts o ho)),
    (fun o ho => by first | exact h.ran o ho | (simp (disch := omega) only [lnW, va_n, va_s, hA, upd_n, upd_s]; exact h.ran o ho)),
    (fun o ho hw => by first | exact h.asked o ho hw | (simp (disch := omega) only [lnW, va_n, va_s, hA, upd_n, upd_s] at hw ⊢; exact h.asked o ho hw) | (simp (disch := omega) only [lnW, va_n, va_s, hA, upd_n, upd_s]; exact h.asked o ho hw)),
    (fun o ho => by first | exact h.stop o ho | (simp (disch := omega) only [lnW, va_n, va_s, hA, upd_n, upd_s]; exact h.stop o ho)),
    (fun o ho => by first | exact h.poll o ho | (simp (disch := omega) only [lnW, va_n, va_s, hA, upd_n, upd_s]; exact h.poll o ho)),
    (fun o ho => by first | exact h.mark o ho | (simp (disch := omega) only [lnW, va_n, va_s, hA, upd_n, upd_s]; exact h.mark o ho)),
    (fun o ho => by first | exact h.time o ho | (simp (disch := omega) only [lnW, va_n, va_s, hA, upd_n, upd_s]; exact h.time o ho)),
    (fun o ho => by first | exact h.known o ho | (simp (disch := omega) only [lnW, va_n, va_s, hA, upd_n, upd_s]; exact h.known o ho)),
    (fun o ho => by first | exact h.exp o ho | (simp (disch := omega) only [lnW, va_n, va_s, hA, upd_n, upd_s]; exact h.exp o ho)),
    (fun o ho1 ho2 => by first | exact h.knz o ho1 ho2 | (simp (disch := omega) only [lnW, va_n, va_s, hA, upd_n, upd_s]; exact h.knz o ho1 ho2)),
    (fun k hk => by first | exact h.msg k hk | (simp (disch := omega) only [lnW, va_n, va_s, hA, upd_n, upd_s]; exact h.msg k (by omega))),
    (fun k hk => by first | exact h.pres k hk | (simp (disch := omega) only [lnW, va_n, va_s, hA, upd_n, upd_s]; exact h.pres k (by omega))),
    (fun k hk => by
      simp (disch := omega) only [lnW, va_n, va_s]
      show kcpy 12 (w 25) (w 22) k = _
      unfold kcpy
      rw [if_pos (by omega), hB k hk]
      exact h.pres k hk)⟩
theorem ln_iv {w : Nat → Nat → Int32} {n : Nat} {t : Nat} {s : Nat} {c : Nat} {p : Nat} {l : Nat} {f : Nat} (hi : Iv n t s c p l f w) : Iv n t s c p p f (lnW w) :=
  ⟨(by first | exact hi.n12 | (simp (disch := omega) only [lnW, va_n, va_s, upd_n, upd_s]; exact hi.n12) | (have := hi.n12; omega)),
    (by first | exact hi.tb | (simp (disch := omega) only [lnW, va_n, va_s, upd_n, upd_s]; exact hi.tb) | (have := hi.tb; omega)),
    (by first | exact hi.sb | (simp (disch := omega) only [lnW, va_n, va_s, upd_n, upd_s]; exact hi.sb) | (have := hi.sb; omega)),
    (by first | exact hi.cb | (simp (disch := omega) only [lnW, va_n, va_s, upd_n, upd_s]; exact hi.cb) | (have := hi.cb; omega)),
    (by first | exact hi.fb | (simp (disch := omega) only [lnW, va_n, va_s, upd_n, upd_s]; exact hi.fb) | (have := hi.fb; omega)),
    (fun o ho => by first | exact hi.st o ho | (simp (disch := omega) only [lnW, va_n, va_s, upd_n, upd_s]; exact hi.st o ho)),
    (fun o ho => by first | exact hi.mk o ho | (simp (disch := omega) only [lnW, va_n, va_s, upd_n, upd_s]; exact hi.mk o ho)),
    (fun o ho hw => by first | exact hi.idle o ho hw | (simp (disch := omega) only [lnW, va_n, va_s, upd_n, upd_s] at hw ⊢; exact hi.idle o ho hw) | (simp (disch := omega) only [lnW, va_n, va_s, upd_n, upd_s]; exact hi.idle o ho hw)),
    (by first | exact hi.s01 | (simp (disch := omega) only [lnW, va_n, va_s, upd_n, upd_s]; exact hi.s01) | (have := hi.s01; omega)),
    (by first | exact hi.c01 | (simp (disch := omega) only [lnW, va_n, va_s, upd_n, upd_s]; exact hi.c01) | (have := hi.c01; omega)),
    (fun k hk => by first | exact hi.msg k hk | (simp (disch := omega) only [lnW, va_n, va_s, upd_n, upd_s]; exact hi.msg k hk)),
    (by first | exact hi.ordP | (simp (disch := omega) only [lnW, va_n, va_s, upd_n, upd_s]; exact hi.ordP)),
    (by
      simp (disch := omega) only [lnW, va_n, va_s]
      exact ord_cong hi.ordP hi.n12 (fun k hk => if_pos hk) (fun k hk => if_pos hk)),
    (fun i h1 h2 => by first | exact hi.kn i h1 h2 | (simp (disch := omega) only [lnW, va_n, va_s, upd_n, upd_s]; exact hi.kn i h1 h2))⟩
theorem learn_e {v : Nat → Nat → Int32} {z : Nat → Nat → Int32} {w : Nat → Nat → Int32} {r : Nat → Int32} {n : Nat} {t : Nat} {s : Nat} {c : Nat} {p : Nat} {l : Nat} {f : Nat} {pk : Int32 × Int32} (hp : Pl v z n) (h : Ev v n t s c p l f pk w r) (hi : Iv n t s c p l f w) : ∃ w2 r2 l2, qX3_learnOrder v w (rgt v w n f) = some w2 ∧ qX11_learns z r = some r2 ∧ Ev v n t s c p l2 f pk w2 r2 ∧ Iv n t s c p l2 f w2 := by
  have hn := hp.hn
  have hpp := hi.ordP.pn
  unfold qX3_learnOrder qX11_learns
  rw [rightsOf_e hp h, bd_s, markedWith_e hp, bd_s, withMark_e hp h, bd_s]
  by_cases e : rgt v w n f = 0
  · rw [if_pos e, if_pos e]
    exact ⟨w, r, l, rfl, rfl, h, hi⟩
  · rw [if_neg e, if_neg e]
    by_cases e2 : rgt v w n f &&& (bset n (fun k => decide (w 18 k = 3)) ^^^ (-1)) = 0
    · rw [if_pos e2, if_pos e2]
      refine ⟨lnW w, lnR r p, p, ?_, ?_, ln_ev h hn (by omega), ln_iv hi⟩
      · unfold qX1_copyFrom_lp lnW
        simp (disch := omega) only [bs_e, bd_s, va_n]
      · rw [bs_e, h.pmr]
        unfold lnR
        refine lp (L := fun g i u => qX11_learns_L36 z (fun (rw_6 : Nat → Int32) => some rw_6) g i u) (N := p) (K := fun u => some u) (fun _ u => u 12 = nI p) ?_ ?_ p fu 0 _ (by omega) (by unfold fu; omega) ?_
        · intro g k u hk hu
          refine ⟨?_, ?_⟩
          · show qX11_learns_L36 z _ (g + 1) (nI k) u = _
            rw [qX11_learns_L36, hu, if_neg (nle hk (by omega)), p27, p39, gdn (by omega) (by omega), gdn (by omega) (by omega), cl (by omega), cl (by omega), bs_e, p1]
          · rw [upd_n (by omega), hu]
        · intro g u hu
          show qX11_learns_L36 z _ (g + 1) (nI p) u = _
          rw [qX11_learns_L36, hu, if_pos (Int32.le_refl _)]
        · rw [upd_n (by omega), h.pmr]
    · rw [if_neg e2, if_neg e2]
      exact ⟨w, r, l, rfl, rfl, h, hi⟩
