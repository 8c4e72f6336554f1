-- a world is copied
def Ag (w u : Nat → Nat → Int32) : Prop :=
  (u 0 0 = w 0 0) ∧
  (u 1 0 = w 1 0) ∧
  (u 2 0 = w 2 0) ∧
  (u 3 0 = w 3 0) ∧
  (u 4 0 = w 4 0) ∧
  (u 5 0 = w 5 0) ∧
  (u 6 0 = w 6 0) ∧
  (u 7 0 = w 7 0) ∧
  (u 16 0 = w 16 0) ∧
  (u 17 0 = w 17 0) ∧
  (u 21 0 = w 21 0) ∧
  (u 24 0 = w 24 0) ∧
  (u 27 0 = w 27 0) ∧
  (u 31 0 = w 31 0) ∧
  (u 34 0 = w 34 0) ∧
  (u 35 0 = w 35 0) ∧
  (∀ k, k < 12 → u 10 k = w 10 k) ∧
  (∀ k, k < 12 → u 11 k = w 11 k) ∧
  (∀ k, k < 12 → u 12 k = w 12 k) ∧
  (∀ k, k < 12 → u 13 k = w 13 k) ∧
  (∀ k, k < 12 → u 14 k = w 14 k) ∧
  (∀ k, k < 12 → u 15 k = w 15 k) ∧
  (∀ k, k < 12 → u 18 k = w 18 k) ∧
  (∀ k, k < 12 → u 19 k = w 19 k) ∧
  (∀ k, k < 12 → u 20 k = w 20 k) ∧
  (∀ k, k < 12 → u 22 k = w 22 k) ∧
  (∀ k, k < 12 → u 23 k = w 23 k) ∧
  (∀ k, k < 12 → u 25 k = w 25 k) ∧
  (∀ k, k < 12 → u 26 k = w 26 k) ∧
  (∀ k, k < 72 → u 28 k = w 28 k) ∧
  (∀ k, k < 72 → u 29 k = w 29 k) ∧
  (∀ k, k < 72 → u 30 k = w 30 k) ∧
  (∀ k, k < 6 → u 32 k = w 32 k) ∧
  (∀ k, k < 6 → u 33 k = w 33 k)
theorem Ag.s0 {w u : Nat → Nat → Int32} (h : Ag w u) : u 0 0 = w 0 0 := h.1
theorem Ag.s1 {w u : Nat → Nat → Int32} (h : Ag w u) : u 1 0 = w 1 0 := h.2.1
theorem Ag.s2 {w u : Nat → Nat → Int32} (h : Ag w u) : u 2 0 = w 2 0 := h.2.2.1
theorem Ag.s3 {w u : Nat → Nat → Int32} (h : Ag w u) : u 3 0 = w 3 0 := h.2.2.2.1
theorem Ag.s4 {w u : Nat → Nat → Int32} (h : Ag w u) : u 4 0 = w 4 0 := h.2.2.2.2.1
theorem Ag.s5 {w u : Nat → Nat → Int32} (h : Ag w u) : u 5 0 = w 5 0 := h.2.2.2.2.2.1
theorem Ag.s6 {w u : Nat → Nat → Int32} (h : Ag w u) : u 6 0 = w 6 0 := h.2.2.2.2.2.2.1
theorem Ag.s7 {w u : Nat → Nat → Int32} (h : Ag w u) : u 7 0 = w 7 0 := h.2.2.2.2.2.2.2.1
theorem Ag.s16 {w u : Nat → Nat → Int32} (h : Ag w u) : u 16 0 = w 16 0 := h.2.2.2.2.2.2.2.2.1
theorem Ag.s17 {w u : Nat → Nat → Int32} (h : Ag w u) : u 17 0 = w 17 0 := h.2.2.2.2.2.2.2.2.2.1
theorem Ag.s21 {w u : Nat → Nat → Int32} (h : Ag w u) : u 21 0 = w 21 0 := h.2.2.2.2.2.2.2.2.2.2.1
theorem Ag.s24 {w u : Nat → Nat → Int32} (h : Ag w u) : u 24 0 = w 24 0 := h.2.2.2.2.2.2.2.2.2.2.2.1
theorem Ag.s27 {w u : Nat → Nat → Int32} (h : Ag w u) : u 27 0 = w 27 0 := h.2.2.2.2.2.2.2.2.2.2.2.2.1
theorem Ag.s31 {w u : Nat → Nat → Int32} (h : Ag w u) : u 31 0 = w 31 0 := h.2.2.2.2.2.2.2.2.2.2.2.2.2.1
theorem Ag.s34 {w u : Nat → Nat → Int32} (h : Ag w u) : u 34 0 = w 34 0 := h.2.2.2.2.2.2.2.2.2.2.2.2.2.2.1
theorem Ag.s35 {w u : Nat → Nat → Int32} (h : Ag w u) : u 35 0 = w 35 0 := h.2.2.2.2.2.2.2.2.2.2.2.2.2.2.2.1
theorem Ag.r10 {w u : Nat → Nat → Int32} (h : Ag w u) : ∀ k, k < 12 → u 10 k = w 10 k := h.2.2.2.2.2.2.2.2.2.2.2.2.2.2.2.2.1
theorem Ag.r11 {w u : Nat → Nat → Int32} (h : Ag w u) : ∀ k, k < 12 → u 11 k = w 11 k := h.2.2.2.2.2.2.2.2.2.2.2.2.2.2.2.2.2.1
theorem Ag.r12 {w u : Nat → Nat → Int32} (h : Ag w u) : ∀ k, k < 12 → u 12 k = w 12 k := h.2.2.2.2.2.2.2.2.2.2.2.2.2.2.2.2.2.2.1
theorem Ag.r13 {w u : Nat → Nat → Int32} (h : Ag w u) : ∀ k, k < 12 → u 13 k = w 13 k := h.2.2.2.2.2.2.2.2.2.2.2.2.2.2.2.2.2.2.2.1
theorem Ag.r14 {w u : Nat → Nat → Int32} (h : Ag w u) : ∀ k, k < 12 → u 14 k = w 14 k := h.2.2.2.2.2.2.2.2.2.2.2.2.2.2.2.2.2.2.2.2.1
theorem Ag.r15 {w u : Nat → Nat → Int32} (h : Ag w u) : ∀ k, k < 12 → u 15 k = w 15 k := h.2.2.2.2.2.2.2.2.2.2.2.2.2.2.2.2.2.2.2.2.2.1
theorem Ag.r18 {w u : Nat → Nat → Int32} (h : Ag w u) : ∀ k, k < 12 → u 18 k = w 18 k := h.2.2.2.2.2.2.2.2.2.2.2.2.2.2.2.2.2.2.2.2.2.2.1
theorem Ag.r19 {w u : Nat → Nat → Int32} (h : Ag w u) : ∀ k, k < 12 → u 19 k = w 19 k := h.2.2.2.2.2.2.2.2.2.2.2.2.2.2.2.2.2.2.2.2.2.2.2.1
theorem Ag.r20 {w u : Nat → Nat → Int32} (h : Ag w u) : ∀ k, k < 12 → u 20 k = w 20 k := h.2.2.2.2.2.2.2.2.2.2.2.2.2.2.2.2.2.2.2.2.2.2.2.2.1
theorem Ag.r22 {w u : Nat → Nat → Int32} (h : Ag w u) : ∀ k, k < 12 → u 22 k = w 22 k := h.2.2.2.2.2.2.2.2.2.2.2.2.2.2.2.2.2.2.2.2.2.2.2.2.2.1
theorem Ag.r23 {w u : Nat → Nat → Int32} (h : Ag w u) : ∀ k, k < 12 → u 23 k = w 23 k := h.2.2.2.2.2.2.2.2.2.2.2.2.2.2.2.2.2.2.2.2.2.2.2.2.2.2.1
theorem Ag.r25 {w u : Nat → Nat → Int32} (h : Ag w u) : ∀ k, k < 12 → u 25 k = w 25 k := h.2.2.2.2.2.2.2.2.2.2.2.2.2.2.2.2.2.2.2.2.2.2.2.2.2.2.2.1
theorem Ag.r26 {w u : Nat → Nat → Int32} (h : Ag w u) : ∀ k, k < 12 → u 26 k = w 26 k := h.2.2.2.2.2.2.2.2.2.2.2.2.2.2.2.2.2.2.2.2.2.2.2.2.2.2.2.2.1
theorem Ag.r28 {w u : Nat → Nat → Int32} (h : Ag w u) : ∀ k, k < 72 → u 28 k = w 28 k := h.2.2.2.2.2.2.2.2.2.2.2.2.2.2.2.2.2.2.2.2.2.2.2.2.2.2.2.2.2.1
theorem Ag.r29 {w u : Nat → Nat → Int32} (h : Ag w u) : ∀ k, k < 72 → u 29 k = w 29 k := h.2.2.2.2.2.2.2.2.2.2.2.2.2.2.2.2.2.2.2.2.2.2.2.2.2.2.2.2.2.2.1
theorem Ag.r30 {w u : Nat → Nat → Int32} (h : Ag w u) : ∀ k, k < 72 → u 30 k = w 30 k := h.2.2.2.2.2.2.2.2.2.2.2.2.2.2.2.2.2.2.2.2.2.2.2.2.2.2.2.2.2.2.2.1
theorem Ag.r32 {w u : Nat → Nat → Int32} (h : Ag w u) : ∀ k, k < 6 → u 32 k = w 32 k := h.2.2.2.2.2.2.2.2.2.2.2.2.2.2.2.2.2.2.2.2.2.2.2.2.2.2.2.2.2.2.2.2.1
theorem Ag.r33 {w u : Nat → Nat → Int32} (h : Ag w u) : ∀ k, k < 6 → u 33 k = w 33 k := h.2.2.2.2.2.2.2.2.2.2.2.2.2.2.2.2.2.2.2.2.2.2.2.2.2.2.2.2.2.2.2.2.2
theorem kcl {N : Nat} {a b : Nat → Int32} {j : Nat} (h : j < N) : kcpy N a b j = a j := if_pos h
theorem bo_g {x : Int32} (h : x = 0 ∨ x = 1) : narrow .boolean (.int x) = .int x ∧ fits .boolean (.int x) = true := by
  rcases h with e | e <;> subst e <;> exact ⟨rfl, rfl⟩
theorem copy_e {w : Nat → Nat → Int32} {w2 : Nat → Nat → Int32} (h4 : w 4 0 = 0 ∨ w 4 0 = 1) (h35 : w 35 0 = 0 ∨ w 35 0 = 1) : ∃ u, qX10_copyState w w2 = some u ∧ Ag w u := by
  unfold qX10_copyState qX2_copyFrom qX3_copyFrom qX1_copyFrom_l qX1_copyFrom_p qX8_copyFrom
  simp only [bs_e, bd_s]
  rw [gd_t (bo_g h4), gd_t (bo_g h35)]
  refine ⟨_, rfl, ?_, ?_, ?_, ?_, ?_, ?_, ?_, ?_, ?_, ?_, ?_, ?_, ?_, ?_, ?_, ?_, ?_, ?_, ?_, ?_, ?_, ?_, ?_, ?_, ?_, ?_, ?_, ?_, ?_, ?_, ?_, ?_, ?_, ?_⟩
  · simp (disch := omega) only [va_n, va_s]
  · simp (disch := omega) only [va_n, va_s]
  · simp (disch := omega) only [va_n, va_s]
  · simp (disch := omega) only [va_n, va_s]
  · simp (disch := omega) only [va_n, va_s]
  · simp (disch := omega) only [va_n, va_s]
  · simp (disch := omega) only [va_n, va_s]
  · simp (disch := omega) only [va_n, va_s]
  · simp (disch := omega) only [va_n, va_s]
  · simp (disch := omega) only [va_n, va_s]
  · simp (disch := omega) only [va_n, va_s]
  · simp (disch := omega) only [va_n, va_s]
  · simp (disch := omega) only [va_n, va_s]
  · simp (disch := omega) only [va_n, va_s]
  · simp (disch := omega) only [va_n, va_s]
  · simp (disch := omega) only [va_n, va_s]
  · intro k hk
    simp (disch := omega) only [va_n, va_s, kcl]
  · intro k hk
    simp (disch := omega) only [va_n, va_s, kcl]
  · intro k hk
    simp (disch := omega) only [va_n, va_s, kcl]
  · intro k hk
    simp (disch := omega) only [va_n, va_s, kcl]
  · intro k hk
    simp (disch := omega) only [va_n, va_s, kcl]
  · intro k hk
    simp (disch := omega) only [va_n, va_s, kcl]
  · intro k hk
    simp (disch := omega) only [va_n, va_s, kcl]
  · intro k hk
    simp (disch := omega) only [va_n, va_s, kcl]
  · intro k hk
    simp (disch := omega) only [va_n, va_s, kcl]
  · intro k hk
    simp (disch := omega) only [va_n, va_s, kcl]
  · intro k hk
    simp (disch := omega) only [va_n, va_s, kcl]
  · intro k hk
    simp (disch := omega) only [va_n, va_s, kcl]
  · intro k hk
    simp (disch := omega) only [va_n, va_s, kcl]
  · intro k hk
    simp (disch := omega) only [va_n, va_s, kcl]
  · intro k hk
    simp (disch := omega) only [va_n, va_s, kcl]
  · intro k hk
    simp (disch := omega) only [va_n, va_s, kcl]
  · intro k hk
    simp (disch := omega) only [va_n, va_s, kcl]
  · intro k hk
    simp (disch := omega) only [va_n, va_s, kcl]
theorem cp_ev {v : Nat → Nat → Int32} {w : Nat → Nat → Int32} {r : Nat → Int32} {n : Nat} {t : Nat} {s : Nat} {c : Nat} {p : Nat} {l : Nat} {f : Nat} {pk : Int32 × Int32} {u : Nat → Nat → Int32} {ur : Nat → Int32} (h : Ev v n t s c p l f pk w r) (hi : Iv n t s c p l f w) (ha : Ag w u) (hr : ∀ i, i < 411 → ur i = r i) : Ev v n t s c p l f pk u ur := by
  have h12 := hi.n12
  have hpp := hi.ordP.pn
  have hll := hi.ordL.pn
  have hcb := hi.cb
  exact ⟨(by rw [ha.s0]; exact h.tick),
    (by rw [hr 0 (by omega)]; exact h.tickr),
    (by rw [ha.s1, hr 1 (by omega)]; exact h.dark),
    (by rw [ha.s2]; exact h.fuse),
    (by rw [hr 6 (by omega)]; exact h.fuser),
    (by rw [ha.s3, hr 7 (by omega)]; exact h.retry),
    (by rw [ha.s4, hr 9 (by omega)]; exact h.strict),
    (by rw [ha.s5, hr 2 (by omega)]; exact h.blk),
    (by rw [ha.s6, hr 3 (by omega)]; exact h.trips),
    (by rw [ha.s7]; exact h.peak),
    (by rw [hr 10 (by omega)]; exact h.peakr),
    (by rw [hr 8 (by omega)]; exact h.pat),
    (by rw [ha.s31]; exact h.wait),
    (by rw [hr 11 (by omega)]; exact h.waitr),
    (by rw [ha.s34]; exact h.sent),
    (by rw [hr 4 (by omega)]; exact h.sentr),
    (by rw [ha.s35, hr 14 (by omega)]; exact h.clear),
    (by rw [ha.s27]; exact h.pm),
    (by rw [hr 12 (by omega)]; exact h.pmr),
    (by rw [ha.s24]; exact h.lm),
    (by rw [hr 13 (by omega)]; exact h.lmr),
    (by rw [hr 5 (by omega), ha.r33 0 (by omega), ha.r33 1 (by omega), ha.r33 2 (by omega), ha.r33 3 (by omega), ha.r33 4 (by omega), ha.r33 5 (by omega)]; exact h.lost),
    (fun k hk => by rw [ha.r32 k hk, hr _ (by omega)]; exact h.sby k hk),
    (fun k hk => by rw [ha.r33 k hk, hr _ (by omega)]; exact h.lby k hk),
    (fun k hk => by rw [ha.r10 k (by omega), hr _ (by omega)]; exact h.prio k hk),
    (fun k hk => by rw [hr _ (by omega), ha.r11 k (by omega)]; exact h.wants k hk),
    (fun k hk => by rw [ha.r11 k (by omega), hr _ (by omega)]; exact h.how k hk),
    (fun k hk => by rw [ha.r12 k (by omega), hr _ (by omega)]; exact h.left k hk),
    (fun k hk => by rw [ha.r13 k (by omega), hr _ (by omega)]; exact h.starts k hk),
    (fun k hk => by rw [ha.r14 k (by omega), hr _ (by omega)]; exact h.ran k hk),
    (fun k hk hw => by rw [ha.r11 k (by omega)] at hw; rw [ha.r15 k (by omega), hr _ (by omega)]; exact h.asked k hk hw),
    (fun k hk => by rw [hr _ (by omega), ha.s16]; exact h.stop k hk),
    (fun k hk => by rw [hr _ (by omega), ha.s17]; exact h.poll k hk),
    (fun k hk => by rw [ha.r18 k (by omega), hr _ (by omega)]; exact h.mark k hk),
    (fun k hk => by rw [ha.r19 k (by omega), hr _ (by omega)]; exact h.time k hk),
    (fun k hk => by rw [hr _ (by omega), ha.s21]; exact h.known k hk),
    (fun k hk => by rw [ha.r20 k (by omega), ha.s21]; exact h.exp k hk),
    (fun o h1 h2 => by rw [hr _ (by omega)]; exact h.knz o h1 h2),
    (fun k hk => by rw [ha.r28 k (by omega), ha.r29 k (by omega), ha.r30 k (by omega), hr _ (by omega), hr _ (by omega), hr _ (by omega)]; exact h.msg k hk),
    (fun k hk => by rw [ha.r25 k (by omega), hr _ (by omega)]; exact h.pres k hk),
    (fun k hk => by rw [ha.r22 k (by omega), hr _ (by omega)]; exact h.lear k hk)⟩
theorem cp_iv {w : Nat → Nat → Int32} {n : Nat} {t : Nat} {s : Nat} {c : Nat} {p : Nat} {l : Nat} {f : Nat} {u : Nat → Nat → Int32} (hi : Iv n t s c p l f w) (ha : Ag w u) : Iv n t s c p l f u := by
  have h12 := hi.n12
  have hcb := hi.cb
  exact ⟨hi.n12,
    hi.tb,
    hi.sb,
    hi.cb,
    hi.fb,
    (fun k hk => by rw [ha.r11 k (by omega)]; exact hi.st k hk),
    (fun k hk => by rw [ha.r18 k (by omega)]; exact hi.mk k hk),
    (fun k hk hw => by rw [ha.r11 k (by omega)] at hw; rw [ha.r12 k (by omega)]; exact hi.idle k hk hw),
    (by rw [ha.s4]; exact hi.s01),
    (by rw [ha.s35]; exact hi.c01),
    (fun k hk => by rw [ha.r28 k (by omega), ha.r29 k (by omega), ha.r30 k (by omega)]; exact hi.msg k hk),
    (ord_cong hi.ordP h12 ha.r25 ha.r26),
    (ord_cong hi.ordL h12 ha.r22 ha.r23),
    (fun i h1 h2 => by rw [ha.s21]; exact hi.kn i h1 h2)⟩
theorem sw_cong {v : Nat → Nat → Int32} {w : Nat → Nat → Int32} {r : Nat → Int32} {n : Nat} {t : Nat} {f : Nat} {pk : Int32 × Int32} {u : Nat → Nat → Int32} {ur : Nat → Int32} (h : Sw v n t f pk w r) (ha : Ag w u) (hr : ∀ i, i < 411 → ur i = r i) : Sw v n t f pk u ur := by
  obtain ⟨s, c, p, l, h1, h2, h3, h4⟩ := h
  exact ⟨s, c, p, l, cp_ev h1 h2 ha hr, cp_iv h2 ha, h3, h4⟩
theorem sw_copy {v : Nat → Nat → Int32} {w : Nat → Nat → Int32} {r : Nat → Int32} {n : Nat} {t : Nat} {f : Nat} {pk : Int32 × Int32} {w2 : Nat → Nat → Int32} {ur : Nat → Int32} (h : Sw v n t f pk w r) (hr : ∀ i, i < 411 → ur i = r i) : ∃ u, qX10_copyState w w2 = some u ∧ Sw v n t f pk u ur := by
  obtain ⟨s, c, p, l, h1, h2, h3, h4⟩ := h
  obtain ⟨u, e1, e2⟩ := copy_e (w2 := w2) h2.s01 h2.c01
  exact ⟨u, e1, s, c, p, l, cp_ev h1 h2 e2 hr, cp_iv h2 e2, h3, h4⟩
