-- what is known at the start
set_option maxRecDepth 100000 in
theorem kN_t : ∀ w ∈ kN, w ∈ lw_tbl :=
  (List.forall_mem_cons.mpr ⟨(tj1 _ (List.mem_of_getElem? (i := 38) rfl)), (List.forall_mem_cons.mpr ⟨(tj3 _ (List.mem_of_getElem? (i := 99) rfl)), (List.forall_mem_cons.mpr ⟨(tj6 _ (List.mem_of_getElem? (i := 69) rfl)), (List.forall_mem_cons.mpr ⟨(tj3 _ (List.mem_of_getElem? (i := 114) rfl)), (List.forall_mem_cons.mpr ⟨(tj2 _ (List.mem_of_getElem? (i := 221) rfl)), (List.forall_mem_cons.mpr ⟨(tj2 _ (List.mem_of_getElem? (i := 233) rfl)), (List.forall_mem_cons.mpr ⟨(tj2 _ (List.mem_of_getElem? (i := 38) rfl)), (List.forall_mem_cons.mpr ⟨(tj3 _ (List.mem_of_getElem? (i := 4) rfl)), (List.forall_mem_cons.mpr ⟨(tj4 _ (List.mem_of_getElem? (i := 126) rfl)), (List.forall_mem_cons.mpr ⟨(tj4 _ (List.mem_of_getElem? (i := 174) rfl)), (List.forall_mem_cons.mpr ⟨(tj5 _ (List.mem_of_getElem? (i := 20) rfl)), (List.forall_mem_cons.mpr ⟨(tj3 _ (List.mem_of_getElem? (i := 119) rfl)), (List.forall_mem_cons.mpr ⟨(tj5 _ (List.mem_of_getElem? (i := 176) rfl)), (List.forall_mem_cons.mpr ⟨(tj5 _ (List.mem_of_getElem? (i := 90) rfl)), (fun _ h => absurd h List.not_mem_nil)⟩)⟩)⟩)⟩)⟩)⟩)⟩)⟩)⟩)⟩)⟩)⟩)⟩)⟩)
theorem kN_on : ∀ w ∈ kN, w.onTables = true := by decide +kernel
theorem kMsg_of {own tx : String} {k : Nat} {A : Array Value} {s : State} (h1 : (Cond.stringRef own k tx).before A s = true) (h2 : (Cond.exactly (.string own k) "java/lang/String").before A s = true) : ∃ sa : Nat, vk_R own k tx sa s := by
  obtain ⟨a, c, cA, kA, q1, -⟩ := Cond.exactly_spec (args := A) (first := s) (o := none) (s := s) (idx := []) (t := .string own k) (cls := "java/lang/String") h2
  exact ⟨a, vk_R.of h1 q1⟩
theorem nL {a b : Cond} {args : Array Value} {s : State} (h : (Cond.and a b).before args s = true) : a.before args s = true := by
  rw [Cond.before_and, Bool.and_eq_true] at h
  exact h.1
theorem nR {a b : Cond} {args : Array Value} {s : State} (h : (Cond.and a b).before args s = true) : b.before args s = true := by
  rw [Cond.before_and, Bool.and_eq_true] at h
  exact h.2
def kTm (i : Nat) : Term := .string RX4 (([76, 53, 62, 132, 141, 145, 149, 155, 160] : List Nat).getD i 0)
theorem va_OF_un {o n d : String} {v v2 : Value} {t : Nat} {A : Nat → Prop} {U : State} {H : Heap} (h : va_OF o n d v t A U H) (h2 : va_OF o n d v2 t A U H) : v = v2 := by
  obtain ⟨cf, k, i, f, cell, e1, -, e3, -, e5, -⟩ := h
  obtain ⟨cf2, k2, i2, f2, cell2, g1, -, g3, -, g5, -⟩ := h2
  cases e1.symm.trans g1
  cases e3.symm.trans g3
  exact Option.some.inj (e5.symm.trans g5)
theorem va_T_un {ty : FieldType} {t N N2 : Nat} {f f2 : Nat → Value} {A : Nat → Prop} {U : State} {H : Heap} (hN : N < 2 ^ 31) (hN2 : N2 < 2 ^ 31) (h : va_T ty t N f A U H) (h2 : va_T ty t N2 f2 A U H) : N = N2 ∧ (0 < N → f 0 = f2 0) := by
  obtain ⟨cell, e1, -, -, -, e5, e6, -⟩ := h
  obtain ⟨cell2, g1, -, -, -, g5, g6, -⟩ := h2
  cases e1.symm.trans g1
  have hn : N = N2 := by
    have h := congrArg Int32.toInt (e5.symm.trans g5)
    rw [show Int32.ofNat N = nI N from rfl, show Int32.ofNat N2 = nI N2 from rfl, nI_toInt hN, nI_toInt hN2] at h
    omega
  refine ⟨hn, fun h0 => ?_⟩
  exact Option.some.inj ((e6 0 h0).symm.trans (g6 0 (hn ▸ h0)))
theorem kStr_ne : ∀ i, i < 9 → ∀ j, j < 9 → i ≠ j → kLen.getD i 0 ≠ kLen.getD j 0 ∨ (0 < kLen.getD i 0 ∧ (kByt.getD i []).getD 0 0 ≠ (kByt.getD j []).getD 0 0) := by decide +kernel
/-- the String constants: apart, for their letters differ -/
theorem kStrings {args : Array Value} {s : State} {tm : Nat → Term} {A : Nat → Prop} (hex : ∀ i : Nat, i < 9 → (Cond.exactly (tm i) "java/lang/String").before args s = true) (hco : ∀ i : Nat, i < 9 → (Cond.eq (.field (tm i) "java/lang/String" "coder" "B") (.int 0)).before args s = true)
    (har : ∀ i : Nat, i < 9 → (Cond.arrayOf (.field (tm i) "java/lang/String" "value" "[B") .byte).before args s = true) (hle : ∀ i : Nat, i < 9 → (Cond.eq (.length (.field (tm i) "java/lang/String" "value" "[B")) (.int (Int32.ofNat (kLen.getD i 0)))).before args s = true)
    (hel : ∀ i : Nat, i < 9 → ∀ j : Nat, j < kLen.getD i 0 → (Cond.eq (.elem (.field (tm i) "java/lang/String" "value" "[B") (.int (Int32.ofNat j))) (.int ((kByt.getD i []).getD j 0))).before args s = true) (hA : ∀ a : Nat, a < s.heap.size → ¬ A a) :
    ∃ adK adV : Nat → Nat, vk_S 9 kLen kByt adK adV A s s.heap ∧ ∀ i : Nat, i < 9 → (tm i).eval args s none [] s = some (.ref (adK i)) := by
  have hN : ∀ i : Nat, i < 9 → kLen.getD i 0 < 2 ^ 31 := by decide +kernel
  have h0 : ∀ i : Nat, ∃ q : Nat × Nat, i < 9 → (tm i).eval args s none [] s = some (.ref q.1) ∧ va_O "java/lang/String" q.1 A s s.heap ∧ va_OF "java/lang/String" "coder" "B" (.int 0) q.1 A s s.heap ∧ va_OF "java/lang/String" "value" "[B" (.ref q.2) q.1 A s s.heap ∧ va_T .byte q.2 (kLen.getD i 0) (fun j => .int ((kByt.getD i []).getD j 0)) A s s.heap := by
    intro i
    by_cases hi : i < 9
    · obtain ⟨a, c, cA, kA, q1, q2, q3, q4, q5, q6, -⟩ := Cond.exactly_spec (args := args) (first := s) (o := none) (s := s) (idx := []) (t := tm i) (cls := "java/lang/String") (hex i hi)
      obtain ⟨t, ht, hT⟩ := va_Tof (f := fun j => .int ((kByt.getD i []).getD j 0)) (A := A) (hN i hi) (har i hi) (va_eqt (hle i hi)) (fun j hj => va_eqt (hel i hi j hj)) hA
      exact ⟨(a, t), fun _ => ⟨q1, ⟨cA, q3, q5, by rw [q6]; exact q2, hA a (Array.getElem?_eq_some_iff.mp q3).1⟩, vk_OFof q1 (va_eqt (hco i hi)) hA, vk_OFof q1 ht hA, hT⟩⟩
    · exact ⟨(0, 0), fun h => absurd h hi⟩
  obtain ⟨ad, had⟩ := Classical.axiomOfChoice h0
  refine ⟨fun i => (ad i).1, fun i => (ad i).2, ⟨fun i hi => (had i hi).2, fun i j hi hj e => ?_⟩, fun i hi => (had i hi).1⟩
  by_cases hij : i = j
  · exact hij
  · exfalso
    obtain ⟨-, -, -, hv, hT⟩ := had i hi
    obtain ⟨-, -, -, hv2, hT2⟩ := had j hj
    have e' : (ad i).1 = (ad j).1 := e
    rw [← e'] at hv2
    have ev := va_OF_un hv hv2
    injection ev with ev
    rw [← ev] at hT2
    obtain ⟨n1, n2⟩ := va_T_un (hN i hi) (hN j hj) hT hT2
    rcases kStr_ne i hi j hj hij with h | ⟨h, h'⟩
    · exact h n1
    · have := n2 h
      injection this with this
      exact h' this
set_option maxHeartbeats 8000000 in
set_option maxRecDepth 100000 in
/-- what the Statement gives of the start, in our words -/
theorem start_known {s : State} {b : Nat} (hts : ∀ w ∈ lw_tbl, w.before #[Value.ref b] s = true) (hgv : (Jvm.Cond.and given_1 narrow_1).before #[Value.ref b] s = true) : ∃ (D : va_G) (T : Nat → ClassId), va_K D vwCl (kT T) s ∧ kInv T (fun q => s.heap.size ≤ q) s s.heap ∧ va_AO "BlackoutStart$World" s := by
  have hAL : ∀ w ∈ kAL, w.before #[Value.ref b] s = true := fun w hw => hts w (kAL_t w hw)
  have hAll : ∀ w ∈ kAll, w.before #[Value.ref b] s = true := fun w hw => hts w (kAll_t w hw)
  have hA : ∀ a : Nat, a < s.heap.size → ¬ (fun q => s.heap.size ≤ q) a := fun a h => Nat.not_le.mpr h
  have hcl : ∀ c : Nat, ∃ z : ClassId × (Nat → Nat), ∀ q : vw_C, vwCl[c]? = some q → u_Kn s q.1 q.2.1 q.2.2 z.1 z.2 := by
    intro c
    match c with
    | 0 =>
      obtain ⟨cC, iS, h⟩ := u_known (C := RX0) (T := TX0) (N := 5) hAll kf0 (hAL _ (kA kl594))
      exact ⟨(cC, iS), fun q hq => by cases hq; exact h⟩
    | 1 =>
      obtain ⟨cC, iS, h⟩ := u_known (C := RX1) (T := TX1) (N := 3) hAll kf1 (hAL _ (kA kl22))
      exact ⟨(cC, iS), fun q hq => by cases hq; exact h⟩
    | 2 =>
      obtain ⟨cC, iS, h⟩ := u_known (C := RX2) (T := TX2) (N := 9) hAll kf2 (hAL _ (kA kl41))
      exact ⟨(cC, iS), fun q hq => by cases hq; exact h⟩
    | 3 =>
      obtain ⟨cC, iS, h⟩ := u_known (C := RX3) (T := TX3) (N := 7) hAll kf3 (hAL _ (kA kl45))
      exact ⟨(cC, iS), fun q hq => by cases hq; exact h⟩
    | 4 =>
      obtain ⟨cC, iS, h⟩ := u_known (C := RX4) (T := TX4) (N := 6) hAll kf4 (hAL _ (kA kl586))
      exact ⟨(cC, iS), fun q hq => by cases hq; exact h⟩
    | 5 =>
      obtain ⟨cC, iS, h⟩ := u_known (C := RX5) (T := TX5) (N := 18) hAll kf5 (hAL _ (kA kl230))
      exact ⟨(cC, iS), fun q hq => by cases hq; exact h⟩
    | 6 =>
      obtain ⟨cC, iS, h⟩ := u_known (C := RX6) (T := TX6) (N := 2) hAll kf6 (hAL _ (kA kl583))
      exact ⟨(cC, iS), fun q hq => by cases hq; exact h⟩
    | 7 =>
      obtain ⟨cC, iS, h⟩ := u_known (C := RX7) (T := TX7) (N := 4) hAll kf7 (hAL _ (kA kl235))
      exact ⟨(cC, iS), fun q hq => by cases hq; exact h⟩
    | 8 =>
      obtain ⟨cC, iS, h⟩ := u_known (C := RX8) (T := TX8) (N := 9) hAll kf8 (hAL _ (kA kl49))
      exact ⟨(cC, iS), fun q hq => by cases hq; exact h⟩
    | 9 =>
      obtain ⟨cC, iS, h⟩ := u_known (C := RX9) (T := TX9) (N := 14) hAll kf9 (hAL _ (kA kl63))
      exact ⟨(cC, iS), fun q hq => by cases hq; exact h⟩
    | 10 =>
      obtain ⟨cC, iS, h⟩ := u_known (C := RX10) (T := TX10) (N := 6) hAll kf10 (hAL _ kLl279)
      exact ⟨(cC, iS), fun q hq => by cases hq; exact h⟩
    | 11 =>
      obtain ⟨cC, iS, h⟩ := u_known (C := RX11) (T := TX11) (N := 35) hAll kf11 (hAL _ kLl283)
      exact ⟨(cC, iS), fun q hq => by cases hq; exact h⟩
    | c + 12 => exact ⟨(0, fun _ => 0), fun q hq => by cases hq⟩
  obtain ⟨dz, hdz⟩ := Classical.axiomOfChoice hcl
  obtain ⟨a0, k0, m0, e0, f0, g0⟩ := Cond.arrayClass_spec (hAL _ (kA kl4))
  obtain ⟨a1, k1, m1, e1, f1, g1⟩ := Cond.arrayClass_spec (hAL _ (kA kl210))
  obtain ⟨a2, k2, m2, e2, f2, g2⟩ := Cond.arrayClass_spec (hAL _ (kA kl426))
  obtain ⟨a3, k3, m3, e3, f3, g3⟩ := Cond.arrayClass_spec (hAL _ (kA kl794))
  have hao : va_AO "BlackoutStart$World" s := va_AO.of (hts _ (tj2 _ (List.mem_of_getElem? (i := 194) rfl)))
  obtain ⟨m4, a4, k4, c4, -, f4, g4, e4⟩ := Cond.arrayOver_spec (show (Cond.arrayOver (.object "BlackoutStart$World")).holds #[] s none s [] = true from hao)
  obtain ⟨adK, adV, hS, hev⟩ := kStrings (args := #[Value.ref b]) (s := s) (tm := kTm) (A := fun q => s.heap.size ≤ q)
    (fun i hi => match i, hi with
    | 0, _ => (nR (nR (nL (nL (nL (nR (nR (nL (nL (nR hgv))))))))))
    | 1, _ => (nL (nR (nL (nR (nL (nR (nR (nL (nL (nR hgv))))))))))
    | 2, _ => (nR (nR (nL (nL (nR (nR (nR (nL (nL (nR hgv))))))))))
    | 3, _ => (nL (nR (nL (nR (nR (nR (nR (nL (nL (nR hgv))))))))))
    | 4, _ => (nR (nL (nL (nL (nL (nL (nL (nR (nL (nR hgv))))))))))
    | 5, _ => (nR (nL (nL (nR (nL (nL (nL (nR (nL (nR hgv))))))))))
    | 6, _ => (nL (nL (nR (nL (nR (nL (nL (nR (nL (nR hgv))))))))))
    | 7, _ => (nR (nL (nR (nR (nR (nL (nL (nR (nL (nR hgv))))))))))
    | 8, _ => (nR (nR (nL (nL (nL (nR (nL (nR (nL (nR hgv))))))))))
    | i + 9, h => absurd h (by omega))
    (fun i hi => match i, hi with
    | 0, _ => (nL (nL (nR (nL (nL (nR (nR (nL (nL (nR hgv))))))))))
    | 1, _ => (nR (nR (nL (nR (nL (nR (nR (nL (nL (nR hgv))))))))))
    | 2, _ => (nL (nL (nR (nL (nR (nR (nR (nL (nL (nR hgv))))))))))
    | 3, _ => (nR (nR (nL (nR (nR (nR (nR (nL (nL (nR hgv))))))))))
    | 4, _ => (nL (nR (nL (nL (nL (nL (nL (nR (nL (nR hgv))))))))))
    | 5, _ => (nL (nR (nL (nR (nL (nL (nL (nR (nL (nR hgv))))))))))
    | 6, _ => (nR (nL (nR (nL (nR (nL (nL (nR (nL (nR hgv))))))))))
    | 7, _ => (nL (nR (nR (nR (nR (nL (nL (nR (nL (nR hgv))))))))))
    | 8, _ => (nL (nL (nR (nL (nL (nR (nL (nR (nL (nR hgv))))))))))
    | i + 9, h => absurd h (by omega))
    (fun i hi => match i, hi with
    | 0, _ => (nR (nL (nR (nL (nL (nR (nR (nL (nL (nR hgv))))))))))
    | 1, _ => (nL (nL (nR (nR (nL (nR (nR (nL (nL (nR hgv))))))))))
    | 2, _ => (nR (nL (nR (nL (nR (nR (nR (nL (nL (nR hgv))))))))))
    | 3, _ => (nL (nL (nR (nR (nR (nR (nR (nL (nL (nR hgv))))))))))
    | 4, _ => (nR (nR (nL (nL (nL (nL (nL (nR (nL (nR hgv))))))))))
    | 5, _ => (nR (nR (nL (nR (nL (nL (nL (nR (nL (nR hgv))))))))))
    | 6, _ => (nL (nR (nR (nL (nR (nL (nL (nR (nL (nR hgv))))))))))
    | 7, _ => (nL (nR (nR (nR (nR (nR (nL (nL (nR (nL (nR hgv)))))))))))
    | 8, _ => (nR (nL (nR (nL (nL (nR (nL (nR (nL (nR hgv))))))))))
    | i + 9, h => absurd h (by omega))
    (fun i hi => match i, hi with
    | 0, _ => (nL (nR (nR (nL (nL (nR (nR (nL (nL (nR hgv))))))))))
    | 1, _ => (nR (nL (nR (nR (nL (nR (nR (nL (nL (nR hgv))))))))))
    | 2, _ => (nL (nR (nR (nL (nR (nR (nR (nL (nL (nR hgv))))))))))
    | 3, _ => (nR (nL (nR (nR (nR (nR (nR (nL (nL (nR hgv))))))))))
    | 4, _ => (nL (nL (nR (nL (nL (nL (nL (nR (nL (nR hgv))))))))))
    | 5, _ => (nL (nL (nR (nR (nL (nL (nL (nR (nL (nR hgv))))))))))
    | 6, _ => (nL (nR (nR (nR (nL (nR (nL (nL (nR (nL (nR hgv)))))))))))
    | 7, _ => (nR (nR (nR (nR (nR (nR (nL (nL (nR (nL (nR hgv)))))))))))
    | 8, _ => (nL (nR (nR (nL (nL (nR (nL (nR (nL (nR hgv))))))))))
    | i + 9, h => absurd h (by omega))
    (fun i hi => match i, hi with
    | 0, _ => (fun j hj => match j, hj with | 0, _ => (nL (nR (nR (nR (nL (nL (nR (nR (nL (nL (nR hgv))))))))))) | 1, _ => (nR (nR (nR (nR (nL (nL (nR (nR (nL (nL (nR hgv))))))))))) | 2, _ => (nL (nL (nL (nR (nL (nR (nR (nL (nL (nR hgv)))))))))) | 3, _ => (nR (nL (nL (nR (nL (nR (nR (nL (nL (nR hgv)))))))))) | j + 4, h => absurd h (by show ¬ j + 4 < 4; omega))
    | 1, _ => (fun j hj => match j, hj with | 0, _ => (nL (nR (nR (nR (nL (nR (nR (nL (nL (nR hgv)))))))))) | 1, _ => (nL (nR (nR (nR (nR (nL (nR (nR (nL (nL (nR hgv))))))))))) | 2, _ => (nR (nR (nR (nR (nR (nL (nR (nR (nL (nL (nR hgv))))))))))) | 3, _ => (nL (nL (nL (nL (nR (nR (nR (nL (nL (nR hgv)))))))))) | 4, _ => (nR (nL (nL (nL (nR (nR (nR (nL (nL (nR hgv)))))))))) | 5, _ => (nL (nR (nL (nL (nR (nR (nR (nL (nL (nR hgv)))))))))) | j + 6, h => absurd h (by show ¬ j + 6 < 6; omega))
    | 2, _ => (fun j hj => match j, hj with | 0, _ => (nL (nR (nR (nR (nL (nR (nR (nR (nL (nL (nR hgv))))))))))) | 1, _ => (nR (nR (nR (nR (nL (nR (nR (nR (nL (nL (nR hgv))))))))))) | 2, _ => (nL (nL (nL (nR (nR (nR (nR (nL (nL (nR hgv)))))))))) | 3, _ => (nR (nL (nL (nR (nR (nR (nR (nL (nL (nR hgv)))))))))) | j + 4, h => absurd h (by show ¬ j + 4 < 4; omega))
    | 3, _ => (fun j hj => match j, hj with | 0, _ => (nL (nR (nR (nR (nR (nR (nR (nL (nL (nR hgv)))))))))) | 1, _ => (nL (nR (nR (nR (nR (nR (nR (nR (nL (nL (nR hgv))))))))))) | 2, _ => (nR (nR (nR (nR (nR (nR (nR (nR (nL (nL (nR hgv))))))))))) | 3, _ => (nL (nL (nL (nL (nL (nL (nL (nR (nL (nR hgv)))))))))) | j + 4, h => absurd h (by show ¬ j + 4 < 4; omega))
    | 4, _ => (fun j hj => match j, hj with | 0, _ => (nR (nL (nR (nL (nL (nL (nL (nR (nL (nR hgv)))))))))) | 1, _ => (nL (nR (nR (nL (nL (nL (nL (nR (nL (nR hgv)))))))))) | 2, _ => (nL (nR (nR (nR (nL (nL (nL (nL (nR (nL (nR hgv))))))))))) | 3, _ => (nR (nR (nR (nR (nL (nL (nL (nL (nR (nL (nR hgv))))))))))) | 4, _ => (nL (nL (nL (nR (nL (nL (nL (nR (nL (nR hgv)))))))))) | j + 5, h => absurd h (by show ¬ j + 5 < 5; omega))
    | 5, _ => (fun j hj => match j, hj with | 0, _ => (nR (nL (nR (nR (nL (nL (nL (nR (nL (nR hgv)))))))))) | 1, _ => (nL (nR (nR (nR (nL (nL (nL (nR (nL (nR hgv)))))))))) | 2, _ => (nL (nR (nR (nR (nR (nL (nL (nL (nR (nL (nR hgv))))))))))) | 3, _ => (nR (nR (nR (nR (nR (nL (nL (nL (nR (nL (nR hgv))))))))))) | 4, _ => (nL (nL (nL (nL (nR (nL (nL (nR (nL (nR hgv)))))))))) | 5, _ => (nR (nL (nL (nL (nR (nL (nL (nR (nL (nR hgv)))))))))) | 6, _ => (nL (nR (nL (nL (nR (nL (nL (nR (nL (nR hgv)))))))))) | 7, _ => (nR (nR (nL (nL (nR (nL (nL (nR (nL (nR hgv)))))))))) | j + 8, h => absurd h (by show ¬ j + 8 < 8; omega))
    | 6, _ => (fun j hj => match j, hj with | 0, _ => (nR (nR (nR (nR (nL (nR (nL (nL (nR (nL (nR hgv))))))))))) | 1, _ => (nL (nL (nL (nR (nR (nL (nL (nR (nL (nR hgv)))))))))) | 2, _ => (nR (nL (nL (nR (nR (nL (nL (nR (nL (nR hgv)))))))))) | 3, _ => (nL (nR (nL (nR (nR (nL (nL (nR (nL (nR hgv)))))))))) | 4, _ => (nR (nR (nL (nR (nR (nL (nL (nR (nL (nR hgv)))))))))) | 5, _ => (nL (nL (nR (nR (nR (nL (nL (nR (nL (nR hgv)))))))))) | j + 6, h => absurd h (by show ¬ j + 6 < 6; omega))
    | 7, _ => (fun j hj => match j, hj with | 0, _ => (nL (nL (nL (nL (nL (nR (nL (nR (nL (nR hgv)))))))))) | 1, _ => (nR (nL (nL (nL (nL (nR (nL (nR (nL (nR hgv)))))))))) | 2, _ => (nL (nR (nL (nL (nL (nR (nL (nR (nL (nR hgv)))))))))) | j + 3, h => absurd h (by show ¬ j + 3 < 3; omega))
    | 8, _ => (fun j hj => match j, hj with | 0, _ => (nL (nR (nR (nR (nL (nL (nR (nL (nR (nL (nR hgv))))))))))) | 1, _ => (nR (nR (nR (nR (nL (nL (nR (nL (nR (nL (nR hgv))))))))))) | 2, _ => (nL (nL (nL (nR (nL (nR (nL (nR (nL (nR hgv)))))))))) | 3, _ => (nR (nL (nL (nR (nL (nR (nL (nR (nL (nR hgv)))))))))) | j + 4, h => absurd h (by show ¬ j + 4 < 4; omega))
    | i + 9, h => absurd h (by omega)) hA
  obtain ⟨T, hT⟩ : ∃ T : Nat → ClassId, T = (fun i => if i = 0 then a0 else if i = 1 then a1 else if i = 2 then a2 else if i = 3 then a3 else if i = 4 then a4 else if i < 200 then adK (i - 100) else adV (i - 200)) := ⟨_, rfl⟩
  have hTK : ∀ i, i < 9 → T (100 + i) = adK i := fun i hi => by rw [hT]; simp only []; rw [if_neg (by omega), if_neg (by omega), if_neg (by omega), if_neg (by omega), if_neg (by omega), if_pos (by omega)]; congr 1; omega
  have hTV : ∀ i, i < 9 → T (200 + i) = adV i := fun i hi => by rw [hT]; simp only []; rw [if_neg (by omega), if_neg (by omega), if_neg (by omega), if_neg (by omega), if_neg (by omega), if_neg (by omega)]; congr 1; omega
  refine ⟨(fun c => (dz c).1, fun c => (dz c).2), T, ⟨fun c q hq => hdz c q hq, fun k q hq => ?_⟩, ⟨?_, ?_, ?_, ?_, ?_, ?_, ?_, ?_, ?_, ?_, ?_⟩, hao⟩
  · match k, hq with
    | 0, hq => cases hq; rw [hT]; exact ⟨fun N z => ⟨(fun k h => by cases h), k0, f0, m0, g0⟩, e0⟩
    | 1, hq => cases hq; rw [hT]; exact ⟨fun N z => ⟨(fun k h => by cases h), k1, f1, m1, g1⟩, e1⟩
    | 2, hq => cases hq; rw [hT]; exact ⟨fun N z => ⟨(fun k h => by cases h), k2, f2, m2, g2⟩, e2⟩
    | 3, hq => cases hq; rw [hT]; exact ⟨fun N z => ⟨(fun k h => by cases h), k3, f3, m3, g3⟩, e3⟩
    | 4, hq => cases hq; rw [hT]; exact ⟨fun N z => ⟨(fun k h => by cases h), k4, f4, m4, g4⟩, ⟨k4, m4, f4, g4, c4, e4⟩⟩
    | k + 5, hq => cases hq
  · intro w hw
    refine va_Nw.of (A := #[Value.ref b]) ?_ ?_
    · exact kN_on w hw
    · exact hts w (kN_t w hw)
  · have e1 : ∀ i, i < 9 → (fun i => T (100 + i)) i = adK i := hTK
    have e2 : ∀ i, i < 9 → (fun i => T (200 + i)) i = adV i := hTV
    exact ⟨fun i hi => by rw [e1 i hi, e2 i hi]; exact hS.1 i hi, fun i j hi hj h => hS.2 i j hi hj (by rw [← e1 i hi, ← e1 j hj]; exact h)⟩
  · refine (show ∀ q ∈ kRef, vk_R q.1 q.2.1 q.2.2.1 (T (100 + q.2.2.2)) s from (List.forall_mem_cons.mpr ⟨(by show vk_R RX4 76 "fuse" (T (100 + 0)) s; rw [hTK 0 (by omega)]; exact vk_R.of (hts _ (tj4 _ (List.mem_of_getElem? (i := 20) rfl))) (hev 0 (by omega))),
      (List.forall_mem_cons.mpr ⟨(by show vk_R RX4 53 "outlet" (T (100 + 1)) s; rw [hTK 1 (by omega)]; exact vk_R.of (hts _ (tj4 _ (List.mem_of_getElem? (i := 91) rfl))) (hev 1 (by omega))),
      (List.forall_mem_cons.mpr ⟨(by show vk_R RX4 62 "need" (T (100 + 2)) s; rw [hTK 2 (by omega)]; exact vk_R.of (hts _ (tj4 _ (List.mem_of_getElem? (i := 112) rfl))) (hev 2 (by omega))),
      (List.forall_mem_cons.mpr ⟨(by show vk_R RX4 132 "loss" (T (100 + 3)) s; rw [hTK 3 (by omega)]; exact vk_R.of (hts _ (tj4 _ (List.mem_of_getElem? (i := 131) rfl))) (hev 3 (by omega))),
      (List.forall_mem_cons.mpr ⟨(by show vk_R RX4 141 "retry" (T (100 + 4)) s; rw [hTK 4 (by omega)]; exact vk_R.of (hts _ (tj4 _ (List.mem_of_getElem? (i := 140) rfl))) (hev 4 (by omega))),
      (List.forall_mem_cons.mpr ⟨(by show vk_R RX4 145 "patience" (T (100 + 5)) s; rw [hTK 5 (by omega)]; exact vk_R.of (hts _ (tj4 _ (List.mem_of_getElem? (i := 141) rfl))) (hev 5 (by omega))),
      (List.forall_mem_cons.mpr ⟨(by show vk_R RX4 149 "strict" (T (100 + 6)) s; rw [hTK 6 (by omega)]; exact vk_R.of (hts _ (tj4 _ (List.mem_of_getElem? (i := 142) rfl))) (hev 6 (by omega))),
      (List.forall_mem_cons.mpr ⟨(by show vk_R RX4 155 "off" (T (100 + 7)) s; rw [hTK 7 (by omega)]; exact vk_R.of (hts _ (tj4 _ (List.mem_of_getElem? (i := 143) rfl))) (hev 7 (by omega))),
      (List.forall_mem_cons.mpr ⟨(by show vk_R RX4 160 "dark" (T (100 + 8)) s; rw [hTK 8 (by omega)]; exact vk_R.of (hts _ (tj4 _ (List.mem_of_getElem? (i := 148) rfl))) (hev 8 (by omega))),
      (List.forall_mem_cons.mpr ⟨(by show vk_R RX11 193 "fuse" (T (100 + 0)) s; rw [hTK 0 (by omega)]; exact vk_R.of (hts _ (tj6 _ (List.mem_of_getElem? (i := 236) rfl))) (va_eqR (nR (nL (nL (nR (nR (nR (nL (nR (nR (nR hgv)))))))))) (hev 0 (by omega)))),
      (List.forall_mem_cons.mpr ⟨(by show vk_R RX11 195 "outlet" (T (100 + 1)) s; rw [hTK 1 (by omega)]; exact vk_R.of (hts _ (tj7 _ (List.mem_of_getElem? (i := 23) rfl))) (va_eqR (nR (nR (nL (nL (nL (nL (nR (nR (nR (nR hgv)))))))))) (hev 1 (by omega)))),
      (List.forall_mem_cons.mpr ⟨(by show vk_R RX11 200 "need" (T (100 + 2)) s; rw [hTK 2 (by omega)]; exact vk_R.of (hts _ (tj7 _ (List.mem_of_getElem? (i := 39) rfl))) (va_eqR (nR (nR (nL (nR (nL (nL (nR (nR (nR (nR hgv)))))))))) (hev 2 (by omega)))),
      (List.forall_mem_cons.mpr ⟨(by show vk_R RX11 169 "loss" (T (100 + 3)) s; rw [hTK 3 (by omega)]; exact vk_R.of (hts _ (tj7 _ (List.mem_of_getElem? (i := 48) rfl))) (va_eqR (nR (nR (nL (nL (nR (nL (nR (nR (nR (nR hgv)))))))))) (hev 3 (by omega)))),
      (List.forall_mem_cons.mpr ⟨(by show vk_R RX11 181 "retry" (T (100 + 4)) s; rw [hTK 4 (by omega)]; exact vk_R.of (hts _ (tj7 _ (List.mem_of_getElem? (i := 57) rfl))) (va_eqR (nL (nL (nR (nR (nR (nL (nR (nR (nR (nR hgv)))))))))) (hev 4 (by omega)))),
      (List.forall_mem_cons.mpr ⟨(by show vk_R RX11 183 "patience" (T (100 + 5)) s; rw [hTK 5 (by omega)]; exact vk_R.of (hts _ (tj7 _ (List.mem_of_getElem? (i := 58) rfl))) (va_eqR (nR (nR (nR (nR (nL (nL (nR (nR (nR (nR (nR hgv))))))))))) (hev 5 (by omega)))),
      (List.forall_mem_cons.mpr ⟨(by show vk_R RX11 185 "strict" (T (100 + 6)) s; rw [hTK 6 (by omega)]; exact vk_R.of (hts _ (tj7 _ (List.mem_of_getElem? (i := 59) rfl))) (va_eqR (nR (nL (nL (nL (nR (nR (nR (nR (nR (nR hgv)))))))))) (hev 6 (by omega)))),
      (List.forall_mem_cons.mpr ⟨(by show vk_R RX11 187 "off" (T (100 + 7)) s; rw [hTK 7 (by omega)]; exact vk_R.of (hts _ (tj7 _ (List.mem_of_getElem? (i := 60) rfl))) (va_eqR (nL (nL (nL (nR (nR (nR (nR (nR (nR (nR hgv)))))))))) (hev 7 (by omega)))),
      (List.forall_mem_cons.mpr ⟨(by show vk_R RX11 189 "dark" (T (100 + 8)) s; rw [hTK 8 (by omega)]; exact vk_R.of (hts _ (tj7 _ (List.mem_of_getElem? (i := 61) rfl))) (va_eqR (nR (nR (nR (nR (nR (nR (nR (nR (nR (nR (nR hgv))))))))))) (hev 8 (by omega)))),
      (fun _ h => absurd h List.not_mem_nil)⟩)⟩)⟩)⟩)⟩)⟩)⟩)⟩)⟩)⟩)⟩)⟩)⟩)⟩)⟩)⟩)⟩)⟩))
  · refine (show ∀ q ∈ kMsg, ∃ sa : Nat, vk_R RX10 q.1 q.2 sa s from (List.forall_mem_cons.mpr ⟨(kMsg_of (hts _ (tj3 _ (List.mem_of_getElem? (i := 177) rfl))) (nL (nR (nR (nR (nR (nR (nL (nL (nL (nR hgv))))))))))),
      (List.forall_mem_cons.mpr ⟨(kMsg_of (hts _ (tj3 _ (List.mem_of_getElem? (i := 224) rfl))) (nR (nR (nL (nL (nR (nL (nR (nL (nL (nR hgv))))))))))),
      (List.forall_mem_cons.mpr ⟨(kMsg_of (hts _ (tj4 _ (List.mem_of_getElem? (i := 162) rfl))) (nL (nR (nL (nR (nL (nR (nL (nR (nL (nR hgv))))))))))),
      (List.forall_mem_cons.mpr ⟨(kMsg_of (hts _ (tj4 _ (List.mem_of_getElem? (i := 202) rfl))) (nL (nL (nL (nL (nL (nL (nR (nR (nL (nR hgv))))))))))),
      (List.forall_mem_cons.mpr ⟨(kMsg_of (hts _ (tj4 _ (List.mem_of_getElem? (i := 225) rfl))) (nL (nL (nL (nR (nR (nL (nR (nR (nL (nR hgv))))))))))),
      (List.forall_mem_cons.mpr ⟨(kMsg_of (hts _ (tj4 _ (List.mem_of_getElem? (i := 239) rfl))) (nR (nR (nR (nR (nL (nR (nR (nR (nR (nL (nR hgv)))))))))))),
      (List.forall_mem_cons.mpr ⟨(kMsg_of (hts _ (tj5 _ (List.mem_of_getElem? (i := 53) rfl))) (nR (nL (nR (nL (nR (nL (nL (nL (nR (nR hgv))))))))))),
      (List.forall_mem_cons.mpr ⟨(kMsg_of (hts _ (tj5 _ (List.mem_of_getElem? (i := 61) rfl))) (nR (nL (nR (nL (nL (nR (nL (nL (nR (nR hgv))))))))))),
      (List.forall_mem_cons.mpr ⟨(kMsg_of (hts _ (tj5 _ (List.mem_of_getElem? (i := 76) rfl))) (nL (nR (nR (nL (nR (nR (nL (nL (nR (nR hgv))))))))))),
      (List.forall_mem_cons.mpr ⟨(kMsg_of (hts _ (tj5 _ (List.mem_of_getElem? (i := 236) rfl))) (nL (nL (nR (nL (nL (nR (nR (nL (nR (nR hgv))))))))))),
      (List.forall_mem_cons.mpr ⟨(kMsg_of (hts _ (tj6 _ (List.mem_of_getElem? (i := 38) rfl))) (nL (nR (nR (nL (nR (nR (nR (nL (nR (nR hgv))))))))))),
      (List.forall_mem_cons.mpr ⟨(kMsg_of (hts _ (tj6 _ (List.mem_of_getElem? (i := 70) rfl))) (nR (nR (nL (nR (nR (nL (nL (nR (nR (nR hgv))))))))))),
      (List.forall_mem_cons.mpr ⟨(kMsg_of (hts _ (tj4 _ (List.mem_of_getElem? (i := 237) rfl))) (nR (nR (nR (nR (nL (nL (nR (nR (nR (nL (nR hgv)))))))))))),
      (List.forall_mem_cons.mpr ⟨(kMsg_of (hts _ (tj6 _ (List.mem_of_getElem? (i := 53) rfl))) (nR (nL (nR (nR (nL (nL (nL (nR (nR (nR hgv))))))))))),
      (List.forall_mem_cons.mpr ⟨(kMsg_of (hts _ (tj5 _ (List.mem_of_getElem? (i := 31) rfl))) (nL (nR (nR (nR (nL (nL (nL (nL (nL (nR (nR hgv)))))))))))),
      (List.forall_mem_cons.mpr ⟨(kMsg_of (hts _ (tj5 _ (List.mem_of_getElem? (i := 202) rfl))) (nR (nL (nR (nL (nL (nL (nR (nL (nR (nR hgv))))))))))),
      (fun _ h => absurd h List.not_mem_nil)⟩)⟩)⟩)⟩)⟩)⟩)⟩)⟩)⟩)⟩)⟩)⟩)⟩)⟩)⟩)⟩))
  · exact vx_Zqof (hts _ (tj3 _ (List.mem_of_getElem? (i := 162) rfl))) (hts _ (tj1 _ (List.mem_of_getElem? (i := 16) rfl))) (nL (nR (nL (nL (nL (nL (nL (nL (nL (nR hgv)))))))))) hA
  · exact vx_Zqof (hts _ (tj3 _ (List.mem_of_getElem? (i := 164) rfl))) (hts _ (tj1 _ (List.mem_of_getElem? (i := 16) rfl))) (nR (nR (nL (nL (nL (nL (nL (nL (nL (nR hgv)))))))))) hA
  · exact (show ∀ q ∈ kNc, va_Nc q.1 q.2 s from (List.forall_mem_cons.mpr ⟨va_Nc.of (nR (nL (nL (nL (nL (nR (nL (nL (nL (nR hgv)))))))))), (List.forall_mem_cons.mpr ⟨va_Nc.of (nL (nR (nL (nL (nL (nR (nL (nL (nL (nR hgv)))))))))), (List.forall_mem_cons.mpr ⟨va_Nc.of (nR (nR (nR (nR (nR (nL (nR (nL (nL (nL (nR hgv))))))))))), (List.forall_mem_cons.mpr ⟨va_Nc.of (nL (nR (nR (nR (nL (nR (nL (nL (nL (nR hgv)))))))))), (fun _ h => absurd h List.not_mem_nil)⟩)⟩)⟩)⟩))
  · exact va_Zof (hts _ (tj4 _ (List.mem_of_getElem? (i := 34) rfl))) (hts _ (tj1 _ (List.mem_of_getElem? (i := 21) rfl))) (va_eqi (nL (nL (nR (nL (nL (nL (nL (nL (nL (nR hgv))))))))))) hA
  · exact va_Zqof (hts _ (tj4 _ (List.mem_of_getElem? (i := 54) rfl))) (hts _ (tj1 _ (List.mem_of_getElem? (i := 23) rfl))) (nR (nL (nR (nL (nL (nL (nL (nL (nL (nR hgv)))))))))) hA
  · exact (show ∀ q ∈ kCa, va_Nw (.castable q q) s from (List.forall_mem_cons.mpr ⟨va_Nw.of (by decide +kernel) (hts _ (tj3 _ (List.mem_of_getElem? (i := 137) rfl))), (List.forall_mem_cons.mpr ⟨va_Nw.of (by decide +kernel) (hts _ (tj3 _ (List.mem_of_getElem? (i := 217) rfl))), (List.forall_mem_cons.mpr ⟨va_Nw.of (by decide +kernel) (hts _ (tj4 _ (List.mem_of_getElem? (i := 155) rfl))), (List.forall_mem_cons.mpr ⟨va_Nw.of (by decide +kernel) (hts _ (tj4 _ (List.mem_of_getElem? (i := 195) rfl))), (fun _ h => absurd h List.not_mem_nil)⟩)⟩)⟩)⟩))
  · exact (show ∀ q ∈ kDcl, va_Nw (.declares (Bundle.initS q)) s from (List.forall_mem_cons.mpr ⟨va_Nw.of (by decide +kernel) (hts _ (tj3 _ (List.mem_of_getElem? (i := 139) rfl))), (List.forall_mem_cons.mpr ⟨va_Nw.of (by decide +kernel) (hts _ (tj3 _ (List.mem_of_getElem? (i := 141) rfl))), (List.forall_mem_cons.mpr ⟨va_Nw.of (by decide +kernel) (hts _ (tj3 _ (List.mem_of_getElem? (i := 143) rfl))), (fun _ h => absurd h List.not_mem_nil)⟩)⟩)⟩))
