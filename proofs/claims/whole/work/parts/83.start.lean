/-! THE LAW: what holds at its entry -/
theorem st_len {args : Array Value} {s : State} {t : Term} {a : Nat} {cell : Cell} (h : (Cond.eq (.length t) (.int 0)).before args s = true) (ht : t.eval args s none [] s = some (.ref a)) (hc : s.heap[a]? = some cell) : cell.slots.size = 0 := by
  have hv : (Term.length t).eval args s none [] s = some (.int 0) := by
    cases hv : (Term.length t).eval args s none [] s with
    | none => simp [Cond.before, Cond.holds, Cond.value, hv] at h
    | some w =>
      have hz : (Term.int 0).eval args s none [] s = some (.int 0) := rfl
      simp only [Cond.before, Cond.holds, Cond.value, hv, hz] at h
      cases w <;> simp_all
  simp only [Term.eval, Option.bind_eq_bind, ht, Option.bind_some] at hv
  cases ha : s.arrayAt? a with
  | none => simp [ha] at hv
  | some c2 =>
    obtain ⟨h1, -⟩ := State.arrayAt?_spec ha
    cases h1.symm.trans hc
    simp only [ha, Option.bind_some] at hv
    by_cases hz : cell.slots.size < 2 ^ 31
    · simp [hz] at hv
      exact (nI_eq hz (by decide)).mp hv
    · simp [hz] at hv
set_option maxHeartbeats 4000000 in
set_option maxRecDepth 100000 in
theorem law_S {s : State} {b : Nat} (hts : ∀ w ∈ lw_tbl, w.before #[Value.ref b] s = true) (hgv : (Jvm.Cond.and given_1 narrow_1).before #[Value.ref b] s = true) : ∃ (D : va_G) (cI cO cZ cJ : ClassId) (aE : Nat), lS D cI cO cZ cJ aE s := by
  have hf := flat_of_before _ hgv
  obtain ⟨c0, i0, k0⟩ := u_known (C := RJ0) (T := TJ0) (N := 4) (n := 4) hts inJ0 (hts (.instantiable RJ0 4) (by decide +kernel))
  obtain ⟨c1, i1, k1⟩ := u_known (C := RJ4) (T := TJ4) (N := 4) (n := 4) hts inJ4 (hts (.instantiable RJ4 4) (by decide +kernel))
  obtain ⟨c2, i2, k2⟩ := u_known (C := RJx4a65c) (T := TJx4a65c) (N := 3) (n := 3) hts inJx4a65c (hts (.instantiable RJx4a65c 3) (by decide +kernel))
  obtain ⟨c3, i3, k3⟩ := u_known (C := RX0) (T := TX0) (N := 9) (n := 9) hts inX0 (hts (.instantiable RX0 9) (by decide +kernel))
  obtain ⟨c4, i4, k4⟩ := u_known (C := RX1) (T := TX1) (N := 12) (n := 12) hts inX1 (hts (.instantiable RX1 12) (by decide +kernel))
  obtain ⟨c5, i5, k5⟩ := u_known (C := RX2) (T := TX2) (N := 10) (n := 10) hts inX2 (hts (.instantiable RX2 10) (by decide +kernel))
  obtain ⟨c6, i6, k6⟩ := u_known (C := RX3) (T := TX3) (N := 16) (n := 16) hts inX3 (hts (.instantiable RX3 16) (by decide +kernel))
  obtain ⟨c7, i7, k7⟩ := u_known (C := RX4) (T := TX4) (N := 3) (n := 3) hts inX4 (hts (.instantiable RX4 3) (by decide +kernel))
  obtain ⟨c8, i8, k8⟩ := u_known (C := RX5) (T := TX5) (N := 6) (n := 6) hts inX5 (hts (.instantiable RX5 6) (by decide +kernel))
  obtain ⟨c9, i9, k9⟩ := u_known (C := RX6) (T := TX6) (N := 49) (n := 49) hts inX6 (hts (.instantiable RX6 49) (by decide +kernel))
  obtain ⟨D, hD⟩ : ∃ D : va_G, ∀ (c : Nat) (q : vw_C), vwCl[c]? = some q → u_Kn s q.1 q.2.1 q.2.2 (D.1 c) (D.2 c) := by
    refine ⟨(fun k => ([c0, c1, c2, c3, c4, c5, c6, c7, c8, c9] : List ClassId).getD k c0, fun k => ([i0, i1, i2, i3, i4, i5, i6, i7, i8, i9] : List (Nat → Nat)).getD k i0), ?_⟩
    intro k q hq
    match k, hq with
    | 0, hq => cases hq; exact k0
    | 1, hq => cases hq; exact k1
    | 2, hq => cases hq; exact k2
    | 3, hq => cases hq; exact k3
    | 4, hq => cases hq; exact k4
    | 5, hq => cases hq; exact k5
    | 6, hq => cases hq; exact k6
    | 7, hq => cases hq; exact k7
    | 8, hq => cases hq; exact k8
    | 9, hq => cases hq; exact k9
    | k + 10, hq => simp [vwCl] at hq
  obtain ⟨cI, kI, pI, a1, a2, a3⟩ := Cond.arrayClass_spec (hts (.arrayClass .int) (by decide +kernel))
  obtain ⟨cZ, kZ, pZ, b1, b2, b3⟩ := Cond.arrayClass_spec (hts (.arrayClass .boolean) (by decide +kernel))
  obtain ⟨cJ, kJ, pJ, d1, d2, d3⟩ := Cond.arrayClass_spec (hts (.arrayClass .long) (by decide +kernel))
  have hover := hts (.arrayOver (.object "java/lang/Object")) (by decide +kernel)
  obtain ⟨pO, cO, kO, o1, o2, o3, o4, o5⟩ := Cond.arrayOver_spec hover
  have kI : ArrOfT s cI .int ∧ va_RA s cI .int := ⟨fun n z => ⟨(fun k h => by cases h), kI, a2, pI, a3⟩, a1⟩
  have kZ : ArrOfT s cZ .boolean ∧ va_RA s cZ .boolean := ⟨fun n z => ⟨(fun k h => by cases h), kZ, b2, pZ, b3⟩, b1⟩
  have kJ : ArrOfT s cJ .long ∧ va_RA s cJ .long := ⟨fun n z => ⟨(fun k h => by cases h), kJ, d2, pJ, d3⟩, d1⟩
  have kO : ArrOfT s cO (.object "java/lang/Object") ∧ va_RA s cO (.object "java/lang/Object") := ⟨fun n z => ⟨(fun k h => by cases h), kO, o3, pO, o4⟩, kO, pO, o3, o4, o1, o5⟩
  have hex := hf (.exactly (.static "java/util/ArrayList" "DEFAULTCAPACITY_EMPTY_ELEMENTDATA" "[Ljava/lang/Object;") "[Ljava/lang/Object;") (by decide +kernel)
  obtain ⟨aE, cE, cell, kE9, e1, e2, e3, e4, e5, e6, -⟩ := Cond.exactly_spec hex
  have hao := (Cond.arrayOf_spec (hf (.arrayOf (.static "java/util/ArrayList" "DEFAULTCAPACITY_EMPTY_ELEMENTDATA" "[Ljava/lang/Object;") (.object "java/lang/Object")) (by decide +kernel)) e1 e3).1
  have hl0 := st_len (hf (.eq (.length (.static "java/util/ArrayList" "DEFAULTCAPACITY_EMPTY_ELEMENTDATA" "[Ljava/lang/Object;")) (.int 0)) (by decide +kernel)) e1 e3
  have hA0 : ∀ a : Nat, a < s.heap.size → ¬ (fun q : Nat => s.heap.size ≤ q) a := fun a h => Nat.not_le.mpr h
  obtain ⟨mi, hmi⟩ := va_Mi.of (hf (.isRef (.mirror "[Ljava/lang/Object;")) (by decide +kernel))
  refine ⟨D, cI, cO, cZ, cJ, aE, ⟨hD, fun k q hq => ?_⟩, ⟨hD, fun k q hq => ?_⟩, ⟨hD, fun k q hq => ?_⟩, ?_, ⟨va_Zref (hts (.laysStatic "java/util/ArrayList" "DEFAULTCAPACITY_EMPTY_ELEMENTDATA" "[Ljava/lang/Object;") (by decide +kernel)) (hts (.initialized "java/util/ArrayList") (by decide +kernel)) e1 hA0, ⟨cell, e3, hao, hl0⟩, Nat.not_le.mpr (Array.getElem?_eq_some_iff.mp e3).1, va_AO.of hover, ⟨mi, hmi⟩, ?_, fun a h => h⟩, ?_⟩
  · match k, hq with
    | 0, hq => cases hq; exact kI
    | 1, hq => cases hq; exact kO
    | k + 2, hq => simp at hq
  · match k, hq with
    | 0, hq => cases hq; exact kI
    | 1, hq => cases hq; exact kZ
    | k + 2, hq => simp at hq
  · match k, hq with
    | 0, hq => cases hq; exact kJ
    | k + 1, hq => simp at hq
  · intro q hq
    simp only [xpr, List.mem_cons, List.not_mem_nil, or_false] at hq
    rcases hq with rfl | rfl | rfl | rfl | rfl | rfl
    all_goals exact va_Nc.of (hf _ (by decide +kernel))
  · intro w hw
    refine va_Nw.of (A := #[Value.ref b]) (ywd_on w hw) ?_
    simp only [ywd, List.mem_cons, List.not_mem_nil, or_false] at hw
    rcases hw with rfl | rfl | rfl | rfl | rfl
    all_goals exact hts _ (by decide +kernel)
  · refine ⟨vx_Zqof (hts _ (by decide +kernel)) (hts _ (by decide +kernel)) (hf _ (by decide +kernel)) hA0, vx_Zqof (hts _ (by decide +kernel)) (hts _ (by decide +kernel)) (hf _ (by decide +kernel)) hA0, fun q hq => ?_, fun w hw => ?_, fun a h => h⟩
    · simp only [xstr, List.mem_cons, List.not_mem_nil, or_false] at hq
      have key : ∀ (k : Nat) (tx : String), Cond.stringRef RX5 k tx ∈ lw_tbl → (∀ v : Cond, v = .exactly (.string RX5 k) "java/lang/String" → v.before #[Value.ref b] s = true) → ∃ a, vk_R RX5 k tx a s := fun k tx h1 h2 => by
        obtain ⟨a, c, cell, k9, q1, -⟩ := Cond.exactly_spec (h2 _ rfl)
        exact ⟨a, vk_R.of (A := #[Value.ref b]) (hts _ h1) q1⟩
      rcases hq with rfl | rfl | rfl | rfl | rfl | rfl | rfl
      all_goals exact key _ _ (by decide +kernel) (fun v hv => hf v (by subst hv; decide +kernel))
    · refine va_Nw.of (A := #[Value.ref b]) (xwd_on w hw) ?_
      simp only [xwd, List.mem_cons, List.not_mem_nil, or_false] at hw
      rcases hw with rfl | rfl | rfl | rfl | rfl | rfl
      all_goals exact hts _ (by decide +kernel)
