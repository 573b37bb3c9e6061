/-! the world behind the making of a sailing: itself, two sides, two lists of capacity 0 -/
def Ns (N : Nat → Nat) : Nat → Nat := fun j => if j = 6 then N 6 + 1 else if j = 7 then N 7 + 2 else if j = 1 ∨ j = 2 then N j + 2 else N j
def gs (g : Gh) (N : Nat → Nat) (aE r q1 q2 q3 q4 : Nat) : Gh := fun k n => if k = 6 ∧ n = N 6 then r else if k = 7 ∧ n = N 7 then q1 else if k = 7 ∧ n = N 7 + 1 then q2 else if k = 1 ∧ n = N 1 then q3 else if k = 1 ∧ n = N 1 + 1 then q4 else if k = 2 ∧ (n = N 1 ∨ n = N 1 + 1) then aE else g k n
def caps (cap N : Nat → Nat) : Nat → Nat := fun n => if n = N 1 ∨ n = N 1 + 1 then 0 else cap n
theorem gs_o {g : Gh} {N : Nat → Nat} {aE r q1 q2 q3 q4 k n : Nat} (h6 : k = 6 → n < N 6) (h7 : k = 7 → n < N 7) (h1 : k = 1 ∨ k = 2 → n < N 1) : gs g N aE r q1 q2 q3 q4 k n = g k n := by
  unfold gs
  rw [if_neg (by rintro ⟨a, b⟩; have := h6 a; omega), if_neg (by rintro ⟨a, b⟩; have := h7 a; omega), if_neg (by rintro ⟨a, b⟩; have := h7 a; omega), if_neg (by rintro ⟨a, b⟩; have := h1 (Or.inl a); omega), if_neg (by rintro ⟨a, b⟩; have := h1 (Or.inl a); omega), if_neg (by rintro ⟨a, b⟩; have := h1 (Or.inr a); omega)]
theorem gs_6 {g : Gh} {N : Nat → Nat} {aE r q1 q2 q3 q4 : Nat} : gs g N aE r q1 q2 q3 q4 6 (N 6) = r := if_pos ⟨rfl, rfl⟩
theorem gs_71 {g : Gh} {N : Nat → Nat} {aE r q1 q2 q3 q4 : Nat} : gs g N aE r q1 q2 q3 q4 7 (N 7) = q1 := by unfold gs; rw [if_neg (by omega), if_pos ⟨rfl, rfl⟩]
theorem gs_72 {g : Gh} {N : Nat → Nat} {aE r q1 q2 q3 q4 : Nat} : gs g N aE r q1 q2 q3 q4 7 (N 7 + 1) = q2 := by unfold gs; rw [if_neg (by omega), if_neg (by omega), if_pos ⟨rfl, rfl⟩]
theorem gs_11 {g : Gh} {N : Nat → Nat} {aE r q1 q2 q3 q4 : Nat} : gs g N aE r q1 q2 q3 q4 1 (N 1) = q3 := by unfold gs; rw [if_neg (by omega), if_neg (by omega), if_neg (by omega), if_pos ⟨rfl, rfl⟩]
theorem gs_12 {g : Gh} {N : Nat → Nat} {aE r q1 q2 q3 q4 : Nat} : gs g N aE r q1 q2 q3 q4 1 (N 1 + 1) = q4 := by unfold gs; rw [if_neg (by omega), if_neg (by omega), if_neg (by omega), if_neg (by omega), if_pos ⟨rfl, rfl⟩]
theorem gs_21 {g : Gh} {N : Nat → Nat} {aE r q1 q2 q3 q4 : Nat} : gs g N aE r q1 q2 q3 q4 2 (N 1) = aE := by unfold gs; rw [if_neg (by omega), if_neg (by omega), if_neg (by omega), if_neg (by omega), if_neg (by omega), if_pos ⟨rfl, Or.inl rfl⟩]
theorem gs_22 {g : Gh} {N : Nat → Nat} {aE r q1 q2 q3 q4 : Nat} : gs g N aE r q1 q2 q3 q4 2 (N 1 + 1) = aE := by unfold gs; rw [if_neg (by omega), if_neg (by omega), if_neg (by omega), if_neg (by omega), if_neg (by omega), if_pos ⟨rfl, Or.inr rfl⟩]
theorem caps_o {cap N : Nat → Nat} {n : Nat} (h : n < N 1) : caps cap N n = cap n := if_neg (by omega)
theorem caps_n {cap N : Nat → Nat} {n : Nat} (h : n = N 1 ∨ n = N 1 + 1) : caps cap N n = 0 := if_pos h
theorem ek_n7 (n : Nat) : ¬ ek n = 7 := by
  unfold ek
  by_cases h0 : n = 0
  · rw [if_pos h0]; decide
  · rw [if_neg h0]
    by_cases h1 : n = 1
    · rw [if_pos h1]; decide
    · rw [if_neg h1]
      by_cases h2 : n = 2
      · rw [if_pos h2]; decide
      · rw [if_neg h2]; decide
theorem ek_n12 (n : Nat) : ¬ (ek n = 1 ∨ ek n = 2) := by
  unfold ek
  by_cases h0 : n = 0
  · rw [if_pos h0]; decide
  · rw [if_neg h0]
    by_cases h1 : n = 1
    · rw [if_pos h1]; decide
    · rw [if_neg h1]
      by_cases h2 : n = 2
      · rw [if_pos h2]; decide
      · rw [if_neg h2]; decide
/-- what is live in the greater world: what was, or one of the five -/
theorem lv_s {cap N : Nat → Nat} (hN : KN N) {k n : Nat} (h : lv (Ns N) (caps cap N) k n) : lv N cap k n ∨ (k = 6 ∧ n = N 6) ∨ (k = 7 ∧ n = N 7) ∨ (k = 7 ∧ n = N 7 + 1) ∨ (k = 1 ∧ n = N 1) ∨ (k = 1 ∧ n = N 1 + 1) := by
  obtain ⟨n0, n4, n5, n6, n8, n7, n1, n2, n3⟩ := hN
  obtain ⟨h9, hn, hc⟩ := h
  unfold Ns at hn
  by_cases e6 : k = 6
  · subst e6; rw [if_pos rfl] at hn
    by_cases e : n = N 6
    · exact Or.inr (Or.inl ⟨rfl, e⟩)
    · exact Or.inl ⟨h9, by omega, fun z => absurd z (by decide)⟩
  · rw [if_neg e6] at hn
    by_cases e7 : k = 7
    · subst e7; rw [if_pos rfl] at hn
      by_cases e : n < N 7
      · exact Or.inl ⟨h9, e, fun z => absurd z (by decide)⟩
      · omega
    · rw [if_neg e7] at hn
      by_cases e1 : k = 1 ∨ k = 2
      · rw [if_pos e1] at hn
        by_cases e : n < N k
        · refine Or.inl ⟨h9, e, fun z => ?_⟩
          subst z
          have := hc rfl
          rwa [caps_o (by omega)] at this
        · rcases e1 with rfl | rfl
          · omega
          · have := hc rfl
            rw [caps_n (by omega)] at this; omega
      · rw [if_neg e1] at hn
        exact Or.inl ⟨h9, hn, fun z => absurd (Or.inr z) e1⟩
theorem cC_gs {cI cO : ClassId} {g : Gh} {cap N : Nat → Nat} {τ : St} {aE r q1 q2 q3 q4 : Nat} (hI : KI cap N τ) {k n : Nat} (hl : lv N cap k n) : cC cI cO (gs g N aE r q1 q2 q3 q4) (caps cap N) τ k n = cC cI cO g cap τ k n := by
  obtain ⟨h1, h2, h3, h4, h5, h6⟩ := hI
  obtain ⟨n0, n4, n5, n6, n8, n7, n1, n2, n3⟩ := id h1
  obtain ⟨h9, hn, -⟩ := hl
  have h10 : k = 0 ∨ k = 1 ∨ k = 2 ∨ k = 3 ∨ k = 4 ∨ k = 5 ∨ k = 6 ∨ k = 7 ∨ k = 8 := by omega
  clear h9
  rcases h10 with rfl | rfl | rfl | rfl | rfl | rfl | rfl | rfl | rfl
  · rw [cC_0, cC_0, gs_o (by omega) (by omega) (by omega), gs_o (by omega) (by omega) (by omega), gs_o (by omega) (by omega) (by omega), gs_o (by omega) (by omega) (by omega), gs_o (by omega) (by omega) (by omega)]
  · rw [cC_1, cC_1, gs_o (by omega) (by omega) (by omega)]
  · rw [cC_2, cC_2, caps_o (by omega)]
    refine congrArg (fun z => (Sum.inl (cO, cap n, .inr (.inr (.inr (.inr z)))) : va_E)) ?_
    funext i
    unfold crow
    by_cases hi : i < (τ 54 n).toNatClampNeg
    · rw [if_pos hi, if_pos hi]
      refine congrArg some ?_
      obtain ⟨C, a, b, c, d⟩ := h6 n (by omega)
      rw [a, nI_clamp (by omega)] at hi
      refine gs_o (fun z => ?_) (fun z => absurd z ?_) (fun z => absurd z ?_)
      · by_cases q4 : 4 ≤ n
        · rw [ek_8 q4] at z; omega
        · have hcn : cn τ n i = i := if_pos (by omega)
          have q : n = 0 ∨ n = 1 ∨ n = 2 ∨ n = 3 := by omega
          rcases q with rfl | rfl | rfl | rfl
          · exact absurd z (by decide)
          · exact absurd z (by decide)
          · have e9 := (nI_eq (by omega) (by omega)).mp (a.symm.trans h2.2.2.1)
            rw [hcn]; omega
          · exact absurd z (by decide)
      · exact ek_n7 n
      · exact ek_n12 n
    · rw [if_neg hi, if_neg hi]
  · rw [cC_3, cC_3]
  · rw [cC_4, cC_4]
  · rw [cC_5, cC_5]
  · obtain ⟨a, b, c⟩ := h3 n hn
    have e1 := vp_lt (s7a h1 (vp_in_nI hn (by omega)))
    have e2 := vp_lt (s7b h1 (vp_in_nI hn (by omega)))
    have e3 : ((2 : Int32) * nI n + 4).toNatClampNeg < N 1 := by rw [q4n (by omega)]; omega
    have e4 : ((2 : Int32) * nI n + 5).toNatClampNeg < N 1 := by rw [q5n (by omega)]; omega
    rw [cC_6, cC_6, gs_o (by omega) (by omega) (by omega), gs_o (by omega) (by omega) (by omega), gs_o (by omega) (by omega) (by omega), gs_o (by omega) (by omega) (by omega), gs_o (by omega) (by omega) (by omega), gs_o (by omega) (by omega) (by omega), gs_o (by omega) (by omega) (by omega)]
  · rw [cC_7, cC_7]
  · have := vp_lt (h4 n hn)
    rw [cC_8, cC_8, gs_o (by omega) (by omega) (by omega)]
