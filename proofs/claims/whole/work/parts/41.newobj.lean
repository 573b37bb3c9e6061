/-! one more object -/
def gn1 (g : Gh) (k m r : Nat) : Gh := fun k' n' => if k' = k ∧ n' = m then r else g k' n'
def Nn (N : Nat → Nat) (k : Nat) : Nat → Nat := fun j => if j = k then N k + 1 else N j
theorem gn1_o {g : Gh} {k m r k' n' : Nat} (h : ¬ (k' = k ∧ n' = m)) : gn1 g k m r k' n' = g k' n' := if_neg h
theorem gn1_s {g : Gh} {k m r : Nat} : gn1 g k m r k m = r := if_pos ⟨rfl, rfl⟩
theorem Nn_s {N : Nat → Nat} {k : Nat} : Nn N k k = N k + 1 := if_pos rfl
theorem Nn_o {N : Nat → Nat} {k j : Nat} (h : j ≠ k) : Nn N k j = N j := if_neg h
theorem cz_3 {cI cO : ClassId} {g : Gh} {cap N : Nat → Nat} {τ : St} {n : Nat} {v : Int32} (hn : N 4 ≤ n) : ∀ k' n', lv N cap k' n' → cC cI cO g cap (st τ 3 n v) k' n' = cC cI cO g cap τ k' n' := by
  intro k n' hl
  obtain ⟨h9, hl2, -⟩ := hl
  have h10 : k = 0 ∨ k = 1 ∨ k = 2 ∨ k = 3 ∨ k = 4 ∨ k = 5 ∨ k = 6 ∨ k = 7 ∨ k = 8 := by omega
  clear h9
  rcases h10 with rfl | rfl | rfl | rfl | rfl | rfl | rfl | rfl | rfl
  · rw [cC_0, cC_0, st_nf τ n v (f := 3) (g := 1) (by decide)]
  · rw [cC_1, cC_1, st_nf τ n v (f := 3) (g := 52) (by decide), st_nf τ n v (f := 3) (g := 54) (by decide)]
  · exact congrArg (fun z => (Sum.inl (cO, cap n', .inr (.inr (.inr (.inr z)))) : va_E)) (crow_st (by decide) (by decide) n')
  · rw [cC_3, cC_3, st_nf τ n v (f := 3) (g := 48) (by decide)]
  · have hj : n' ≠ n := by omega
    rw [cC_4, cC_4, st_nj τ 3 v hj, st_nf τ n v (f := 3) (g := 4) (by decide), st_nf τ n v (f := 3) (g := 5) (by decide), st_nf τ n v (f := 3) (g := 6) (by decide), st_nf τ n v (f := 3) (g := 7) (by decide), st_nf τ n v (f := 3) (g := 8) (by decide), st_nf τ n v (f := 3) (g := 9) (by decide), st_nf τ n v (f := 3) (g := 10) (by decide), st_nf τ n v (f := 3) (g := 11) (by decide)]
  · rw [cC_5, cC_5, st_nf τ n v (f := 3) (g := 13) (by decide), st_nf τ n v (f := 3) (g := 14) (by decide), st_nf τ n v (f := 3) (g := 15) (by decide), st_nf τ n v (f := 3) (g := 16) (by decide), st_nf τ n v (f := 3) (g := 17) (by decide), st_nf τ n v (f := 3) (g := 18) (by decide), st_nf τ n v (f := 3) (g := 19) (by decide), st_nf τ n v (f := 3) (g := 20) (by decide)]
  · rw [cC_6, cC_6, st_nf τ n v (f := 3) (g := 23) (by decide), st_nf τ n v (f := 3) (g := 24) (by decide), st_nf τ n v (f := 3) (g := 25) (by decide), st_nf τ n v (f := 3) (g := 26) (by decide), st_nf τ n v (f := 3) (g := 27) (by decide), st_nf τ n v (f := 3) (g := 28) (by decide), st_nf τ n v (f := 3) (g := 50) (by decide), st_nf τ n v (f := 3) (g := 51) (by decide), st_nf τ n v (f := 3) (g := 22) (by decide), st_nf τ n v (f := 3) (g := 29) (by decide), st_nf τ n v (f := 3) (g := 31) (by decide)]
  · rw [cC_7, cC_7, st_nf τ n v (f := 3) (g := 32) (by decide), st_nf τ n v (f := 3) (g := 33) (by decide)]
  · rw [cC_8, cC_8, st_nf τ n v (f := 3) (g := 55) (by decide), st_nf τ n v (f := 3) (g := 36) (by decide), st_nf τ n v (f := 3) (g := 37) (by decide), st_nf τ n v (f := 3) (g := 38) (by decide), st_nf τ n v (f := 3) (g := 39) (by decide), st_nf τ n v (f := 3) (g := 40) (by decide), st_nf τ n v (f := 3) (g := 41) (by decide), st_nf τ n v (f := 3) (g := 42) (by decide), st_nf τ n v (f := 3) (g := 35) (by decide), st_nf τ n v (f := 3) (g := 44) (by decide), st_nf τ n v (f := 3) (g := 43) (by decide), st_nf τ n v (f := 3) (g := 45) (by decide)]
theorem cz_4 {cI cO : ClassId} {g : Gh} {cap N : Nat → Nat} {τ : St} {n : Nat} {v : Int32} (hn : N 4 ≤ n) : ∀ k' n', lv N cap k' n' → cC cI cO g cap (st τ 4 n v) k' n' = cC cI cO g cap τ k' n' := by
  intro k n' hl
  obtain ⟨h9, hl2, -⟩ := hl
  have h10 : k = 0 ∨ k = 1 ∨ k = 2 ∨ k = 3 ∨ k = 4 ∨ k = 5 ∨ k = 6 ∨ k = 7 ∨ k = 8 := by omega
  clear h9
  rcases h10 with rfl | rfl | rfl | rfl | rfl | rfl | rfl | rfl | rfl
  · rw [cC_0, cC_0, st_nf τ n v (f := 4) (g := 1) (by decide)]
  · rw [cC_1, cC_1, st_nf τ n v (f := 4) (g := 52) (by decide), st_nf τ n v (f := 4) (g := 54) (by decide)]
  · exact congrArg (fun z => (Sum.inl (cO, cap n', .inr (.inr (.inr (.inr z)))) : va_E)) (crow_st (by decide) (by decide) n')
  · rw [cC_3, cC_3, st_nf τ n v (f := 4) (g := 48) (by decide)]
  · have hj : n' ≠ n := by omega
    rw [cC_4, cC_4, st_nj τ 4 v hj, st_nf τ n v (f := 4) (g := 3) (by decide), st_nf τ n v (f := 4) (g := 5) (by decide), st_nf τ n v (f := 4) (g := 6) (by decide), st_nf τ n v (f := 4) (g := 7) (by decide), st_nf τ n v (f := 4) (g := 8) (by decide), st_nf τ n v (f := 4) (g := 9) (by decide), st_nf τ n v (f := 4) (g := 10) (by decide), st_nf τ n v (f := 4) (g := 11) (by decide)]
  · rw [cC_5, cC_5, st_nf τ n v (f := 4) (g := 13) (by decide), st_nf τ n v (f := 4) (g := 14) (by decide), st_nf τ n v (f := 4) (g := 15) (by decide), st_nf τ n v (f := 4) (g := 16) (by decide), st_nf τ n v (f := 4) (g := 17) (by decide), st_nf τ n v (f := 4) (g := 18) (by decide), st_nf τ n v (f := 4) (g := 19) (by decide), st_nf τ n v (f := 4) (g := 20) (by decide)]
  · rw [cC_6, cC_6, st_nf τ n v (f := 4) (g := 23) (by decide), st_nf τ n v (f := 4) (g := 24) (by decide), st_nf τ n v (f := 4) (g := 25) (by decide), st_nf τ n v (f := 4) (g := 26) (by decide), st_nf τ n v (f := 4) (g := 27) (by decide), st_nf τ n v (f := 4) (g := 28) (by decide), st_nf τ n v (f := 4) (g := 50) (by decide), st_nf τ n v (f := 4) (g := 51) (by decide), st_nf τ n v (f := 4) (g := 22) (by decide), st_nf τ n v (f := 4) (g := 29) (by decide), st_nf τ n v (f := 4) (g := 31) (by decide)]
  · rw [cC_7, cC_7, st_nf τ n v (f := 4) (g := 32) (by decide), st_nf τ n v (f := 4) (g := 33) (by decide)]
  · rw [cC_8, cC_8, st_nf τ n v (f := 4) (g := 55) (by decide), st_nf τ n v (f := 4) (g := 36) (by decide), st_nf τ n v (f := 4) (g := 37) (by decide), st_nf τ n v (f := 4) (g := 38) (by decide), st_nf τ n v (f := 4) (g := 39) (by decide), st_nf τ n v (f := 4) (g := 40) (by decide), st_nf τ n v (f := 4) (g := 41) (by decide), st_nf τ n v (f := 4) (g := 42) (by decide), st_nf τ n v (f := 4) (g := 35) (by decide), st_nf τ n v (f := 4) (g := 44) (by decide), st_nf τ n v (f := 4) (g := 43) (by decide), st_nf τ n v (f := 4) (g := 45) (by decide)]
theorem cz_5 {cI cO : ClassId} {g : Gh} {cap N : Nat → Nat} {τ : St} {n : Nat} {v : Int32} (hn : N 4 ≤ n) : ∀ k' n', lv N cap k' n' → cC cI cO g cap (st τ 5 n v) k' n' = cC cI cO g cap τ k' n' := by
  intro k n' hl
  obtain ⟨h9, hl2, -⟩ := hl
  have h10 : k = 0 ∨ k = 1 ∨ k = 2 ∨ k = 3 ∨ k = 4 ∨ k = 5 ∨ k = 6 ∨ k = 7 ∨ k = 8 := by omega
  clear h9
  rcases h10 with rfl | rfl | rfl | rfl | rfl | rfl | rfl | rfl | rfl
  · rw [cC_0, cC_0, st_nf τ n v (f := 5) (g := 1) (by decide)]
  · rw [cC_1, cC_1, st_nf τ n v (f := 5) (g := 52) (by decide), st_nf τ n v (f := 5) (g := 54) (by decide)]
  · exact congrArg (fun z => (Sum.inl (cO, cap n', .inr (.inr (.inr (.inr z)))) : va_E)) (crow_st (by decide) (by decide) n')
  · rw [cC_3, cC_3, st_nf τ n v (f := 5) (g := 48) (by decide)]
  · have hj : n' ≠ n := by omega
    rw [cC_4, cC_4, st_nj τ 5 v hj, st_nf τ n v (f := 5) (g := 3) (by decide), st_nf τ n v (f := 5) (g := 4) (by decide), st_nf τ n v (f := 5) (g := 6) (by decide), st_nf τ n v (f := 5) (g := 7) (by decide), st_nf τ n v (f := 5) (g := 8) (by decide), st_nf τ n v (f := 5) (g := 9) (by decide), st_nf τ n v (f := 5) (g := 10) (by decide), st_nf τ n v (f := 5) (g := 11) (by decide)]
  · rw [cC_5, cC_5, st_nf τ n v (f := 5) (g := 13) (by decide), st_nf τ n v (f := 5) (g := 14) (by decide), st_nf τ n v (f := 5) (g := 15) (by decide), st_nf τ n v (f := 5) (g := 16) (by decide), st_nf τ n v (f := 5) (g := 17) (by decide), st_nf τ n v (f := 5) (g := 18) (by decide), st_nf τ n v (f := 5) (g := 19) (by decide), st_nf τ n v (f := 5) (g := 20) (by decide)]
  · rw [cC_6, cC_6, st_nf τ n v (f := 5) (g := 23) (by decide), st_nf τ n v (f := 5) (g := 24) (by decide), st_nf τ n v (f := 5) (g := 25) (by decide), st_nf τ n v (f := 5) (g := 26) (by decide), st_nf τ n v (f := 5) (g := 27) (by decide), st_nf τ n v (f := 5) (g := 28) (by decide), st_nf τ n v (f := 5) (g := 50) (by decide), st_nf τ n v (f := 5) (g := 51) (by decide), st_nf τ n v (f := 5) (g := 22) (by decide), st_nf τ n v (f := 5) (g := 29) (by decide), st_nf τ n v (f := 5) (g := 31) (by decide)]
  · rw [cC_7, cC_7, st_nf τ n v (f := 5) (g := 32) (by decide), st_nf τ n v (f := 5) (g := 33) (by decide)]
  · rw [cC_8, cC_8, st_nf τ n v (f := 5) (g := 55) (by decide), st_nf τ n v (f := 5) (g := 36) (by decide), st_nf τ n v (f := 5) (g := 37) (by decide), st_nf τ n v (f := 5) (g := 38) (by decide), st_nf τ n v (f := 5) (g := 39) (by decide), st_nf τ n v (f := 5) (g := 40) (by decide), st_nf τ n v (f := 5) (g := 41) (by decide), st_nf τ n v (f := 5) (g := 42) (by decide), st_nf τ n v (f := 5) (g := 35) (by decide), st_nf τ n v (f := 5) (g := 44) (by decide), st_nf τ n v (f := 5) (g := 43) (by decide), st_nf τ n v (f := 5) (g := 45) (by decide)]
theorem cz_6 {cI cO : ClassId} {g : Gh} {cap N : Nat → Nat} {τ : St} {n : Nat} {v : Int32} (hn : N 4 ≤ n) : ∀ k' n', lv N cap k' n' → cC cI cO g cap (st τ 6 n v) k' n' = cC cI cO g cap τ k' n' := by
  intro k n' hl
  obtain ⟨h9, hl2, -⟩ := hl
  have h10 : k = 0 ∨ k = 1 ∨ k = 2 ∨ k = 3 ∨ k = 4 ∨ k = 5 ∨ k = 6 ∨ k = 7 ∨ k = 8 := by omega
  clear h9
  rcases h10 with rfl | rfl | rfl | rfl | rfl | rfl | rfl | rfl | rfl
  · rw [cC_0, cC_0, st_nf τ n v (f := 6) (g := 1) (by decide)]
  · rw [cC_1, cC_1, st_nf τ n v (f := 6) (g := 52) (by decide), st_nf τ n v (f := 6) (g := 54) (by decide)]
  · exact congrArg (fun z => (Sum.inl (cO, cap n', .inr (.inr (.inr (.inr z)))) : va_E)) (crow_st (by decide) (by decide) n')
  · rw [cC_3, cC_3, st_nf τ n v (f := 6) (g := 48) (by decide)]
  · have hj : n' ≠ n := by omega
    rw [cC_4, cC_4, st_nj τ 6 v hj, st_nf τ n v (f := 6) (g := 3) (by decide), st_nf τ n v (f := 6) (g := 4) (by decide), st_nf τ n v (f := 6) (g := 5) (by decide), st_nf τ n v (f := 6) (g := 7) (by decide), st_nf τ n v (f := 6) (g := 8) (by decide), st_nf τ n v (f := 6) (g := 9) (by decide), st_nf τ n v (f := 6) (g := 10) (by decide), st_nf τ n v (f := 6) (g := 11) (by decide)]
  · rw [cC_5, cC_5, st_nf τ n v (f := 6) (g := 13) (by decide), st_nf τ n v (f := 6) (g := 14) (by decide), st_nf τ n v (f := 6) (g := 15) (by decide), st_nf τ n v (f := 6) (g := 16) (by decide), st_nf τ n v (f := 6) (g := 17) (by decide), st_nf τ n v (f := 6) (g := 18) (by decide), st_nf τ n v (f := 6) (g := 19) (by decide), st_nf τ n v (f := 6) (g := 20) (by decide)]
  · rw [cC_6, cC_6, st_nf τ n v (f := 6) (g := 23) (by decide), st_nf τ n v (f := 6) (g := 24) (by decide), st_nf τ n v (f := 6) (g := 25) (by decide), st_nf τ n v (f := 6) (g := 26) (by decide), st_nf τ n v (f := 6) (g := 27) (by decide), st_nf τ n v (f := 6) (g := 28) (by decide), st_nf τ n v (f := 6) (g := 50) (by decide), st_nf τ n v (f := 6) (g := 51) (by decide), st_nf τ n v (f := 6) (g := 22) (by decide), st_nf τ n v (f := 6) (g := 29) (by decide), st_nf τ n v (f := 6) (g := 31) (by decide)]
  · rw [cC_7, cC_7, st_nf τ n v (f := 6) (g := 32) (by decide), st_nf τ n v (f := 6) (g := 33) (by decide)]
  · rw [cC_8, cC_8, st_nf τ n v (f := 6) (g := 55) (by decide), st_nf τ n v (f := 6) (g := 36) (by decide), st_nf τ n v (f := 6) (g := 37) (by decide), st_nf τ n v (f := 6) (g := 38) (by decide), st_nf τ n v (f := 6) (g := 39) (by decide), st_nf τ n v (f := 6) (g := 40) (by decide), st_nf τ n v (f := 6) (g := 41) (by decide), st_nf τ n v (f := 6) (g := 42) (by decide), st_nf τ n v (f := 6) (g := 35) (by decide), st_nf τ n v (f := 6) (g := 44) (by decide), st_nf τ n v (f := 6) (g := 43) (by decide), st_nf τ n v (f := 6) (g := 45) (by decide)]
theorem cz_7 {cI cO : ClassId} {g : Gh} {cap N : Nat → Nat} {τ : St} {n : Nat} {v : Int32} (hn : N 4 ≤ n) : ∀ k' n', lv N cap k' n' → cC cI cO g cap (st τ 7 n v) k' n' = cC cI cO g cap τ k' n' := by
  intro k n' hl
  obtain ⟨h9, hl2, -⟩ := hl
  have h10 : k = 0 ∨ k = 1 ∨ k = 2 ∨ k = 3 ∨ k = 4 ∨ k = 5 ∨ k = 6 ∨ k = 7 ∨ k = 8 := by omega
  clear h9
  rcases h10 with rfl | rfl | rfl | rfl | rfl | rfl | rfl | rfl | rfl
  · rw [cC_0, cC_0, st_nf τ n v (f := 7) (g := 1) (by decide)]
  · rw [cC_1, cC_1, st_nf τ n v (f := 7) (g := 52) (by decide), st_nf τ n v (f := 7) (g := 54) (by decide)]
  · exact congrArg (fun z => (Sum.inl (cO, cap n', .inr (.inr (.inr (.inr z)))) : va_E)) (crow_st (by decide) (by decide) n')
  · rw [cC_3, cC_3, st_nf τ n v (f := 7) (g := 48) (by decide)]
  · have hj : n' ≠ n := by omega
    rw [cC_4, cC_4, st_nj τ 7 v hj, st_nf τ n v (f := 7) (g := 3) (by decide), st_nf τ n v (f := 7) (g := 4) (by decide), st_nf τ n v (f := 7) (g := 5) (by decide), st_nf τ n v (f := 7) (g := 6) (by decide), st_nf τ n v (f := 7) (g := 8) (by decide), st_nf τ n v (f := 7) (g := 9) (by decide), st_nf τ n v (f := 7) (g := 10) (by decide), st_nf τ n v (f := 7) (g := 11) (by decide)]
  · rw [cC_5, cC_5, st_nf τ n v (f := 7) (g := 13) (by decide), st_nf τ n v (f := 7) (g := 14) (by decide), st_nf τ n v (f := 7) (g := 15) (by decide), st_nf τ n v (f := 7) (g := 16) (by decide), st_nf τ n v (f := 7) (g := 17) (by decide), st_nf τ n v (f := 7) (g := 18) (by decide), st_nf τ n v (f := 7) (g := 19) (by decide), st_nf τ n v (f := 7) (g := 20) (by decide)]
  · rw [cC_6, cC_6, st_nf τ n v (f := 7) (g := 23) (by decide), st_nf τ n v (f := 7) (g := 24) (by decide), st_nf τ n v (f := 7) (g := 25) (by decide), st_nf τ n v (f := 7) (g := 26) (by decide), st_nf τ n v (f := 7) (g := 27) (by decide), st_nf τ n v (f := 7) (g := 28) (by decide), st_nf τ n v (f := 7) (g := 50) (by decide), st_nf τ n v (f := 7) (g := 51) (by decide), st_nf τ n v (f := 7) (g := 22) (by decide), st_nf τ n v (f := 7) (g := 29) (by decide), st_nf τ n v (f := 7) (g := 31) (by decide)]
  · rw [cC_7, cC_7, st_nf τ n v (f := 7) (g := 32) (by decide), st_nf τ n v (f := 7) (g := 33) (by decide)]
  · rw [cC_8, cC_8, st_nf τ n v (f := 7) (g := 55) (by decide), st_nf τ n v (f := 7) (g := 36) (by decide), st_nf τ n v (f := 7) (g := 37) (by decide), st_nf τ n v (f := 7) (g := 38) (by decide), st_nf τ n v (f := 7) (g := 39) (by decide), st_nf τ n v (f := 7) (g := 40) (by decide), st_nf τ n v (f := 7) (g := 41) (by decide), st_nf τ n v (f := 7) (g := 42) (by decide), st_nf τ n v (f := 7) (g := 35) (by decide), st_nf τ n v (f := 7) (g := 44) (by decide), st_nf τ n v (f := 7) (g := 43) (by decide), st_nf τ n v (f := 7) (g := 45) (by decide)]
theorem cz_8 {cI cO : ClassId} {g : Gh} {cap N : Nat → Nat} {τ : St} {n : Nat} {v : Int32} (hn : N 4 ≤ n) : ∀ k' n', lv N cap k' n' → cC cI cO g cap (st τ 8 n v) k' n' = cC cI cO g cap τ k' n' := by
  intro k n' hl
  obtain ⟨h9, hl2, -⟩ := hl
  have h10 : k = 0 ∨ k = 1 ∨ k = 2 ∨ k = 3 ∨ k = 4 ∨ k = 5 ∨ k = 6 ∨ k = 7 ∨ k = 8 := by omega
  clear h9
  rcases h10 with rfl | rfl | rfl | rfl | rfl | rfl | rfl | rfl | rfl
  · rw [cC_0, cC_0, st_nf τ n v (f := 8) (g := 1) (by decide)]
  · rw [cC_1, cC_1, st_nf τ n v (f := 8) (g := 52) (by decide), st_nf τ n v (f := 8) (g := 54) (by decide)]
  · exact congrArg (fun z => (Sum.inl (cO, cap n', .inr (.inr (.inr (.inr z)))) : va_E)) (crow_st (by decide) (by decide) n')
  · rw [cC_3, cC_3, st_nf τ n v (f := 8) (g := 48) (by decide)]
  · have hj : n' ≠ n := by omega
    rw [cC_4, cC_4, st_nj τ 8 v hj, st_nf τ n v (f := 8) (g := 3) (by decide), st_nf τ n v (f := 8) (g := 4) (by decide), st_nf τ n v (f := 8) (g := 5) (by decide), st_nf τ n v (f := 8) (g := 6) (by decide), st_nf τ n v (f := 8) (g := 7) (by decide), st_nf τ n v (f := 8) (g := 9) (by decide), st_nf τ n v (f := 8) (g := 10) (by decide), st_nf τ n v (f := 8) (g := 11) (by decide)]
  · rw [cC_5, cC_5, st_nf τ n v (f := 8) (g := 13) (by decide), st_nf τ n v (f := 8) (g := 14) (by decide), st_nf τ n v (f := 8) (g := 15) (by decide), st_nf τ n v (f := 8) (g := 16) (by decide), st_nf τ n v (f := 8) (g := 17) (by decide), st_nf τ n v (f := 8) (g := 18) (by decide), st_nf τ n v (f := 8) (g := 19) (by decide), st_nf τ n v (f := 8) (g := 20) (by decide)]
  · rw [cC_6, cC_6, st_nf τ n v (f := 8) (g := 23) (by decide), st_nf τ n v (f := 8) (g := 24) (by decide), st_nf τ n v (f := 8) (g := 25) (by decide), st_nf τ n v (f := 8) (g := 26) (by decide), st_nf τ n v (f := 8) (g := 27) (by decide), st_nf τ n v (f := 8) (g := 28) (by decide), st_nf τ n v (f := 8) (g := 50) (by decide), st_nf τ n v (f := 8) (g := 51) (by decide), st_nf τ n v (f := 8) (g := 22) (by decide), st_nf τ n v (f := 8) (g := 29) (by decide), st_nf τ n v (f := 8) (g := 31) (by decide)]
  · rw [cC_7, cC_7, st_nf τ n v (f := 8) (g := 32) (by decide), st_nf τ n v (f := 8) (g := 33) (by decide)]
  · rw [cC_8, cC_8, st_nf τ n v (f := 8) (g := 55) (by decide), st_nf τ n v (f := 8) (g := 36) (by decide), st_nf τ n v (f := 8) (g := 37) (by decide), st_nf τ n v (f := 8) (g := 38) (by decide), st_nf τ n v (f := 8) (g := 39) (by decide), st_nf τ n v (f := 8) (g := 40) (by decide), st_nf τ n v (f := 8) (g := 41) (by decide), st_nf τ n v (f := 8) (g := 42) (by decide), st_nf τ n v (f := 8) (g := 35) (by decide), st_nf τ n v (f := 8) (g := 44) (by decide), st_nf τ n v (f := 8) (g := 43) (by decide), st_nf τ n v (f := 8) (g := 45) (by decide)]
theorem cz_9 {cI cO : ClassId} {g : Gh} {cap N : Nat → Nat} {τ : St} {n : Nat} {v : Int32} (hn : N 4 ≤ n) : ∀ k' n', lv N cap k' n' → cC cI cO g cap (st τ 9 n v) k' n' = cC cI cO g cap τ k' n' := by
  intro k n' hl
  obtain ⟨h9, hl2, -⟩ := hl
  have h10 : k = 0 ∨ k = 1 ∨ k = 2 ∨ k = 3 ∨ k = 4 ∨ k = 5 ∨ k = 6 ∨ k = 7 ∨ k = 8 := by omega
  clear h9
  rcases h10 with rfl | rfl | rfl | rfl | rfl | rfl | rfl | rfl | rfl
  · rw [cC_0, cC_0, st_nf τ n v (f := 9) (g := 1) (by decide)]
  · rw [cC_1, cC_1, st_nf τ n v (f := 9) (g := 52) (by decide), st_nf τ n v (f := 9) (g := 54) (by decide)]
  · exact congrArg (fun z => (Sum.inl (cO, cap n', .inr (.inr (.inr (.inr z)))) : va_E)) (crow_st (by decide) (by decide) n')
  · rw [cC_3, cC_3, st_nf τ n v (f := 9) (g := 48) (by decide)]
  · have hj : n' ≠ n := by omega
    rw [cC_4, cC_4, st_nj τ 9 v hj, st_nf τ n v (f := 9) (g := 3) (by decide), st_nf τ n v (f := 9) (g := 4) (by decide), st_nf τ n v (f := 9) (g := 5) (by decide), st_nf τ n v (f := 9) (g := 6) (by decide), st_nf τ n v (f := 9) (g := 7) (by decide), st_nf τ n v (f := 9) (g := 8) (by decide), st_nf τ n v (f := 9) (g := 10) (by decide), st_nf τ n v (f := 9) (g := 11) (by decide)]
  · rw [cC_5, cC_5, st_nf τ n v (f := 9) (g := 13) (by decide), st_nf τ n v (f := 9) (g := 14) (by decide), st_nf τ n v (f := 9) (g := 15) (by decide), st_nf τ n v (f := 9) (g := 16) (by decide), st_nf τ n v (f := 9) (g := 17) (by decide), st_nf τ n v (f := 9) (g := 18) (by decide), st_nf τ n v (f := 9) (g := 19) (by decide), st_nf τ n v (f := 9) (g := 20) (by decide)]
  · rw [cC_6, cC_6, st_nf τ n v (f := 9) (g := 23) (by decide), st_nf τ n v (f := 9) (g := 24) (by decide), st_nf τ n v (f := 9) (g := 25) (by decide), st_nf τ n v (f := 9) (g := 26) (by decide), st_nf τ n v (f := 9) (g := 27) (by decide), st_nf τ n v (f := 9) (g := 28) (by decide), st_nf τ n v (f := 9) (g := 50) (by decide), st_nf τ n v (f := 9) (g := 51) (by decide), st_nf τ n v (f := 9) (g := 22) (by decide), st_nf τ n v (f := 9) (g := 29) (by decide), st_nf τ n v (f := 9) (g := 31) (by decide)]
  · rw [cC_7, cC_7, st_nf τ n v (f := 9) (g := 32) (by decide), st_nf τ n v (f := 9) (g := 33) (by decide)]
  · rw [cC_8, cC_8, st_nf τ n v (f := 9) (g := 55) (by decide), st_nf τ n v (f := 9) (g := 36) (by decide), st_nf τ n v (f := 9) (g := 37) (by decide), st_nf τ n v (f := 9) (g := 38) (by decide), st_nf τ n v (f := 9) (g := 39) (by decide), st_nf τ n v (f := 9) (g := 40) (by decide), st_nf τ n v (f := 9) (g := 41) (by decide), st_nf τ n v (f := 9) (g := 42) (by decide), st_nf τ n v (f := 9) (g := 35) (by decide), st_nf τ n v (f := 9) (g := 44) (by decide), st_nf τ n v (f := 9) (g := 43) (by decide), st_nf τ n v (f := 9) (g := 45) (by decide)]
theorem cz_10 {cI cO : ClassId} {g : Gh} {cap N : Nat → Nat} {τ : St} {n : Nat} {v : Int32} (hn : N 4 ≤ n) : ∀ k' n', lv N cap k' n' → cC cI cO g cap (st τ 10 n v) k' n' = cC cI cO g cap τ k' n' := by
  intro k n' hl
  obtain ⟨h9, hl2, -⟩ := hl
  have h10 : k = 0 ∨ k = 1 ∨ k = 2 ∨ k = 3 ∨ k = 4 ∨ k = 5 ∨ k = 6 ∨ k = 7 ∨ k = 8 := by omega
  clear h9
  rcases h10 with rfl | rfl | rfl | rfl | rfl | rfl | rfl | rfl | rfl
  · rw [cC_0, cC_0, st_nf τ n v (f := 10) (g := 1) (by decide)]
  · rw [cC_1, cC_1, st_nf τ n v (f := 10) (g := 52) (by decide), st_nf τ n v (f := 10) (g := 54) (by decide)]
  · exact congrArg (fun z => (Sum.inl (cO, cap n', .inr (.inr (.inr (.inr z)))) : va_E)) (crow_st (by decide) (by decide) n')
  · rw [cC_3, cC_3, st_nf τ n v (f := 10) (g := 48) (by decide)]
  · have hj : n' ≠ n := by omega
    rw [cC_4, cC_4, st_nj τ 10 v hj, st_nf τ n v (f := 10) (g := 3) (by decide), st_nf τ n v (f := 10) (g := 4) (by decide), st_nf τ n v (f := 10) (g := 5) (by decide), st_nf τ n v (f := 10) (g := 6) (by decide), st_nf τ n v (f := 10) (g := 7) (by decide), st_nf τ n v (f := 10) (g := 8) (by decide), st_nf τ n v (f := 10) (g := 9) (by decide), st_nf τ n v (f := 10) (g := 11) (by decide)]
  · rw [cC_5, cC_5, st_nf τ n v (f := 10) (g := 13) (by decide), st_nf τ n v (f := 10) (g := 14) (by decide), st_nf τ n v (f := 10) (g := 15) (by decide), st_nf τ n v (f := 10) (g := 16) (by decide), st_nf τ n v (f := 10) (g := 17) (by decide), st_nf τ n v (f := 10) (g := 18) (by decide), st_nf τ n v (f := 10) (g := 19) (by decide), st_nf τ n v (f := 10) (g := 20) (by decide)]
  · rw [cC_6, cC_6, st_nf τ n v (f := 10) (g := 23) (by decide), st_nf τ n v (f := 10) (g := 24) (by decide), st_nf τ n v (f := 10) (g := 25) (by decide), st_nf τ n v (f := 10) (g := 26) (by decide), st_nf τ n v (f := 10) (g := 27) (by decide), st_nf τ n v (f := 10) (g := 28) (by decide), st_nf τ n v (f := 10) (g := 50) (by decide), st_nf τ n v (f := 10) (g := 51) (by decide), st_nf τ n v (f := 10) (g := 22) (by decide), st_nf τ n v (f := 10) (g := 29) (by decide), st_nf τ n v (f := 10) (g := 31) (by decide)]
  · rw [cC_7, cC_7, st_nf τ n v (f := 10) (g := 32) (by decide), st_nf τ n v (f := 10) (g := 33) (by decide)]
  · rw [cC_8, cC_8, st_nf τ n v (f := 10) (g := 55) (by decide), st_nf τ n v (f := 10) (g := 36) (by decide), st_nf τ n v (f := 10) (g := 37) (by decide), st_nf τ n v (f := 10) (g := 38) (by decide), st_nf τ n v (f := 10) (g := 39) (by decide), st_nf τ n v (f := 10) (g := 40) (by decide), st_nf τ n v (f := 10) (g := 41) (by decide), st_nf τ n v (f := 10) (g := 42) (by decide), st_nf τ n v (f := 10) (g := 35) (by decide), st_nf τ n v (f := 10) (g := 44) (by decide), st_nf τ n v (f := 10) (g := 43) (by decide), st_nf τ n v (f := 10) (g := 45) (by decide)]
theorem cz_11 {cI cO : ClassId} {g : Gh} {cap N : Nat → Nat} {τ : St} {n : Nat} {v : Int32} (hn : N 4 ≤ n) : ∀ k' n', lv N cap k' n' → cC cI cO g cap (st τ 11 n v) k' n' = cC cI cO g cap τ k' n' := by
  intro k n' hl
  obtain ⟨h9, hl2, -⟩ := hl
  have h10 : k = 0 ∨ k = 1 ∨ k = 2 ∨ k = 3 ∨ k = 4 ∨ k = 5 ∨ k = 6 ∨ k = 7 ∨ k = 8 := by omega
  clear h9
  rcases h10 with rfl | rfl | rfl | rfl | rfl | rfl | rfl | rfl | rfl
  · rw [cC_0, cC_0, st_nf τ n v (f := 11) (g := 1) (by decide)]
  · rw [cC_1, cC_1, st_nf τ n v (f := 11) (g := 52) (by decide), st_nf τ n v (f := 11) (g := 54) (by decide)]
  · exact congrArg (fun z => (Sum.inl (cO, cap n', .inr (.inr (.inr (.inr z)))) : va_E)) (crow_st (by decide) (by decide) n')
  · rw [cC_3, cC_3, st_nf τ n v (f := 11) (g := 48) (by decide)]
  · have hj : n' ≠ n := by omega
    rw [cC_4, cC_4, st_nj τ 11 v hj, st_nf τ n v (f := 11) (g := 3) (by decide), st_nf τ n v (f := 11) (g := 4) (by decide), st_nf τ n v (f := 11) (g := 5) (by decide), st_nf τ n v (f := 11) (g := 6) (by decide), st_nf τ n v (f := 11) (g := 7) (by decide), st_nf τ n v (f := 11) (g := 8) (by decide), st_nf τ n v (f := 11) (g := 9) (by decide), st_nf τ n v (f := 11) (g := 10) (by decide)]
  · rw [cC_5, cC_5, st_nf τ n v (f := 11) (g := 13) (by decide), st_nf τ n v (f := 11) (g := 14) (by decide), st_nf τ n v (f := 11) (g := 15) (by decide), st_nf τ n v (f := 11) (g := 16) (by decide), st_nf τ n v (f := 11) (g := 17) (by decide), st_nf τ n v (f := 11) (g := 18) (by decide), st_nf τ n v (f := 11) (g := 19) (by decide), st_nf τ n v (f := 11) (g := 20) (by decide)]
  · rw [cC_6, cC_6, st_nf τ n v (f := 11) (g := 23) (by decide), st_nf τ n v (f := 11) (g := 24) (by decide), st_nf τ n v (f := 11) (g := 25) (by decide), st_nf τ n v (f := 11) (g := 26) (by decide), st_nf τ n v (f := 11) (g := 27) (by decide), st_nf τ n v (f := 11) (g := 28) (by decide), st_nf τ n v (f := 11) (g := 50) (by decide), st_nf τ n v (f := 11) (g := 51) (by decide), st_nf τ n v (f := 11) (g := 22) (by decide), st_nf τ n v (f := 11) (g := 29) (by decide), st_nf τ n v (f := 11) (g := 31) (by decide)]
  · rw [cC_7, cC_7, st_nf τ n v (f := 11) (g := 32) (by decide), st_nf τ n v (f := 11) (g := 33) (by decide)]
  · rw [cC_8, cC_8, st_nf τ n v (f := 11) (g := 55) (by decide), st_nf τ n v (f := 11) (g := 36) (by decide), st_nf τ n v (f := 11) (g := 37) (by decide), st_nf τ n v (f := 11) (g := 38) (by decide), st_nf τ n v (f := 11) (g := 39) (by decide), st_nf τ n v (f := 11) (g := 40) (by decide), st_nf τ n v (f := 11) (g := 41) (by decide), st_nf τ n v (f := 11) (g := 42) (by decide), st_nf τ n v (f := 11) (g := 35) (by decide), st_nf τ n v (f := 11) (g := 44) (by decide), st_nf τ n v (f := 11) (g := 43) (by decide), st_nf τ n v (f := 11) (g := 45) (by decide)]
theorem cz_13 {cI cO : ClassId} {g : Gh} {cap N : Nat → Nat} {τ : St} {n : Nat} {v : Int32} (hn : N 5 ≤ n) : ∀ k' n', lv N cap k' n' → cC cI cO g cap (st τ 13 n v) k' n' = cC cI cO g cap τ k' n' := by
  intro k n' hl
  obtain ⟨h9, hl2, -⟩ := hl
  have h10 : k = 0 ∨ k = 1 ∨ k = 2 ∨ k = 3 ∨ k = 4 ∨ k = 5 ∨ k = 6 ∨ k = 7 ∨ k = 8 := by omega
  clear h9
  rcases h10 with rfl | rfl | rfl | rfl | rfl | rfl | rfl | rfl | rfl
  · rw [cC_0, cC_0, st_nf τ n v (f := 13) (g := 1) (by decide)]
  · rw [cC_1, cC_1, st_nf τ n v (f := 13) (g := 52) (by decide), st_nf τ n v (f := 13) (g := 54) (by decide)]
  · exact congrArg (fun z => (Sum.inl (cO, cap n', .inr (.inr (.inr (.inr z)))) : va_E)) (crow_st (by decide) (by decide) n')
  · rw [cC_3, cC_3, st_nf τ n v (f := 13) (g := 48) (by decide)]
  · rw [cC_4, cC_4, st_nf τ n v (f := 13) (g := 3) (by decide), st_nf τ n v (f := 13) (g := 4) (by decide), st_nf τ n v (f := 13) (g := 5) (by decide), st_nf τ n v (f := 13) (g := 6) (by decide), st_nf τ n v (f := 13) (g := 7) (by decide), st_nf τ n v (f := 13) (g := 8) (by decide), st_nf τ n v (f := 13) (g := 9) (by decide), st_nf τ n v (f := 13) (g := 10) (by decide), st_nf τ n v (f := 13) (g := 11) (by decide)]
  · have hj : n' ≠ n := by omega
    rw [cC_5, cC_5, st_nj τ 13 v hj, st_nf τ n v (f := 13) (g := 14) (by decide), st_nf τ n v (f := 13) (g := 15) (by decide), st_nf τ n v (f := 13) (g := 16) (by decide), st_nf τ n v (f := 13) (g := 17) (by decide), st_nf τ n v (f := 13) (g := 18) (by decide), st_nf τ n v (f := 13) (g := 19) (by decide), st_nf τ n v (f := 13) (g := 20) (by decide)]
  · rw [cC_6, cC_6, st_nf τ n v (f := 13) (g := 23) (by decide), st_nf τ n v (f := 13) (g := 24) (by decide), st_nf τ n v (f := 13) (g := 25) (by decide), st_nf τ n v (f := 13) (g := 26) (by decide), st_nf τ n v (f := 13) (g := 27) (by decide), st_nf τ n v (f := 13) (g := 28) (by decide), st_nf τ n v (f := 13) (g := 50) (by decide), st_nf τ n v (f := 13) (g := 51) (by decide), st_nf τ n v (f := 13) (g := 22) (by decide), st_nf τ n v (f := 13) (g := 29) (by decide), st_nf τ n v (f := 13) (g := 31) (by decide)]
  · rw [cC_7, cC_7, st_nf τ n v (f := 13) (g := 32) (by decide), st_nf τ n v (f := 13) (g := 33) (by decide)]
  · rw [cC_8, cC_8, st_nf τ n v (f := 13) (g := 55) (by decide), st_nf τ n v (f := 13) (g := 36) (by decide), st_nf τ n v (f := 13) (g := 37) (by decide), st_nf τ n v (f := 13) (g := 38) (by decide), st_nf τ n v (f := 13) (g := 39) (by decide), st_nf τ n v (f := 13) (g := 40) (by decide), st_nf τ n v (f := 13) (g := 41) (by decide), st_nf τ n v (f := 13) (g := 42) (by decide), st_nf τ n v (f := 13) (g := 35) (by decide), st_nf τ n v (f := 13) (g := 44) (by decide), st_nf τ n v (f := 13) (g := 43) (by decide), st_nf τ n v (f := 13) (g := 45) (by decide)]
theorem cz_14 {cI cO : ClassId} {g : Gh} {cap N : Nat → Nat} {τ : St} {n : Nat} {v : Int32} (hn : N 5 ≤ n) : ∀ k' n', lv N cap k' n' → cC cI cO g cap (st τ 14 n v) k' n' = cC cI cO g cap τ k' n' := by
  intro k n' hl
  obtain ⟨h9, hl2, -⟩ := hl
  have h10 : k = 0 ∨ k = 1 ∨ k = 2 ∨ k = 3 ∨ k = 4 ∨ k = 5 ∨ k = 6 ∨ k = 7 ∨ k = 8 := by omega
  clear h9
  rcases h10 with rfl | rfl | rfl | rfl | rfl | rfl | rfl | rfl | rfl
  · rw [cC_0, cC_0, st_nf τ n v (f := 14) (g := 1) (by decide)]
  · rw [cC_1, cC_1, st_nf τ n v (f := 14) (g := 52) (by decide), st_nf τ n v (f := 14) (g := 54) (by decide)]
  · exact congrArg (fun z => (Sum.inl (cO, cap n', .inr (.inr (.inr (.inr z)))) : va_E)) (crow_st (by decide) (by decide) n')
  · rw [cC_3, cC_3, st_nf τ n v (f := 14) (g := 48) (by decide)]
  · rw [cC_4, cC_4, st_nf τ n v (f := 14) (g := 3) (by decide), st_nf τ n v (f := 14) (g := 4) (by decide), st_nf τ n v (f := 14) (g := 5) (by decide), st_nf τ n v (f := 14) (g := 6) (by decide), st_nf τ n v (f := 14) (g := 7) (by decide), st_nf τ n v (f := 14) (g := 8) (by decide), st_nf τ n v (f := 14) (g := 9) (by decide), st_nf τ n v (f := 14) (g := 10) (by decide), st_nf τ n v (f := 14) (g := 11) (by decide)]
  · have hj : n' ≠ n := by omega
    rw [cC_5, cC_5, st_nj τ 14 v hj, st_nf τ n v (f := 14) (g := 13) (by decide), st_nf τ n v (f := 14) (g := 15) (by decide), st_nf τ n v (f := 14) (g := 16) (by decide), st_nf τ n v (f := 14) (g := 17) (by decide), st_nf τ n v (f := 14) (g := 18) (by decide), st_nf τ n v (f := 14) (g := 19) (by decide), st_nf τ n v (f := 14) (g := 20) (by decide)]
  · rw [cC_6, cC_6, st_nf τ n v (f := 14) (g := 23) (by decide), st_nf τ n v (f := 14) (g := 24) (by decide), st_nf τ n v (f := 14) (g := 25) (by decide), st_nf τ n v (f := 14) (g := 26) (by decide), st_nf τ n v (f := 14) (g := 27) (by decide), st_nf τ n v (f := 14) (g := 28) (by decide), st_nf τ n v (f := 14) (g := 50) (by decide), st_nf τ n v (f := 14) (g := 51) (by decide), st_nf τ n v (f := 14) (g := 22) (by decide), st_nf τ n v (f := 14) (g := 29) (by decide), st_nf τ n v (f := 14) (g := 31) (by decide)]
  · rw [cC_7, cC_7, st_nf τ n v (f := 14) (g := 32) (by decide), st_nf τ n v (f := 14) (g := 33) (by decide)]
  · rw [cC_8, cC_8, st_nf τ n v (f := 14) (g := 55) (by decide), st_nf τ n v (f := 14) (g := 36) (by decide), st_nf τ n v (f := 14) (g := 37) (by decide), st_nf τ n v (f := 14) (g := 38) (by decide), st_nf τ n v (f := 14) (g := 39) (by decide), st_nf τ n v (f := 14) (g := 40) (by decide), st_nf τ n v (f := 14) (g := 41) (by decide), st_nf τ n v (f := 14) (g := 42) (by decide), st_nf τ n v (f := 14) (g := 35) (by decide), st_nf τ n v (f := 14) (g := 44) (by decide), st_nf τ n v (f := 14) (g := 43) (by decide), st_nf τ n v (f := 14) (g := 45) (by decide)]
theorem cz_15 {cI cO : ClassId} {g : Gh} {cap N : Nat → Nat} {τ : St} {n : Nat} {v : Int32} (hn : N 5 ≤ n) : ∀ k' n', lv N cap k' n' → cC cI cO g cap (st τ 15 n v) k' n' = cC cI cO g cap τ k' n' := by
  intro k n' hl
  obtain ⟨h9, hl2, -⟩ := hl
  have h10 : k = 0 ∨ k = 1 ∨ k = 2 ∨ k = 3 ∨ k = 4 ∨ k = 5 ∨ k = 6 ∨ k = 7 ∨ k = 8 := by omega
  clear h9
  rcases h10 with rfl | rfl | rfl | rfl | rfl | rfl | rfl | rfl | rfl
  · rw [cC_0, cC_0, st_nf τ n v (f := 15) (g := 1) (by decide)]
  · rw [cC_1, cC_1, st_nf τ n v (f := 15) (g := 52) (by decide), st_nf τ n v (f := 15) (g := 54) (by decide)]
  · exact congrArg (fun z => (Sum.inl (cO, cap n', .inr (.inr (.inr (.inr z)))) : va_E)) (crow_st (by decide) (by decide) n')
  · rw [cC_3, cC_3, st_nf τ n v (f := 15) (g := 48) (by decide)]
  · rw [cC_4, cC_4, st_nf τ n v (f := 15) (g := 3) (by decide), st_nf τ n v (f := 15) (g := 4) (by decide), st_nf τ n v (f := 15) (g := 5) (by decide), st_nf τ n v (f := 15) (g := 6) (by decide), st_nf τ n v (f := 15) (g := 7) (by decide), st_nf τ n v (f := 15) (g := 8) (by decide), st_nf τ n v (f := 15) (g := 9) (by decide), st_nf τ n v (f := 15) (g := 10) (by decide), st_nf τ n v (f := 15) (g := 11) (by decide)]
  · have hj : n' ≠ n := by omega
    rw [cC_5, cC_5, st_nj τ 15 v hj, st_nf τ n v (f := 15) (g := 13) (by decide), st_nf τ n v (f := 15) (g := 14) (by decide), st_nf τ n v (f := 15) (g := 16) (by decide), st_nf τ n v (f := 15) (g := 17) (by decide), st_nf τ n v (f := 15) (g := 18) (by decide), st_nf τ n v (f := 15) (g := 19) (by decide), st_nf τ n v (f := 15) (g := 20) (by decide)]
  · rw [cC_6, cC_6, st_nf τ n v (f := 15) (g := 23) (by decide), st_nf τ n v (f := 15) (g := 24) (by decide), st_nf τ n v (f := 15) (g := 25) (by decide), st_nf τ n v (f := 15) (g := 26) (by decide), st_nf τ n v (f := 15) (g := 27) (by decide), st_nf τ n v (f := 15) (g := 28) (by decide), st_nf τ n v (f := 15) (g := 50) (by decide), st_nf τ n v (f := 15) (g := 51) (by decide), st_nf τ n v (f := 15) (g := 22) (by decide), st_nf τ n v (f := 15) (g := 29) (by decide), st_nf τ n v (f := 15) (g := 31) (by decide)]
  · rw [cC_7, cC_7, st_nf τ n v (f := 15) (g := 32) (by decide), st_nf τ n v (f := 15) (g := 33) (by decide)]
  · rw [cC_8, cC_8, st_nf τ n v (f := 15) (g := 55) (by decide), st_nf τ n v (f := 15) (g := 36) (by decide), st_nf τ n v (f := 15) (g := 37) (by decide), st_nf τ n v (f := 15) (g := 38) (by decide), st_nf τ n v (f := 15) (g := 39) (by decide), st_nf τ n v (f := 15) (g := 40) (by decide), st_nf τ n v (f := 15) (g := 41) (by decide), st_nf τ n v (f := 15) (g := 42) (by decide), st_nf τ n v (f := 15) (g := 35) (by decide), st_nf τ n v (f := 15) (g := 44) (by decide), st_nf τ n v (f := 15) (g := 43) (by decide), st_nf τ n v (f := 15) (g := 45) (by decide)]
theorem cz_16 {cI cO : ClassId} {g : Gh} {cap N : Nat → Nat} {τ : St} {n : Nat} {v : Int32} (hn : N 5 ≤ n) : ∀ k' n', lv N cap k' n' → cC cI cO g cap (st τ 16 n v) k' n' = cC cI cO g cap τ k' n' := by
  intro k n' hl
  obtain ⟨h9, hl2, -⟩ := hl
  have h10 : k = 0 ∨ k = 1 ∨ k = 2 ∨ k = 3 ∨ k = 4 ∨ k = 5 ∨ k = 6 ∨ k = 7 ∨ k = 8 := by omega
  clear h9
  rcases h10 with rfl | rfl | rfl | rfl | rfl | rfl | rfl | rfl | rfl
  · rw [cC_0, cC_0, st_nf τ n v (f := 16) (g := 1) (by decide)]
  · rw [cC_1, cC_1, st_nf τ n v (f := 16) (g := 52) (by decide), st_nf τ n v (f := 16) (g := 54) (by decide)]
  · exact congrArg (fun z => (Sum.inl (cO, cap n', .inr (.inr (.inr (.inr z)))) : va_E)) (crow_st (by decide) (by decide) n')
  · rw [cC_3, cC_3, st_nf τ n v (f := 16) (g := 48) (by decide)]
  · rw [cC_4, cC_4, st_nf τ n v (f := 16) (g := 3) (by decide), st_nf τ n v (f := 16) (g := 4) (by decide), st_nf τ n v (f := 16) (g := 5) (by decide), st_nf τ n v (f := 16) (g := 6) (by decide), st_nf τ n v (f := 16) (g := 7) (by decide), st_nf τ n v (f := 16) (g := 8) (by decide), st_nf τ n v (f := 16) (g := 9) (by decide), st_nf τ n v (f := 16) (g := 10) (by decide), st_nf τ n v (f := 16) (g := 11) (by decide)]
  · have hj : n' ≠ n := by omega
    rw [cC_5, cC_5, st_nj τ 16 v hj, st_nf τ n v (f := 16) (g := 13) (by decide), st_nf τ n v (f := 16) (g := 14) (by decide), st_nf τ n v (f := 16) (g := 15) (by decide), st_nf τ n v (f := 16) (g := 17) (by decide), st_nf τ n v (f := 16) (g := 18) (by decide), st_nf τ n v (f := 16) (g := 19) (by decide), st_nf τ n v (f := 16) (g := 20) (by decide)]
  · rw [cC_6, cC_6, st_nf τ n v (f := 16) (g := 23) (by decide), st_nf τ n v (f := 16) (g := 24) (by decide), st_nf τ n v (f := 16) (g := 25) (by decide), st_nf τ n v (f := 16) (g := 26) (by decide), st_nf τ n v (f := 16) (g := 27) (by decide), st_nf τ n v (f := 16) (g := 28) (by decide), st_nf τ n v (f := 16) (g := 50) (by decide), st_nf τ n v (f := 16) (g := 51) (by decide), st_nf τ n v (f := 16) (g := 22) (by decide), st_nf τ n v (f := 16) (g := 29) (by decide), st_nf τ n v (f := 16) (g := 31) (by decide)]
  · rw [cC_7, cC_7, st_nf τ n v (f := 16) (g := 32) (by decide), st_nf τ n v (f := 16) (g := 33) (by decide)]
  · rw [cC_8, cC_8, st_nf τ n v (f := 16) (g := 55) (by decide), st_nf τ n v (f := 16) (g := 36) (by decide), st_nf τ n v (f := 16) (g := 37) (by decide), st_nf τ n v (f := 16) (g := 38) (by decide), st_nf τ n v (f := 16) (g := 39) (by decide), st_nf τ n v (f := 16) (g := 40) (by decide), st_nf τ n v (f := 16) (g := 41) (by decide), st_nf τ n v (f := 16) (g := 42) (by decide), st_nf τ n v (f := 16) (g := 35) (by decide), st_nf τ n v (f := 16) (g := 44) (by decide), st_nf τ n v (f := 16) (g := 43) (by decide), st_nf τ n v (f := 16) (g := 45) (by decide)]
theorem cz_17 {cI cO : ClassId} {g : Gh} {cap N : Nat → Nat} {τ : St} {n : Nat} {v : Int32} (hn : N 5 ≤ n) : ∀ k' n', lv N cap k' n' → cC cI cO g cap (st τ 17 n v) k' n' = cC cI cO g cap τ k' n' := by
  intro k n' hl
  obtain ⟨h9, hl2, -⟩ := hl
  have h10 : k = 0 ∨ k = 1 ∨ k = 2 ∨ k = 3 ∨ k = 4 ∨ k = 5 ∨ k = 6 ∨ k = 7 ∨ k = 8 := by omega
  clear h9
  rcases h10 with rfl | rfl | rfl | rfl | rfl | rfl | rfl | rfl | rfl
  · rw [cC_0, cC_0, st_nf τ n v (f := 17) (g := 1) (by decide)]
  · rw [cC_1, cC_1, st_nf τ n v (f := 17) (g := 52) (by decide), st_nf τ n v (f := 17) (g := 54) (by decide)]
  · exact congrArg (fun z => (Sum.inl (cO, cap n', .inr (.inr (.inr (.inr z)))) : va_E)) (crow_st (by decide) (by decide) n')
  · rw [cC_3, cC_3, st_nf τ n v (f := 17) (g := 48) (by decide)]
  · rw [cC_4, cC_4, st_nf τ n v (f := 17) (g := 3) (by decide), st_nf τ n v (f := 17) (g := 4) (by decide), st_nf τ n v (f := 17) (g := 5) (by decide), st_nf τ n v (f := 17) (g := 6) (by decide), st_nf τ n v (f := 17) (g := 7) (by decide), st_nf τ n v (f := 17) (g := 8) (by decide), st_nf τ n v (f := 17) (g := 9) (by decide), st_nf τ n v (f := 17) (g := 10) (by decide), st_nf τ n v (f := 17) (g := 11) (by decide)]
  · have hj : n' ≠ n := by omega
    rw [cC_5, cC_5, st_nj τ 17 v hj, st_nf τ n v (f := 17) (g := 13) (by decide), st_nf τ n v (f := 17) (g := 14) (by decide), st_nf τ n v (f := 17) (g := 15) (by decide), st_nf τ n v (f := 17) (g := 16) (by decide), st_nf τ n v (f := 17) (g := 18) (by decide), st_nf τ n v (f := 17) (g := 19) (by decide), st_nf τ n v (f := 17) (g := 20) (by decide)]
  · rw [cC_6, cC_6, st_nf τ n v (f := 17) (g := 23) (by decide), st_nf τ n v (f := 17) (g := 24) (by decide), st_nf τ n v (f := 17) (g := 25) (by decide), st_nf τ n v (f := 17) (g := 26) (by decide), st_nf τ n v (f := 17) (g := 27) (by decide), st_nf τ n v (f := 17) (g := 28) (by decide), st_nf τ n v (f := 17) (g := 50) (by decide), st_nf τ n v (f := 17) (g := 51) (by decide), st_nf τ n v (f := 17) (g := 22) (by decide), st_nf τ n v (f := 17) (g := 29) (by decide), st_nf τ n v (f := 17) (g := 31) (by decide)]
  · rw [cC_7, cC_7, st_nf τ n v (f := 17) (g := 32) (by decide), st_nf τ n v (f := 17) (g := 33) (by decide)]
  · rw [cC_8, cC_8, st_nf τ n v (f := 17) (g := 55) (by decide), st_nf τ n v (f := 17) (g := 36) (by decide), st_nf τ n v (f := 17) (g := 37) (by decide), st_nf τ n v (f := 17) (g := 38) (by decide), st_nf τ n v (f := 17) (g := 39) (by decide), st_nf τ n v (f := 17) (g := 40) (by decide), st_nf τ n v (f := 17) (g := 41) (by decide), st_nf τ n v (f := 17) (g := 42) (by decide), st_nf τ n v (f := 17) (g := 35) (by decide), st_nf τ n v (f := 17) (g := 44) (by decide), st_nf τ n v (f := 17) (g := 43) (by decide), st_nf τ n v (f := 17) (g := 45) (by decide)]
theorem cz_18 {cI cO : ClassId} {g : Gh} {cap N : Nat → Nat} {τ : St} {n : Nat} {v : Int32} (hn : N 5 ≤ n) : ∀ k' n', lv N cap k' n' → cC cI cO g cap (st τ 18 n v) k' n' = cC cI cO g cap τ k' n' := by
  intro k n' hl
  obtain ⟨h9, hl2, -⟩ := hl
  have h10 : k = 0 ∨ k = 1 ∨ k = 2 ∨ k = 3 ∨ k = 4 ∨ k = 5 ∨ k = 6 ∨ k = 7 ∨ k = 8 := by omega
  clear h9
  rcases h10 with rfl | rfl | rfl | rfl | rfl | rfl | rfl | rfl | rfl
  · rw [cC_0, cC_0, st_nf τ n v (f := 18) (g := 1) (by decide)]
  · rw [cC_1, cC_1, st_nf τ n v (f := 18) (g := 52) (by decide), st_nf τ n v (f := 18) (g := 54) (by decide)]
  · exact congrArg (fun z => (Sum.inl (cO, cap n', .inr (.inr (.inr (.inr z)))) : va_E)) (crow_st (by decide) (by decide) n')
  · rw [cC_3, cC_3, st_nf τ n v (f := 18) (g := 48) (by decide)]
  · rw [cC_4, cC_4, st_nf τ n v (f := 18) (g := 3) (by decide), st_nf τ n v (f := 18) (g := 4) (by decide), st_nf τ n v (f := 18) (g := 5) (by decide), st_nf τ n v (f := 18) (g := 6) (by decide), st_nf τ n v (f := 18) (g := 7) (by decide), st_nf τ n v (f := 18) (g := 8) (by decide), st_nf τ n v (f := 18) (g := 9) (by decide), st_nf τ n v (f := 18) (g := 10) (by decide), st_nf τ n v (f := 18) (g := 11) (by decide)]
  · have hj : n' ≠ n := by omega
    rw [cC_5, cC_5, st_nj τ 18 v hj, st_nf τ n v (f := 18) (g := 13) (by decide), st_nf τ n v (f := 18) (g := 14) (by decide), st_nf τ n v (f := 18) (g := 15) (by decide), st_nf τ n v (f := 18) (g := 16) (by decide), st_nf τ n v (f := 18) (g := 17) (by decide), st_nf τ n v (f := 18) (g := 19) (by decide), st_nf τ n v (f := 18) (g := 20) (by decide)]
  · rw [cC_6, cC_6, st_nf τ n v (f := 18) (g := 23) (by decide), st_nf τ n v (f := 18) (g := 24) (by decide), st_nf τ n v (f := 18) (g := 25) (by decide), st_nf τ n v (f := 18) (g := 26) (by decide), st_nf τ n v (f := 18) (g := 27) (by decide), st_nf τ n v (f := 18) (g := 28) (by decide), st_nf τ n v (f := 18) (g := 50) (by decide), st_nf τ n v (f := 18) (g := 51) (by decide), st_nf τ n v (f := 18) (g := 22) (by decide), st_nf τ n v (f := 18) (g := 29) (by decide), st_nf τ n v (f := 18) (g := 31) (by decide)]
  · rw [cC_7, cC_7, st_nf τ n v (f := 18) (g := 32) (by decide), st_nf τ n v (f := 18) (g := 33) (by decide)]
  · rw [cC_8, cC_8, st_nf τ n v (f := 18) (g := 55) (by decide), st_nf τ n v (f := 18) (g := 36) (by decide), st_nf τ n v (f := 18) (g := 37) (by decide), st_nf τ n v (f := 18) (g := 38) (by decide), st_nf τ n v (f := 18) (g := 39) (by decide), st_nf τ n v (f := 18) (g := 40) (by decide), st_nf τ n v (f := 18) (g := 41) (by decide), st_nf τ n v (f := 18) (g := 42) (by decide), st_nf τ n v (f := 18) (g := 35) (by decide), st_nf τ n v (f := 18) (g := 44) (by decide), st_nf τ n v (f := 18) (g := 43) (by decide), st_nf τ n v (f := 18) (g := 45) (by decide)]
theorem cz_19 {cI cO : ClassId} {g : Gh} {cap N : Nat → Nat} {τ : St} {n : Nat} {v : Int32} (hn : N 5 ≤ n) : ∀ k' n', lv N cap k' n' → cC cI cO g cap (st τ 19 n v) k' n' = cC cI cO g cap τ k' n' := by
  intro k n' hl
  obtain ⟨h9, hl2, -⟩ := hl
  have h10 : k = 0 ∨ k = 1 ∨ k = 2 ∨ k = 3 ∨ k = 4 ∨ k = 5 ∨ k = 6 ∨ k = 7 ∨ k = 8 := by omega
  clear h9
  rcases h10 with rfl | rfl | rfl | rfl | rfl | rfl | rfl | rfl | rfl
  · rw [cC_0, cC_0, st_nf τ n v (f := 19) (g := 1) (by decide)]
  · rw [cC_1, cC_1, st_nf τ n v (f := 19) (g := 52) (by decide), st_nf τ n v (f := 19) (g := 54) (by decide)]
  · exact congrArg (fun z => (Sum.inl (cO, cap n', .inr (.inr (.inr (.inr z)))) : va_E)) (crow_st (by decide) (by decide) n')
  · rw [cC_3, cC_3, st_nf τ n v (f := 19) (g := 48) (by decide)]
  · rw [cC_4, cC_4, st_nf τ n v (f := 19) (g := 3) (by decide), st_nf τ n v (f := 19) (g := 4) (by decide), st_nf τ n v (f := 19) (g := 5) (by decide), st_nf τ n v (f := 19) (g := 6) (by decide), st_nf τ n v (f := 19) (g := 7) (by decide), st_nf τ n v (f := 19) (g := 8) (by decide), st_nf τ n v (f := 19) (g := 9) (by decide), st_nf τ n v (f := 19) (g := 10) (by decide), st_nf τ n v (f := 19) (g := 11) (by decide)]
  · have hj : n' ≠ n := by omega
    rw [cC_5, cC_5, st_nj τ 19 v hj, st_nf τ n v (f := 19) (g := 13) (by decide), st_nf τ n v (f := 19) (g := 14) (by decide), st_nf τ n v (f := 19) (g := 15) (by decide), st_nf τ n v (f := 19) (g := 16) (by decide), st_nf τ n v (f := 19) (g := 17) (by decide), st_nf τ n v (f := 19) (g := 18) (by decide), st_nf τ n v (f := 19) (g := 20) (by decide)]
  · rw [cC_6, cC_6, st_nf τ n v (f := 19) (g := 23) (by decide), st_nf τ n v (f := 19) (g := 24) (by decide), st_nf τ n v (f := 19) (g := 25) (by decide), st_nf τ n v (f := 19) (g := 26) (by decide), st_nf τ n v (f := 19) (g := 27) (by decide), st_nf τ n v (f := 19) (g := 28) (by decide), st_nf τ n v (f := 19) (g := 50) (by decide), st_nf τ n v (f := 19) (g := 51) (by decide), st_nf τ n v (f := 19) (g := 22) (by decide), st_nf τ n v (f := 19) (g := 29) (by decide), st_nf τ n v (f := 19) (g := 31) (by decide)]
  · rw [cC_7, cC_7, st_nf τ n v (f := 19) (g := 32) (by decide), st_nf τ n v (f := 19) (g := 33) (by decide)]
  · rw [cC_8, cC_8, st_nf τ n v (f := 19) (g := 55) (by decide), st_nf τ n v (f := 19) (g := 36) (by decide), st_nf τ n v (f := 19) (g := 37) (by decide), st_nf τ n v (f := 19) (g := 38) (by decide), st_nf τ n v (f := 19) (g := 39) (by decide), st_nf τ n v (f := 19) (g := 40) (by decide), st_nf τ n v (f := 19) (g := 41) (by decide), st_nf τ n v (f := 19) (g := 42) (by decide), st_nf τ n v (f := 19) (g := 35) (by decide), st_nf τ n v (f := 19) (g := 44) (by decide), st_nf τ n v (f := 19) (g := 43) (by decide), st_nf τ n v (f := 19) (g := 45) (by decide)]
theorem cz_20 {cI cO : ClassId} {g : Gh} {cap N : Nat → Nat} {τ : St} {n : Nat} {v : Int32} (hn : N 5 ≤ n) : ∀ k' n', lv N cap k' n' → cC cI cO g cap (st τ 20 n v) k' n' = cC cI cO g cap τ k' n' := by
  intro k n' hl
  obtain ⟨h9, hl2, -⟩ := hl
  have h10 : k = 0 ∨ k = 1 ∨ k = 2 ∨ k = 3 ∨ k = 4 ∨ k = 5 ∨ k = 6 ∨ k = 7 ∨ k = 8 := by omega
  clear h9
  rcases h10 with rfl | rfl | rfl | rfl | rfl | rfl | rfl | rfl | rfl
  · rw [cC_0, cC_0, st_nf τ n v (f := 20) (g := 1) (by decide)]
  · rw [cC_1, cC_1, st_nf τ n v (f := 20) (g := 52) (by decide), st_nf τ n v (f := 20) (g := 54) (by decide)]
  · exact congrArg (fun z => (Sum.inl (cO, cap n', .inr (.inr (.inr (.inr z)))) : va_E)) (crow_st (by decide) (by decide) n')
  · rw [cC_3, cC_3, st_nf τ n v (f := 20) (g := 48) (by decide)]
  · rw [cC_4, cC_4, st_nf τ n v (f := 20) (g := 3) (by decide), st_nf τ n v (f := 20) (g := 4) (by decide), st_nf τ n v (f := 20) (g := 5) (by decide), st_nf τ n v (f := 20) (g := 6) (by decide), st_nf τ n v (f := 20) (g := 7) (by decide), st_nf τ n v (f := 20) (g := 8) (by decide), st_nf τ n v (f := 20) (g := 9) (by decide), st_nf τ n v (f := 20) (g := 10) (by decide), st_nf τ n v (f := 20) (g := 11) (by decide)]
  · have hj : n' ≠ n := by omega
    rw [cC_5, cC_5, st_nj τ 20 v hj, st_nf τ n v (f := 20) (g := 13) (by decide), st_nf τ n v (f := 20) (g := 14) (by decide), st_nf τ n v (f := 20) (g := 15) (by decide), st_nf τ n v (f := 20) (g := 16) (by decide), st_nf τ n v (f := 20) (g := 17) (by decide), st_nf τ n v (f := 20) (g := 18) (by decide), st_nf τ n v (f := 20) (g := 19) (by decide)]
  · rw [cC_6, cC_6, st_nf τ n v (f := 20) (g := 23) (by decide), st_nf τ n v (f := 20) (g := 24) (by decide), st_nf τ n v (f := 20) (g := 25) (by decide), st_nf τ n v (f := 20) (g := 26) (by decide), st_nf τ n v (f := 20) (g := 27) (by decide), st_nf τ n v (f := 20) (g := 28) (by decide), st_nf τ n v (f := 20) (g := 50) (by decide), st_nf τ n v (f := 20) (g := 51) (by decide), st_nf τ n v (f := 20) (g := 22) (by decide), st_nf τ n v (f := 20) (g := 29) (by decide), st_nf τ n v (f := 20) (g := 31) (by decide)]
  · rw [cC_7, cC_7, st_nf τ n v (f := 20) (g := 32) (by decide), st_nf τ n v (f := 20) (g := 33) (by decide)]
  · rw [cC_8, cC_8, st_nf τ n v (f := 20) (g := 55) (by decide), st_nf τ n v (f := 20) (g := 36) (by decide), st_nf τ n v (f := 20) (g := 37) (by decide), st_nf τ n v (f := 20) (g := 38) (by decide), st_nf τ n v (f := 20) (g := 39) (by decide), st_nf τ n v (f := 20) (g := 40) (by decide), st_nf τ n v (f := 20) (g := 41) (by decide), st_nf τ n v (f := 20) (g := 42) (by decide), st_nf τ n v (f := 20) (g := 35) (by decide), st_nf τ n v (f := 20) (g := 44) (by decide), st_nf τ n v (f := 20) (g := 43) (by decide), st_nf τ n v (f := 20) (g := 45) (by decide)]
theorem cz_55 {cI cO : ClassId} {g : Gh} {cap N : Nat → Nat} {τ : St} {n : Nat} {v : Int32} (hn : N 8 ≤ n) : ∀ k' n', lv N cap k' n' → cC cI cO g cap (st τ 55 n v) k' n' = cC cI cO g cap τ k' n' := by
  intro k n' hl
  obtain ⟨h9, hl2, -⟩ := hl
  have h10 : k = 0 ∨ k = 1 ∨ k = 2 ∨ k = 3 ∨ k = 4 ∨ k = 5 ∨ k = 6 ∨ k = 7 ∨ k = 8 := by omega
  clear h9
  rcases h10 with rfl | rfl | rfl | rfl | rfl | rfl | rfl | rfl | rfl
  · rw [cC_0, cC_0, st_nf τ n v (f := 55) (g := 1) (by decide)]
  · rw [cC_1, cC_1, st_nf τ n v (f := 55) (g := 52) (by decide), st_nf τ n v (f := 55) (g := 54) (by decide)]
  · exact congrArg (fun z => (Sum.inl (cO, cap n', .inr (.inr (.inr (.inr z)))) : va_E)) (crow_st (by decide) (by decide) n')
  · rw [cC_3, cC_3, st_nf τ n v (f := 55) (g := 48) (by decide)]
  · rw [cC_4, cC_4, st_nf τ n v (f := 55) (g := 3) (by decide), st_nf τ n v (f := 55) (g := 4) (by decide), st_nf τ n v (f := 55) (g := 5) (by decide), st_nf τ n v (f := 55) (g := 6) (by decide), st_nf τ n v (f := 55) (g := 7) (by decide), st_nf τ n v (f := 55) (g := 8) (by decide), st_nf τ n v (f := 55) (g := 9) (by decide), st_nf τ n v (f := 55) (g := 10) (by decide), st_nf τ n v (f := 55) (g := 11) (by decide)]
  · rw [cC_5, cC_5, st_nf τ n v (f := 55) (g := 13) (by decide), st_nf τ n v (f := 55) (g := 14) (by decide), st_nf τ n v (f := 55) (g := 15) (by decide), st_nf τ n v (f := 55) (g := 16) (by decide), st_nf τ n v (f := 55) (g := 17) (by decide), st_nf τ n v (f := 55) (g := 18) (by decide), st_nf τ n v (f := 55) (g := 19) (by decide), st_nf τ n v (f := 55) (g := 20) (by decide)]
  · rw [cC_6, cC_6, st_nf τ n v (f := 55) (g := 23) (by decide), st_nf τ n v (f := 55) (g := 24) (by decide), st_nf τ n v (f := 55) (g := 25) (by decide), st_nf τ n v (f := 55) (g := 26) (by decide), st_nf τ n v (f := 55) (g := 27) (by decide), st_nf τ n v (f := 55) (g := 28) (by decide), st_nf τ n v (f := 55) (g := 50) (by decide), st_nf τ n v (f := 55) (g := 51) (by decide), st_nf τ n v (f := 55) (g := 22) (by decide), st_nf τ n v (f := 55) (g := 29) (by decide), st_nf τ n v (f := 55) (g := 31) (by decide)]
  · rw [cC_7, cC_7, st_nf τ n v (f := 55) (g := 32) (by decide), st_nf τ n v (f := 55) (g := 33) (by decide)]
  · have hj : n' ≠ n := by omega
    rw [cC_8, cC_8, st_nj τ 55 v hj, st_nf τ n v (f := 55) (g := 36) (by decide), st_nf τ n v (f := 55) (g := 37) (by decide), st_nf τ n v (f := 55) (g := 38) (by decide), st_nf τ n v (f := 55) (g := 39) (by decide), st_nf τ n v (f := 55) (g := 40) (by decide), st_nf τ n v (f := 55) (g := 41) (by decide), st_nf τ n v (f := 55) (g := 42) (by decide), st_nf τ n v (f := 55) (g := 35) (by decide), st_nf τ n v (f := 55) (g := 44) (by decide), st_nf τ n v (f := 55) (g := 43) (by decide), st_nf τ n v (f := 55) (g := 45) (by decide)]
theorem cz_36 {cI cO : ClassId} {g : Gh} {cap N : Nat → Nat} {τ : St} {n : Nat} {v : Int32} (hn : N 8 ≤ n) : ∀ k' n', lv N cap k' n' → cC cI cO g cap (st τ 36 n v) k' n' = cC cI cO g cap τ k' n' := by
  intro k n' hl
  obtain ⟨h9, hl2, -⟩ := hl
  have h10 : k = 0 ∨ k = 1 ∨ k = 2 ∨ k = 3 ∨ k = 4 ∨ k = 5 ∨ k = 6 ∨ k = 7 ∨ k = 8 := by omega
  clear h9
  rcases h10 with rfl | rfl | rfl | rfl | rfl | rfl | rfl | rfl | rfl
  · rw [cC_0, cC_0, st_nf τ n v (f := 36) (g := 1) (by decide)]
  · rw [cC_1, cC_1, st_nf τ n v (f := 36) (g := 52) (by decide), st_nf τ n v (f := 36) (g := 54) (by decide)]
  · exact congrArg (fun z => (Sum.inl (cO, cap n', .inr (.inr (.inr (.inr z)))) : va_E)) (crow_st (by decide) (by decide) n')
  · rw [cC_3, cC_3, st_nf τ n v (f := 36) (g := 48) (by decide)]
  · rw [cC_4, cC_4, st_nf τ n v (f := 36) (g := 3) (by decide), st_nf τ n v (f := 36) (g := 4) (by decide), st_nf τ n v (f := 36) (g := 5) (by decide), st_nf τ n v (f := 36) (g := 6) (by decide), st_nf τ n v (f := 36) (g := 7) (by decide), st_nf τ n v (f := 36) (g := 8) (by decide), st_nf τ n v (f := 36) (g := 9) (by decide), st_nf τ n v (f := 36) (g := 10) (by decide), st_nf τ n v (f := 36) (g := 11) (by decide)]
  · rw [cC_5, cC_5, st_nf τ n v (f := 36) (g := 13) (by decide), st_nf τ n v (f := 36) (g := 14) (by decide), st_nf τ n v (f := 36) (g := 15) (by decide), st_nf τ n v (f := 36) (g := 16) (by decide), st_nf τ n v (f := 36) (g := 17) (by decide), st_nf τ n v (f := 36) (g := 18) (by decide), st_nf τ n v (f := 36) (g := 19) (by decide), st_nf τ n v (f := 36) (g := 20) (by decide)]
  · rw [cC_6, cC_6, st_nf τ n v (f := 36) (g := 23) (by decide), st_nf τ n v (f := 36) (g := 24) (by decide), st_nf τ n v (f := 36) (g := 25) (by decide), st_nf τ n v (f := 36) (g := 26) (by decide), st_nf τ n v (f := 36) (g := 27) (by decide), st_nf τ n v (f := 36) (g := 28) (by decide), st_nf τ n v (f := 36) (g := 50) (by decide), st_nf τ n v (f := 36) (g := 51) (by decide), st_nf τ n v (f := 36) (g := 22) (by decide), st_nf τ n v (f := 36) (g := 29) (by decide), st_nf τ n v (f := 36) (g := 31) (by decide)]
  · rw [cC_7, cC_7, st_nf τ n v (f := 36) (g := 32) (by decide), st_nf τ n v (f := 36) (g := 33) (by decide)]
  · have hj : n' ≠ n := by omega
    rw [cC_8, cC_8, st_nj τ 36 v hj, st_nf τ n v (f := 36) (g := 55) (by decide), st_nf τ n v (f := 36) (g := 37) (by decide), st_nf τ n v (f := 36) (g := 38) (by decide), st_nf τ n v (f := 36) (g := 39) (by decide), st_nf τ n v (f := 36) (g := 40) (by decide), st_nf τ n v (f := 36) (g := 41) (by decide), st_nf τ n v (f := 36) (g := 42) (by decide), st_nf τ n v (f := 36) (g := 35) (by decide), st_nf τ n v (f := 36) (g := 44) (by decide), st_nf τ n v (f := 36) (g := 43) (by decide), st_nf τ n v (f := 36) (g := 45) (by decide)]
theorem cz_37 {cI cO : ClassId} {g : Gh} {cap N : Nat → Nat} {τ : St} {n : Nat} {v : Int32} (hn : N 8 ≤ n) : ∀ k' n', lv N cap k' n' → cC cI cO g cap (st τ 37 n v) k' n' = cC cI cO g cap τ k' n' := by
  intro k n' hl
  obtain ⟨h9, hl2, -⟩ := hl
  have h10 : k = 0 ∨ k = 1 ∨ k = 2 ∨ k = 3 ∨ k = 4 ∨ k = 5 ∨ k = 6 ∨ k = 7 ∨ k = 8 := by omega
  clear h9
  rcases h10 with rfl | rfl | rfl | rfl | rfl | rfl | rfl | rfl | rfl
  · rw [cC_0, cC_0, st_nf τ n v (f := 37) (g := 1) (by decide)]
  · rw [cC_1, cC_1, st_nf τ n v (f := 37) (g := 52) (by decide), st_nf τ n v (f := 37) (g := 54) (by decide)]
  · exact congrArg (fun z => (Sum.inl (cO, cap n', .inr (.inr (.inr (.inr z)))) : va_E)) (crow_st (by decide) (by decide) n')
  · rw [cC_3, cC_3, st_nf τ n v (f := 37) (g := 48) (by decide)]
  · rw [cC_4, cC_4, st_nf τ n v (f := 37) (g := 3) (by decide), st_nf τ n v (f := 37) (g := 4) (by decide), st_nf τ n v (f := 37) (g := 5) (by decide), st_nf τ n v (f := 37) (g := 6) (by decide), st_nf τ n v (f := 37) (g := 7) (by decide), st_nf τ n v (f := 37) (g := 8) (by decide), st_nf τ n v (f := 37) (g := 9) (by decide), st_nf τ n v (f := 37) (g := 10) (by decide), st_nf τ n v (f := 37) (g := 11) (by decide)]
  · rw [cC_5, cC_5, st_nf τ n v (f := 37) (g := 13) (by decide), st_nf τ n v (f := 37) (g := 14) (by decide), st_nf τ n v (f := 37) (g := 15) (by decide), st_nf τ n v (f := 37) (g := 16) (by decide), st_nf τ n v (f := 37) (g := 17) (by decide), st_nf τ n v (f := 37) (g := 18) (by decide), st_nf τ n v (f := 37) (g := 19) (by decide), st_nf τ n v (f := 37) (g := 20) (by decide)]
  · rw [cC_6, cC_6, st_nf τ n v (f := 37) (g := 23) (by decide), st_nf τ n v (f := 37) (g := 24) (by decide), st_nf τ n v (f := 37) (g := 25) (by decide), st_nf τ n v (f := 37) (g := 26) (by decide), st_nf τ n v (f := 37) (g := 27) (by decide), st_nf τ n v (f := 37) (g := 28) (by decide), st_nf τ n v (f := 37) (g := 50) (by decide), st_nf τ n v (f := 37) (g := 51) (by decide), st_nf τ n v (f := 37) (g := 22) (by decide), st_nf τ n v (f := 37) (g := 29) (by decide), st_nf τ n v (f := 37) (g := 31) (by decide)]
  · rw [cC_7, cC_7, st_nf τ n v (f := 37) (g := 32) (by decide), st_nf τ n v (f := 37) (g := 33) (by decide)]
  · have hj : n' ≠ n := by omega
    rw [cC_8, cC_8, st_nj τ 37 v hj, st_nf τ n v (f := 37) (g := 55) (by decide), st_nf τ n v (f := 37) (g := 36) (by decide), st_nf τ n v (f := 37) (g := 38) (by decide), st_nf τ n v (f := 37) (g := 39) (by decide), st_nf τ n v (f := 37) (g := 40) (by decide), st_nf τ n v (f := 37) (g := 41) (by decide), st_nf τ n v (f := 37) (g := 42) (by decide), st_nf τ n v (f := 37) (g := 35) (by decide), st_nf τ n v (f := 37) (g := 44) (by decide), st_nf τ n v (f := 37) (g := 43) (by decide), st_nf τ n v (f := 37) (g := 45) (by decide)]
theorem cz_38 {cI cO : ClassId} {g : Gh} {cap N : Nat → Nat} {τ : St} {n : Nat} {v : Int32} (hn : N 8 ≤ n) : ∀ k' n', lv N cap k' n' → cC cI cO g cap (st τ 38 n v) k' n' = cC cI cO g cap τ k' n' := by
  intro k n' hl
  obtain ⟨h9, hl2, -⟩ := hl
  have h10 : k = 0 ∨ k = 1 ∨ k = 2 ∨ k = 3 ∨ k = 4 ∨ k = 5 ∨ k = 6 ∨ k = 7 ∨ k = 8 := by omega
  clear h9
  rcases h10 with rfl | rfl | rfl | rfl | rfl | rfl | rfl | rfl | rfl
  · rw [cC_0, cC_0, st_nf τ n v (f := 38) (g := 1) (by decide)]
  · rw [cC_1, cC_1, st_nf τ n v (f := 38) (g := 52) (by decide), st_nf τ n v (f := 38) (g := 54) (by decide)]
  · exact congrArg (fun z => (Sum.inl (cO, cap n', .inr (.inr (.inr (.inr z)))) : va_E)) (crow_st (by decide) (by decide) n')
  · rw [cC_3, cC_3, st_nf τ n v (f := 38) (g := 48) (by decide)]
  · rw [cC_4, cC_4, st_nf τ n v (f := 38) (g := 3) (by decide), st_nf τ n v (f := 38) (g := 4) (by decide), st_nf τ n v (f := 38) (g := 5) (by decide), st_nf τ n v (f := 38) (g := 6) (by decide), st_nf τ n v (f := 38) (g := 7) (by decide), st_nf τ n v (f := 38) (g := 8) (by decide), st_nf τ n v (f := 38) (g := 9) (by decide), st_nf τ n v (f := 38) (g := 10) (by decide), st_nf τ n v (f := 38) (g := 11) (by decide)]
  · rw [cC_5, cC_5, st_nf τ n v (f := 38) (g := 13) (by decide), st_nf τ n v (f := 38) (g := 14) (by decide), st_nf τ n v (f := 38) (g := 15) (by decide), st_nf τ n v (f := 38) (g := 16) (by decide), st_nf τ n v (f := 38) (g := 17) (by decide), st_nf τ n v (f := 38) (g := 18) (by decide), st_nf τ n v (f := 38) (g := 19) (by decide), st_nf τ n v (f := 38) (g := 20) (by decide)]
  · rw [cC_6, cC_6, st_nf τ n v (f := 38) (g := 23) (by decide), st_nf τ n v (f := 38) (g := 24) (by decide), st_nf τ n v (f := 38) (g := 25) (by decide), st_nf τ n v (f := 38) (g := 26) (by decide), st_nf τ n v (f := 38) (g := 27) (by decide), st_nf τ n v (f := 38) (g := 28) (by decide), st_nf τ n v (f := 38) (g := 50) (by decide), st_nf τ n v (f := 38) (g := 51) (by decide), st_nf τ n v (f := 38) (g := 22) (by decide), st_nf τ n v (f := 38) (g := 29) (by decide), st_nf τ n v (f := 38) (g := 31) (by decide)]
  · rw [cC_7, cC_7, st_nf τ n v (f := 38) (g := 32) (by decide), st_nf τ n v (f := 38) (g := 33) (by decide)]
  · have hj : n' ≠ n := by omega
    rw [cC_8, cC_8, st_nj τ 38 v hj, st_nf τ n v (f := 38) (g := 55) (by decide), st_nf τ n v (f := 38) (g := 36) (by decide), st_nf τ n v (f := 38) (g := 37) (by decide), st_nf τ n v (f := 38) (g := 39) (by decide), st_nf τ n v (f := 38) (g := 40) (by decide), st_nf τ n v (f := 38) (g := 41) (by decide), st_nf τ n v (f := 38) (g := 42) (by decide), st_nf τ n v (f := 38) (g := 35) (by decide), st_nf τ n v (f := 38) (g := 44) (by decide), st_nf τ n v (f := 38) (g := 43) (by decide), st_nf τ n v (f := 38) (g := 45) (by decide)]
theorem cz_39 {cI cO : ClassId} {g : Gh} {cap N : Nat → Nat} {τ : St} {n : Nat} {v : Int32} (hn : N 8 ≤ n) : ∀ k' n', lv N cap k' n' → cC cI cO g cap (st τ 39 n v) k' n' = cC cI cO g cap τ k' n' := by
  intro k n' hl
  obtain ⟨h9, hl2, -⟩ := hl
  have h10 : k = 0 ∨ k = 1 ∨ k = 2 ∨ k = 3 ∨ k = 4 ∨ k = 5 ∨ k = 6 ∨ k = 7 ∨ k = 8 := by omega
  clear h9
  rcases h10 with rfl | rfl | rfl | rfl | rfl | rfl | rfl | rfl | rfl
  · rw [cC_0, cC_0, st_nf τ n v (f := 39) (g := 1) (by decide)]
  · rw [cC_1, cC_1, st_nf τ n v (f := 39) (g := 52) (by decide), st_nf τ n v (f := 39) (g := 54) (by decide)]
  · exact congrArg (fun z => (Sum.inl (cO, cap n', .inr (.inr (.inr (.inr z)))) : va_E)) (crow_st (by decide) (by decide) n')
  · rw [cC_3, cC_3, st_nf τ n v (f := 39) (g := 48) (by decide)]
  · rw [cC_4, cC_4, st_nf τ n v (f := 39) (g := 3) (by decide), st_nf τ n v (f := 39) (g := 4) (by decide), st_nf τ n v (f := 39) (g := 5) (by decide), st_nf τ n v (f := 39) (g := 6) (by decide), st_nf τ n v (f := 39) (g := 7) (by decide), st_nf τ n v (f := 39) (g := 8) (by decide), st_nf τ n v (f := 39) (g := 9) (by decide), st_nf τ n v (f := 39) (g := 10) (by decide), st_nf τ n v (f := 39) (g := 11) (by decide)]
  · rw [cC_5, cC_5, st_nf τ n v (f := 39) (g := 13) (by decide), st_nf τ n v (f := 39) (g := 14) (by decide), st_nf τ n v (f := 39) (g := 15) (by decide), st_nf τ n v (f := 39) (g := 16) (by decide), st_nf τ n v (f := 39) (g := 17) (by decide), st_nf τ n v (f := 39) (g := 18) (by decide), st_nf τ n v (f := 39) (g := 19) (by decide), st_nf τ n v (f := 39) (g := 20) (by decide)]
  · rw [cC_6, cC_6, st_nf τ n v (f := 39) (g := 23) (by decide), st_nf τ n v (f := 39) (g := 24) (by decide), st_nf τ n v (f := 39) (g := 25) (by decide), st_nf τ n v (f := 39) (g := 26) (by decide), st_nf τ n v (f := 39) (g := 27) (by decide), st_nf τ n v (f := 39) (g := 28) (by decide), st_nf τ n v (f := 39) (g := 50) (by decide), st_nf τ n v (f := 39) (g := 51) (by decide), st_nf τ n v (f := 39) (g := 22) (by decide), st_nf τ n v (f := 39) (g := 29) (by decide), st_nf τ n v (f := 39) (g := 31) (by decide)]
  · rw [cC_7, cC_7, st_nf τ n v (f := 39) (g := 32) (by decide), st_nf τ n v (f := 39) (g := 33) (by decide)]
  · have hj : n' ≠ n := by omega
    rw [cC_8, cC_8, st_nj τ 39 v hj, st_nf τ n v (f := 39) (g := 55) (by decide), st_nf τ n v (f := 39) (g := 36) (by decide), st_nf τ n v (f := 39) (g := 37) (by decide), st_nf τ n v (f := 39) (g := 38) (by decide), st_nf τ n v (f := 39) (g := 40) (by decide), st_nf τ n v (f := 39) (g := 41) (by decide), st_nf τ n v (f := 39) (g := 42) (by decide), st_nf τ n v (f := 39) (g := 35) (by decide), st_nf τ n v (f := 39) (g := 44) (by decide), st_nf τ n v (f := 39) (g := 43) (by decide), st_nf τ n v (f := 39) (g := 45) (by decide)]
theorem cz_40 {cI cO : ClassId} {g : Gh} {cap N : Nat → Nat} {τ : St} {n : Nat} {v : Int32} (hn : N 8 ≤ n) : ∀ k' n', lv N cap k' n' → cC cI cO g cap (st τ 40 n v) k' n' = cC cI cO g cap τ k' n' := by
  intro k n' hl
  obtain ⟨h9, hl2, -⟩ := hl
  have h10 : k = 0 ∨ k = 1 ∨ k = 2 ∨ k = 3 ∨ k = 4 ∨ k = 5 ∨ k = 6 ∨ k = 7 ∨ k = 8 := by omega
  clear h9
  rcases h10 with rfl | rfl | rfl | rfl | rfl | rfl | rfl | rfl | rfl
  · rw [cC_0, cC_0, st_nf τ n v (f := 40) (g := 1) (by decide)]
  · rw [cC_1, cC_1, st_nf τ n v (f := 40) (g := 52) (by decide), st_nf τ n v (f := 40) (g := 54) (by decide)]
  · exact congrArg (fun z => (Sum.inl (cO, cap n', .inr (.inr (.inr (.inr z)))) : va_E)) (crow_st (by decide) (by decide) n')
  · rw [cC_3, cC_3, st_nf τ n v (f := 40) (g := 48) (by decide)]
  · rw [cC_4, cC_4, st_nf τ n v (f := 40) (g := 3) (by decide), st_nf τ n v (f := 40) (g := 4) (by decide), st_nf τ n v (f := 40) (g := 5) (by decide), st_nf τ n v (f := 40) (g := 6) (by decide), st_nf τ n v (f := 40) (g := 7) (by decide), st_nf τ n v (f := 40) (g := 8) (by decide), st_nf τ n v (f := 40) (g := 9) (by decide), st_nf τ n v (f := 40) (g := 10) (by decide), st_nf τ n v (f := 40) (g := 11) (by decide)]
  · rw [cC_5, cC_5, st_nf τ n v (f := 40) (g := 13) (by decide), st_nf τ n v (f := 40) (g := 14) (by decide), st_nf τ n v (f := 40) (g := 15) (by decide), st_nf τ n v (f := 40) (g := 16) (by decide), st_nf τ n v (f := 40) (g := 17) (by decide), st_nf τ n v (f := 40) (g := 18) (by decide), st_nf τ n v (f := 40) (g := 19) (by decide), st_nf τ n v (f := 40) (g := 20) (by decide)]
  · rw [cC_6, cC_6, st_nf τ n v (f := 40) (g := 23) (by decide), st_nf τ n v (f := 40) (g := 24) (by decide), st_nf τ n v (f := 40) (g := 25) (by decide), st_nf τ n v (f := 40) (g := 26) (by decide), st_nf τ n v (f := 40) (g := 27) (by decide), st_nf τ n v (f := 40) (g := 28) (by decide), st_nf τ n v (f := 40) (g := 50) (by decide), st_nf τ n v (f := 40) (g := 51) (by decide), st_nf τ n v (f := 40) (g := 22) (by decide), st_nf τ n v (f := 40) (g := 29) (by decide), st_nf τ n v (f := 40) (g := 31) (by decide)]
  · rw [cC_7, cC_7, st_nf τ n v (f := 40) (g := 32) (by decide), st_nf τ n v (f := 40) (g := 33) (by decide)]
  · have hj : n' ≠ n := by omega
    rw [cC_8, cC_8, st_nj τ 40 v hj, st_nf τ n v (f := 40) (g := 55) (by decide), st_nf τ n v (f := 40) (g := 36) (by decide), st_nf τ n v (f := 40) (g := 37) (by decide), st_nf τ n v (f := 40) (g := 38) (by decide), st_nf τ n v (f := 40) (g := 39) (by decide), st_nf τ n v (f := 40) (g := 41) (by decide), st_nf τ n v (f := 40) (g := 42) (by decide), st_nf τ n v (f := 40) (g := 35) (by decide), st_nf τ n v (f := 40) (g := 44) (by decide), st_nf τ n v (f := 40) (g := 43) (by decide), st_nf τ n v (f := 40) (g := 45) (by decide)]
theorem cz_41 {cI cO : ClassId} {g : Gh} {cap N : Nat → Nat} {τ : St} {n : Nat} {v : Int32} (hn : N 8 ≤ n) : ∀ k' n', lv N cap k' n' → cC cI cO g cap (st τ 41 n v) k' n' = cC cI cO g cap τ k' n' := by
  intro k n' hl
  obtain ⟨h9, hl2, -⟩ := hl
  have h10 : k = 0 ∨ k = 1 ∨ k = 2 ∨ k = 3 ∨ k = 4 ∨ k = 5 ∨ k = 6 ∨ k = 7 ∨ k = 8 := by omega
  clear h9
  rcases h10 with rfl | rfl | rfl | rfl | rfl | rfl | rfl | rfl | rfl
  · rw [cC_0, cC_0, st_nf τ n v (f := 41) (g := 1) (by decide)]
  · rw [cC_1, cC_1, st_nf τ n v (f := 41) (g := 52) (by decide), st_nf τ n v (f := 41) (g := 54) (by decide)]
  · exact congrArg (fun z => (Sum.inl (cO, cap n', .inr (.inr (.inr (.inr z)))) : va_E)) (crow_st (by decide) (by decide) n')
  · rw [cC_3, cC_3, st_nf τ n v (f := 41) (g := 48) (by decide)]
  · rw [cC_4, cC_4, st_nf τ n v (f := 41) (g := 3) (by decide), st_nf τ n v (f := 41) (g := 4) (by decide), st_nf τ n v (f := 41) (g := 5) (by decide), st_nf τ n v (f := 41) (g := 6) (by decide), st_nf τ n v (f := 41) (g := 7) (by decide), st_nf τ n v (f := 41) (g := 8) (by decide), st_nf τ n v (f := 41) (g := 9) (by decide), st_nf τ n v (f := 41) (g := 10) (by decide), st_nf τ n v (f := 41) (g := 11) (by decide)]
  · rw [cC_5, cC_5, st_nf τ n v (f := 41) (g := 13) (by decide), st_nf τ n v (f := 41) (g := 14) (by decide), st_nf τ n v (f := 41) (g := 15) (by decide), st_nf τ n v (f := 41) (g := 16) (by decide), st_nf τ n v (f := 41) (g := 17) (by decide), st_nf τ n v (f := 41) (g := 18) (by decide), st_nf τ n v (f := 41) (g := 19) (by decide), st_nf τ n v (f := 41) (g := 20) (by decide)]
  · rw [cC_6, cC_6, st_nf τ n v (f := 41) (g := 23) (by decide), st_nf τ n v (f := 41) (g := 24) (by decide), st_nf τ n v (f := 41) (g := 25) (by decide), st_nf τ n v (f := 41) (g := 26) (by decide), st_nf τ n v (f := 41) (g := 27) (by decide), st_nf τ n v (f := 41) (g := 28) (by decide), st_nf τ n v (f := 41) (g := 50) (by decide), st_nf τ n v (f := 41) (g := 51) (by decide), st_nf τ n v (f := 41) (g := 22) (by decide), st_nf τ n v (f := 41) (g := 29) (by decide), st_nf τ n v (f := 41) (g := 31) (by decide)]
  · rw [cC_7, cC_7, st_nf τ n v (f := 41) (g := 32) (by decide), st_nf τ n v (f := 41) (g := 33) (by decide)]
  · have hj : n' ≠ n := by omega
    rw [cC_8, cC_8, st_nj τ 41 v hj, st_nf τ n v (f := 41) (g := 55) (by decide), st_nf τ n v (f := 41) (g := 36) (by decide), st_nf τ n v (f := 41) (g := 37) (by decide), st_nf τ n v (f := 41) (g := 38) (by decide), st_nf τ n v (f := 41) (g := 39) (by decide), st_nf τ n v (f := 41) (g := 40) (by decide), st_nf τ n v (f := 41) (g := 42) (by decide), st_nf τ n v (f := 41) (g := 35) (by decide), st_nf τ n v (f := 41) (g := 44) (by decide), st_nf τ n v (f := 41) (g := 43) (by decide), st_nf τ n v (f := 41) (g := 45) (by decide)]
theorem cz_42 {cI cO : ClassId} {g : Gh} {cap N : Nat → Nat} {τ : St} {n : Nat} {v : Int32} (hn : N 8 ≤ n) : ∀ k' n', lv N cap k' n' → cC cI cO g cap (st τ 42 n v) k' n' = cC cI cO g cap τ k' n' := by
  intro k n' hl
  obtain ⟨h9, hl2, -⟩ := hl
  have h10 : k = 0 ∨ k = 1 ∨ k = 2 ∨ k = 3 ∨ k = 4 ∨ k = 5 ∨ k = 6 ∨ k = 7 ∨ k = 8 := by omega
  clear h9
  rcases h10 with rfl | rfl | rfl | rfl | rfl | rfl | rfl | rfl | rfl
  · rw [cC_0, cC_0, st_nf τ n v (f := 42) (g := 1) (by decide)]
  · rw [cC_1, cC_1, st_nf τ n v (f := 42) (g := 52) (by decide), st_nf τ n v (f := 42) (g := 54) (by decide)]
  · exact congrArg (fun z => (Sum.inl (cO, cap n', .inr (.inr (.inr (.inr z)))) : va_E)) (crow_st (by decide) (by decide) n')
  · rw [cC_3, cC_3, st_nf τ n v (f := 42) (g := 48) (by decide)]
  · rw [cC_4, cC_4, st_nf τ n v (f := 42) (g := 3) (by decide), st_nf τ n v (f := 42) (g := 4) (by decide), st_nf τ n v (f := 42) (g := 5) (by decide), st_nf τ n v (f := 42) (g := 6) (by decide), st_nf τ n v (f := 42) (g := 7) (by decide), st_nf τ n v (f := 42) (g := 8) (by decide), st_nf τ n v (f := 42) (g := 9) (by decide), st_nf τ n v (f := 42) (g := 10) (by decide), st_nf τ n v (f := 42) (g := 11) (by decide)]
  · rw [cC_5, cC_5, st_nf τ n v (f := 42) (g := 13) (by decide), st_nf τ n v (f := 42) (g := 14) (by decide), st_nf τ n v (f := 42) (g := 15) (by decide), st_nf τ n v (f := 42) (g := 16) (by decide), st_nf τ n v (f := 42) (g := 17) (by decide), st_nf τ n v (f := 42) (g := 18) (by decide), st_nf τ n v (f := 42) (g := 19) (by decide), st_nf τ n v (f := 42) (g := 20) (by decide)]
  · rw [cC_6, cC_6, st_nf τ n v (f := 42) (g := 23) (by decide), st_nf τ n v (f := 42) (g := 24) (by decide), st_nf τ n v (f := 42) (g := 25) (by decide), st_nf τ n v (f := 42) (g := 26) (by decide), st_nf τ n v (f := 42) (g := 27) (by decide), st_nf τ n v (f := 42) (g := 28) (by decide), st_nf τ n v (f := 42) (g := 50) (by decide), st_nf τ n v (f := 42) (g := 51) (by decide), st_nf τ n v (f := 42) (g := 22) (by decide), st_nf τ n v (f := 42) (g := 29) (by decide), st_nf τ n v (f := 42) (g := 31) (by decide)]
  · rw [cC_7, cC_7, st_nf τ n v (f := 42) (g := 32) (by decide), st_nf τ n v (f := 42) (g := 33) (by decide)]
  · have hj : n' ≠ n := by omega
    rw [cC_8, cC_8, st_nj τ 42 v hj, st_nf τ n v (f := 42) (g := 55) (by decide), st_nf τ n v (f := 42) (g := 36) (by decide), st_nf τ n v (f := 42) (g := 37) (by decide), st_nf τ n v (f := 42) (g := 38) (by decide), st_nf τ n v (f := 42) (g := 39) (by decide), st_nf τ n v (f := 42) (g := 40) (by decide), st_nf τ n v (f := 42) (g := 41) (by decide), st_nf τ n v (f := 42) (g := 35) (by decide), st_nf τ n v (f := 42) (g := 44) (by decide), st_nf τ n v (f := 42) (g := 43) (by decide), st_nf τ n v (f := 42) (g := 45) (by decide)]
theorem cz_35 {cI cO : ClassId} {g : Gh} {cap N : Nat → Nat} {τ : St} {n : Nat} {v : Int32} (hn : N 8 ≤ n) : ∀ k' n', lv N cap k' n' → cC cI cO g cap (st τ 35 n v) k' n' = cC cI cO g cap τ k' n' := by
  intro k n' hl
  obtain ⟨h9, hl2, -⟩ := hl
  have h10 : k = 0 ∨ k = 1 ∨ k = 2 ∨ k = 3 ∨ k = 4 ∨ k = 5 ∨ k = 6 ∨ k = 7 ∨ k = 8 := by omega
  clear h9
  rcases h10 with rfl | rfl | rfl | rfl | rfl | rfl | rfl | rfl | rfl
  · rw [cC_0, cC_0, st_nf τ n v (f := 35) (g := 1) (by decide)]
  · rw [cC_1, cC_1, st_nf τ n v (f := 35) (g := 52) (by decide), st_nf τ n v (f := 35) (g := 54) (by decide)]
  · exact congrArg (fun z => (Sum.inl (cO, cap n', .inr (.inr (.inr (.inr z)))) : va_E)) (crow_st (by decide) (by decide) n')
  · rw [cC_3, cC_3, st_nf τ n v (f := 35) (g := 48) (by decide)]
  · rw [cC_4, cC_4, st_nf τ n v (f := 35) (g := 3) (by decide), st_nf τ n v (f := 35) (g := 4) (by decide), st_nf τ n v (f := 35) (g := 5) (by decide), st_nf τ n v (f := 35) (g := 6) (by decide), st_nf τ n v (f := 35) (g := 7) (by decide), st_nf τ n v (f := 35) (g := 8) (by decide), st_nf τ n v (f := 35) (g := 9) (by decide), st_nf τ n v (f := 35) (g := 10) (by decide), st_nf τ n v (f := 35) (g := 11) (by decide)]
  · rw [cC_5, cC_5, st_nf τ n v (f := 35) (g := 13) (by decide), st_nf τ n v (f := 35) (g := 14) (by decide), st_nf τ n v (f := 35) (g := 15) (by decide), st_nf τ n v (f := 35) (g := 16) (by decide), st_nf τ n v (f := 35) (g := 17) (by decide), st_nf τ n v (f := 35) (g := 18) (by decide), st_nf τ n v (f := 35) (g := 19) (by decide), st_nf τ n v (f := 35) (g := 20) (by decide)]
  · rw [cC_6, cC_6, st_nf τ n v (f := 35) (g := 23) (by decide), st_nf τ n v (f := 35) (g := 24) (by decide), st_nf τ n v (f := 35) (g := 25) (by decide), st_nf τ n v (f := 35) (g := 26) (by decide), st_nf τ n v (f := 35) (g := 27) (by decide), st_nf τ n v (f := 35) (g := 28) (by decide), st_nf τ n v (f := 35) (g := 50) (by decide), st_nf τ n v (f := 35) (g := 51) (by decide), st_nf τ n v (f := 35) (g := 22) (by decide), st_nf τ n v (f := 35) (g := 29) (by decide), st_nf τ n v (f := 35) (g := 31) (by decide)]
  · rw [cC_7, cC_7, st_nf τ n v (f := 35) (g := 32) (by decide), st_nf τ n v (f := 35) (g := 33) (by decide)]
  · have hj : n' ≠ n := by omega
    rw [cC_8, cC_8, st_nj τ 35 v hj, st_nf τ n v (f := 35) (g := 55) (by decide), st_nf τ n v (f := 35) (g := 36) (by decide), st_nf τ n v (f := 35) (g := 37) (by decide), st_nf τ n v (f := 35) (g := 38) (by decide), st_nf τ n v (f := 35) (g := 39) (by decide), st_nf τ n v (f := 35) (g := 40) (by decide), st_nf τ n v (f := 35) (g := 41) (by decide), st_nf τ n v (f := 35) (g := 42) (by decide), st_nf τ n v (f := 35) (g := 44) (by decide), st_nf τ n v (f := 35) (g := 43) (by decide), st_nf τ n v (f := 35) (g := 45) (by decide)]
theorem cz_44 {cI cO : ClassId} {g : Gh} {cap N : Nat → Nat} {τ : St} {n : Nat} {v : Int32} (hn : N 8 ≤ n) : ∀ k' n', lv N cap k' n' → cC cI cO g cap (st τ 44 n v) k' n' = cC cI cO g cap τ k' n' := by
  intro k n' hl
  obtain ⟨h9, hl2, -⟩ := hl
  have h10 : k = 0 ∨ k = 1 ∨ k = 2 ∨ k = 3 ∨ k = 4 ∨ k = 5 ∨ k = 6 ∨ k = 7 ∨ k = 8 := by omega
  clear h9
  rcases h10 with rfl | rfl | rfl | rfl | rfl | rfl | rfl | rfl | rfl
  · rw [cC_0, cC_0, st_nf τ n v (f := 44) (g := 1) (by decide)]
  · rw [cC_1, cC_1, st_nf τ n v (f := 44) (g := 52) (by decide), st_nf τ n v (f := 44) (g := 54) (by decide)]
  · exact congrArg (fun z => (Sum.inl (cO, cap n', .inr (.inr (.inr (.inr z)))) : va_E)) (crow_st (by decide) (by decide) n')
  · rw [cC_3, cC_3, st_nf τ n v (f := 44) (g := 48) (by decide)]
  · rw [cC_4, cC_4, st_nf τ n v (f := 44) (g := 3) (by decide), st_nf τ n v (f := 44) (g := 4) (by decide), st_nf τ n v (f := 44) (g := 5) (by decide), st_nf τ n v (f := 44) (g := 6) (by decide), st_nf τ n v (f := 44) (g := 7) (by decide), st_nf τ n v (f := 44) (g := 8) (by decide), st_nf τ n v (f := 44) (g := 9) (by decide), st_nf τ n v (f := 44) (g := 10) (by decide), st_nf τ n v (f := 44) (g := 11) (by decide)]
  · rw [cC_5, cC_5, st_nf τ n v (f := 44) (g := 13) (by decide), st_nf τ n v (f := 44) (g := 14) (by decide), st_nf τ n v (f := 44) (g := 15) (by decide), st_nf τ n v (f := 44) (g := 16) (by decide), st_nf τ n v (f := 44) (g := 17) (by decide), st_nf τ n v (f := 44) (g := 18) (by decide), st_nf τ n v (f := 44) (g := 19) (by decide), st_nf τ n v (f := 44) (g := 20) (by decide)]
  · rw [cC_6, cC_6, st_nf τ n v (f := 44) (g := 23) (by decide), st_nf τ n v (f := 44) (g := 24) (by decide), st_nf τ n v (f := 44) (g := 25) (by decide), st_nf τ n v (f := 44) (g := 26) (by decide), st_nf τ n v (f := 44) (g := 27) (by decide), st_nf τ n v (f := 44) (g := 28) (by decide), st_nf τ n v (f := 44) (g := 50) (by decide), st_nf τ n v (f := 44) (g := 51) (by decide), st_nf τ n v (f := 44) (g := 22) (by decide), st_nf τ n v (f := 44) (g := 29) (by decide), st_nf τ n v (f := 44) (g := 31) (by decide)]
  · rw [cC_7, cC_7, st_nf τ n v (f := 44) (g := 32) (by decide), st_nf τ n v (f := 44) (g := 33) (by decide)]
  · have hj : n' ≠ n := by omega
    rw [cC_8, cC_8, st_nj τ 44 v hj, st_nf τ n v (f := 44) (g := 55) (by decide), st_nf τ n v (f := 44) (g := 36) (by decide), st_nf τ n v (f := 44) (g := 37) (by decide), st_nf τ n v (f := 44) (g := 38) (by decide), st_nf τ n v (f := 44) (g := 39) (by decide), st_nf τ n v (f := 44) (g := 40) (by decide), st_nf τ n v (f := 44) (g := 41) (by decide), st_nf τ n v (f := 44) (g := 42) (by decide), st_nf τ n v (f := 44) (g := 35) (by decide), st_nf τ n v (f := 44) (g := 43) (by decide), st_nf τ n v (f := 44) (g := 45) (by decide)]
theorem cz_43 {cI cO : ClassId} {g : Gh} {cap N : Nat → Nat} {τ : St} {n : Nat} {v : Int32} (hn : N 8 ≤ n) : ∀ k' n', lv N cap k' n' → cC cI cO g cap (st τ 43 n v) k' n' = cC cI cO g cap τ k' n' := by
  intro k n' hl
  obtain ⟨h9, hl2, -⟩ := hl
  have h10 : k = 0 ∨ k = 1 ∨ k = 2 ∨ k = 3 ∨ k = 4 ∨ k = 5 ∨ k = 6 ∨ k = 7 ∨ k = 8 := by omega
  clear h9
  rcases h10 with rfl | rfl | rfl | rfl | rfl | rfl | rfl | rfl | rfl
  · rw [cC_0, cC_0, st_nf τ n v (f := 43) (g := 1) (by decide)]
  · rw [cC_1, cC_1, st_nf τ n v (f := 43) (g := 52) (by decide), st_nf τ n v (f := 43) (g := 54) (by decide)]
  · exact congrArg (fun z => (Sum.inl (cO, cap n', .inr (.inr (.inr (.inr z)))) : va_E)) (crow_st (by decide) (by decide) n')
  · rw [cC_3, cC_3, st_nf τ n v (f := 43) (g := 48) (by decide)]
  · rw [cC_4, cC_4, st_nf τ n v (f := 43) (g := 3) (by decide), st_nf τ n v (f := 43) (g := 4) (by decide), st_nf τ n v (f := 43) (g := 5) (by decide), st_nf τ n v (f := 43) (g := 6) (by decide), st_nf τ n v (f := 43) (g := 7) (by decide), st_nf τ n v (f := 43) (g := 8) (by decide), st_nf τ n v (f := 43) (g := 9) (by decide), st_nf τ n v (f := 43) (g := 10) (by decide), st_nf τ n v (f := 43) (g := 11) (by decide)]
  · rw [cC_5, cC_5, st_nf τ n v (f := 43) (g := 13) (by decide), st_nf τ n v (f := 43) (g := 14) (by decide), st_nf τ n v (f := 43) (g := 15) (by decide), st_nf τ n v (f := 43) (g := 16) (by decide), st_nf τ n v (f := 43) (g := 17) (by decide), st_nf τ n v (f := 43) (g := 18) (by decide), st_nf τ n v (f := 43) (g := 19) (by decide), st_nf τ n v (f := 43) (g := 20) (by decide)]
  · rw [cC_6, cC_6, st_nf τ n v (f := 43) (g := 23) (by decide), st_nf τ n v (f := 43) (g := 24) (by decide), st_nf τ n v (f := 43) (g := 25) (by decide), st_nf τ n v (f := 43) (g := 26) (by decide), st_nf τ n v (f := 43) (g := 27) (by decide), st_nf τ n v (f := 43) (g := 28) (by decide), st_nf τ n v (f := 43) (g := 50) (by decide), st_nf τ n v (f := 43) (g := 51) (by decide), st_nf τ n v (f := 43) (g := 22) (by decide), st_nf τ n v (f := 43) (g := 29) (by decide), st_nf τ n v (f := 43) (g := 31) (by decide)]
  · rw [cC_7, cC_7, st_nf τ n v (f := 43) (g := 32) (by decide), st_nf τ n v (f := 43) (g := 33) (by decide)]
  · have hj : n' ≠ n := by omega
    rw [cC_8, cC_8, st_nj τ 43 v hj, st_nf τ n v (f := 43) (g := 55) (by decide), st_nf τ n v (f := 43) (g := 36) (by decide), st_nf τ n v (f := 43) (g := 37) (by decide), st_nf τ n v (f := 43) (g := 38) (by decide), st_nf τ n v (f := 43) (g := 39) (by decide), st_nf τ n v (f := 43) (g := 40) (by decide), st_nf τ n v (f := 43) (g := 41) (by decide), st_nf τ n v (f := 43) (g := 42) (by decide), st_nf τ n v (f := 43) (g := 35) (by decide), st_nf τ n v (f := 43) (g := 44) (by decide), st_nf τ n v (f := 43) (g := 45) (by decide)]
theorem cz_45 {cI cO : ClassId} {g : Gh} {cap N : Nat → Nat} {τ : St} {n : Nat} {v : Int32} (hn : N 8 ≤ n) : ∀ k' n', lv N cap k' n' → cC cI cO g cap (st τ 45 n v) k' n' = cC cI cO g cap τ k' n' := by
  intro k n' hl
  obtain ⟨h9, hl2, -⟩ := hl
  have h10 : k = 0 ∨ k = 1 ∨ k = 2 ∨ k = 3 ∨ k = 4 ∨ k = 5 ∨ k = 6 ∨ k = 7 ∨ k = 8 := by omega
  clear h9
  rcases h10 with rfl | rfl | rfl | rfl | rfl | rfl | rfl | rfl | rfl
  · rw [cC_0, cC_0, st_nf τ n v (f := 45) (g := 1) (by decide)]
  · rw [cC_1, cC_1, st_nf τ n v (f := 45) (g := 52) (by decide), st_nf τ n v (f := 45) (g := 54) (by decide)]
  · exact congrArg (fun z => (Sum.inl (cO, cap n', .inr (.inr (.inr (.inr z)))) : va_E)) (crow_st (by decide) (by decide) n')
  · rw [cC_3, cC_3, st_nf τ n v (f := 45) (g := 48) (by decide)]
  · rw [cC_4, cC_4, st_nf τ n v (f := 45) (g := 3) (by decide), st_nf τ n v (f := 45) (g := 4) (by decide), st_nf τ n v (f := 45) (g := 5) (by decide), st_nf τ n v (f := 45) (g := 6) (by decide), st_nf τ n v (f := 45) (g := 7) (by decide), st_nf τ n v (f := 45) (g := 8) (by decide), st_nf τ n v (f := 45) (g := 9) (by decide), st_nf τ n v (f := 45) (g := 10) (by decide), st_nf τ n v (f := 45) (g := 11) (by decide)]
  · rw [cC_5, cC_5, st_nf τ n v (f := 45) (g := 13) (by decide), st_nf τ n v (f := 45) (g := 14) (by decide), st_nf τ n v (f := 45) (g := 15) (by decide), st_nf τ n v (f := 45) (g := 16) (by decide), st_nf τ n v (f := 45) (g := 17) (by decide), st_nf τ n v (f := 45) (g := 18) (by decide), st_nf τ n v (f := 45) (g := 19) (by decide), st_nf τ n v (f := 45) (g := 20) (by decide)]
  · rw [cC_6, cC_6, st_nf τ n v (f := 45) (g := 23) (by decide), st_nf τ n v (f := 45) (g := 24) (by decide), st_nf τ n v (f := 45) (g := 25) (by decide), st_nf τ n v (f := 45) (g := 26) (by decide), st_nf τ n v (f := 45) (g := 27) (by decide), st_nf τ n v (f := 45) (g := 28) (by decide), st_nf τ n v (f := 45) (g := 50) (by decide), st_nf τ n v (f := 45) (g := 51) (by decide), st_nf τ n v (f := 45) (g := 22) (by decide), st_nf τ n v (f := 45) (g := 29) (by decide), st_nf τ n v (f := 45) (g := 31) (by decide)]
  · rw [cC_7, cC_7, st_nf τ n v (f := 45) (g := 32) (by decide), st_nf τ n v (f := 45) (g := 33) (by decide)]
  · have hj : n' ≠ n := by omega
    rw [cC_8, cC_8, st_nj τ 45 v hj, st_nf τ n v (f := 45) (g := 55) (by decide), st_nf τ n v (f := 45) (g := 36) (by decide), st_nf τ n v (f := 45) (g := 37) (by decide), st_nf τ n v (f := 45) (g := 38) (by decide), st_nf τ n v (f := 45) (g := 39) (by decide), st_nf τ n v (f := 45) (g := 40) (by decide), st_nf τ n v (f := 45) (g := 41) (by decide), st_nf τ n v (f := 45) (g := 42) (by decide), st_nf τ n v (f := 45) (g := 35) (by decide), st_nf τ n v (f := 45) (g := 44) (by decide), st_nf τ n v (f := 45) (g := 43) (by decide)]
theorem cP_cz {D : va_G} {cI cO : ClassId} {A : Nat → Prop} {g : Gh} {cap N : Nat → Nat} {τ τ' : St} {H : Heap} (h : cP D cI cO A g cap N τ H) (e : ∀ k n, lv N cap k n → cC cI cO g cap τ' k n = cC cI cO g cap τ k n) : cP D cI cO A g cap N τ' H := ⟨fun k n hl => by rw [e k n hl]; exact h.1 k n hl, h.2⟩
/-- what live objects refer to is live: the world is the same when the ghost changes at a number that is not -/
theorem cC_gn1 {cI cO : ClassId} {g : Gh} {cap N : Nat → Nat} {τ : St} {k r : Nat} (hk : k = 4 ∨ k = 5 ∨ k = 8) (hI : KI cap N τ) {k' n' : Nat} (hl : lv N cap k' n') : cC cI cO (gn1 g k (N k) r) cap τ k' n' = cC cI cO g cap τ k' n' := by
  obtain ⟨h1, h2, h3, h4, h5, h6⟩ := hI
  obtain ⟨n0, n4, n5, n6, n8, n7, n1, n2, n3⟩ := id h1
  obtain ⟨h9, hn, -⟩ := hl
  have h10 : k' = 0 ∨ k' = 1 ∨ k' = 2 ∨ k' = 3 ∨ k' = 4 ∨ k' = 5 ∨ k' = 6 ∨ k' = 7 ∨ k' = 8 := by omega
  clear h9
  rcases h10 with rfl | rfl | rfl | rfl | rfl | rfl | rfl | rfl | rfl
  · rw [cC_0, cC_0, gn1_o (by omega), gn1_o (by omega), gn1_o (by omega), gn1_o (by omega), gn1_o (by omega)]
  · rw [cC_1, cC_1, gn1_o (by omega)]
  · refine congrArg (fun z => (Sum.inl (cO, cap n', .inr (.inr (.inr (.inr z)))) : va_E)) ?_
    funext i
    unfold crow
    by_cases hi : i < (τ 54 n').toNatClampNeg
    · rw [if_pos hi, if_pos hi, gn1_o]
      rintro ⟨z1, z2⟩
      obtain ⟨C, a, b, c, d⟩ := h6 n' (by omega)
      rw [a, nI_clamp (by omega)] at hi
      by_cases q4 : 4 ≤ n'
      · have := vp_lt (d q4 i hi)
        rw [ek_8 q4] at z1
        rw [cn_4 q4] at z2
        subst z1; omega
      · have hcn : cn τ n' i = i := if_pos (by omega)
        rw [hcn] at z2
        have q : n' = 0 ∨ n' = 1 ∨ n' = 2 ∨ n' = 3 := by omega
        rcases q with rfl | rfl | rfl | rfl
        · have e9 := (nI_eq (by omega) (by omega)).mp (a.symm.trans h2.1)
          have : ek 0 = 4 := rfl
          rw [this] at z1; subst z1; omega
        · have e9 := (nI_eq (by omega) (by omega)).mp (a.symm.trans h2.2.1)
          have : ek 1 = 5 := rfl
          rw [this] at z1; subst z1; omega
        · have : ek 2 = 6 := rfl
          rw [this] at z1; omega
        · have e9 := (nI_eq (by omega) (by omega)).mp (a.symm.trans h2.2.2.2)
          have : ek 3 = 8 := rfl
          rw [this] at z1; subst z1; omega
    · rw [if_neg hi, if_neg hi]
  · rw [cC_3, cC_3]
  · rw [cC_4, cC_4]
  · rw [cC_5, cC_5]
  · obtain ⟨a, b, c⟩ := h3 n' hn
    have := vp_lt a; have := vp_lt b; have := vp_lt c
    rw [cC_6, cC_6, gn1_o (by rintro ⟨z, w⟩; subst z; omega), gn1_o (by rintro ⟨z, w⟩; subst z; omega), gn1_o (by rintro ⟨z, w⟩; subst z; omega), gn1_o (by omega), gn1_o (by omega), gn1_o (by omega), gn1_o (by omega)]
  · rw [cC_7, cC_7]
  · have := vp_lt (h4 n' hn)
    rw [cC_8, cC_8, gn1_o (by omega)]
theorem cP_new {D : va_G} {cI cO : ClassId} {A : Nat → Prop} {g : Gh} {cap N : Nat → Nat} {τ : St} {H : Heap} {k r : Nat} (hk : k = 4 ∨ k = 5 ∨ k = 8) (hI : KI cap N τ) (hP : cP D cI cO A g cap N τ H) (hr : va_at D vwCl (r, cC cI cO (gn1 g k (N k) r) cap τ k (N k)) H) (hAr : A r) (hfr : ∀ k n, lv N cap k n → g k n ≠ r) : cP D cI cO A (gn1 g k (N k) r) cap (Nn N k) τ H := by
  have key : ∀ k' n', lv (Nn N k) cap k' n' → ¬ (k' = k ∧ n' = N k) → lv N cap k' n' := fun k' n' hl hne => by
    refine ⟨hl.1, ?_, hl.2.2⟩
    by_cases e : k' = k
    · subst e; have := hl.2.1; rw [Nn_s] at this; omega
    · have := hl.2.1; rwa [Nn_o e] at this
  refine ⟨fun k' n' hl => ?_, fun k' n' k2 n2 hl hl2 hg => ?_⟩
  · by_cases e : k' = k ∧ n' = N k
    · obtain ⟨rfl, rfl⟩ := e
      rw [gn1_s]; exact ⟨hr, hAr⟩
    · have hl' := key k' n' hl e
      rw [cC_gn1 hk hI hl', gn1_o e]
      exact hP.1 k' n' hl'
  · by_cases e : k' = k ∧ n' = N k
    · by_cases e2 : k2 = k ∧ n2 = N k
      · exact ⟨e.1.trans e2.1.symm, e.2.trans e2.2.symm⟩
      · obtain ⟨rfl, rfl⟩ := e
        rw [gn1_s, gn1_o e2] at hg
        exact absurd hg.symm (hfr _ _ (key k2 n2 hl2 e2))
    · by_cases e2 : k2 = k ∧ n2 = N k
      · obtain ⟨rfl, rfl⟩ := e2
        rw [gn1_s, gn1_o e] at hg
        exact absurd hg (hfr _ _ (key k' n' hl e))
      · rw [gn1_o e, gn1_o e2] at hg
        exact hP.2 _ _ _ _ (key k' n' hl e) (key k2 n2 hl2 e2) hg
section KNW
variable {p : Program} {l : Launch} {e : Env} {R : Room} {s : State} {m : MethodId} {args : Array Value} {below : List Frame} {meth : Method} {c : Code} {H : Heap} {locs : List Loc} {cells slots : Nat} {Q : State → Prop}
variable {cc : ByteArray} {pc : Nat} {ls : Array Slot} {rest : List Value} {D : va_G} {A : Nat → Prop} {H0 : Heap} {Ts : List Cond} {own : String} {idx : Nat} {cI cO : ClassId}
/-- an object made: where it lies, all else as before -/
theorem kn_new {C : String} {T : u_T} {M ci : Nat} (E : kE p c cc s m args Ts own D cI cO) (hin : ∀ w ∈ u_ws C T M, w ∈ Ts) (ty : Nat → FieldType) (hty : ∀ k, k < M → parseFieldDescriptor (T k).2.2.1 = some (ty k)) (hw : Cond.classLink own idx C ∈ Ts ∧ Cond.instantiable C M ∈ Ts ∧ Cond.initialized C ∈ Ts) (hS : va_S A H0 H locs) (hA : ∀ q, H0.size ≤ q → A q) (hc : vwCl[ci]? = some (C, T, M)) {fs : List Value} (hfs : ∀ j, j < M → defaultValue (ty j) = vp_V fs j) (hcells : cells + 1 ≤ R.cells) (hslots : slots + M ≤ R.slots) (hdg : decode cc pc = .ok (.new idx, 3)) (kk : ∀ (r : Nat) (H1 : Heap), va_at D vwCl (r, .inr (ci, fs)) H1 → (∀ q : Nat, q < H.size → H1[q]? = H[q]?) → r = H.size → A r → va_S A H0 H1 locs → W p l e R s m args below meth c H1 locs (cells + 1) (slots + M) Q (F0 m (pc + 3) ls (.ref r :: rest))) : W p l e R s m args below meth c H locs cells slots Q (F0 m pc ls rest) := by
  have hKn := E.2.2.2.1 ci _ hc
  refine W.newcK E.1.1 E.1.2 E.2.2.1 (E.2.1 _ hw.1) (E.2.1 _ hw.2.1) (E.2.1 _ hw.2.2) rfl hdg hcells hslots hKn.2.1 rfl fun H1 kC hkC e1 z1 o1 => ?_
  exact kk H.size H1 ⟨_, hc, (u_born ty E.2.1 hin hKn hkC e1 hty).to hfs⟩ o1 rfl (hA _ hS.1) ⟨Nat.le_trans hS.1 (by omega), fun x h1 h2 => (o1 x (Nat.lt_of_lt_of_le h1 hS.1)).trans (hS.2.1 x h1 h2), hS.2.2⟩
/-- a constructor called: all but the made one as before -/
theorem kn_init {PU PV : State → Prop} {y : MethodName} {ws : List Cond} {rm : Room} {bytes : ByteArray} {maxL nL n r index mc ms : Nat} {As st0 : List Value} (E : kE p c cc s m args Ts own D cI cO) (hml : c.maxLocals = nL) (hS : va_S A s.heap H locs) (hAr : A r) (hbl : FrameBlind (va_Pc (.ref r :: As) PU)) (hPU : ∀ U : State, U.heap = H → s.WarmedH U.vm → PU U) (ct : Met l y ws rm (va_Pc (.ref r :: As) PU) (va_Qv (fun (_ : Unit) => True) (fun _ t => PV t) (fun x => x = r)) mc ms (fun x => x = r)) (cw : CallB R s args own index y bytes maxL none ws rm mc ms n ∧ y.name = "<init>" ∧ (Cond.instanceMethod y).before args s = true) (hn : As.length = n) (hsz : ls.size = nL) (hst : st0 = As.reverse ++ .ref r :: rest) (hW : (rest.map fun v => v.category).sum ≤ 8) (hdg : decode cc pc = .ok (.invokespecial index, 3)) (hf : cells + mc ≤ R.cells ∧ slots + ms ≤ R.slots) (kk : ∀ (t : State) (H1 : Heap) (locs1 : List Loc), t.heap = H1 → PV t → (∀ q : Nat, q < H.size → q ≠ r → H1[q]? = H[q]?) → H.size ≤ H1.size → va_S A s.heap H1 locs1 → W p l e R s m args below meth c H1 locs1 (cells + mc) (slots + ms) Q (F0 m (pc + 3) ls rest)) : W p l e R s m args below meth c H locs cells slots Q (F0 m pc ls st0) := va_callv (va_runI (As := As) (rest := rest) (b := r) ⟨E.1.1, E.1.2, hml, E.2.2.1, E.2.1⟩ ct cw ⟨hbl, fun U hU hW => ⟨rfl, hPU U hU hW⟩⟩ rfl hn hsz hst (lv_room hW) hdg hf) hS (fun q _ h => by rw [h]; exact hAr) (fun q h => by rw [h]; exact hAr) (fun u t H1 locs1 ht hvm hw hB hz hk hS1 => kk t H1 locs1 ht hB hk hz hS1)
end KNW
