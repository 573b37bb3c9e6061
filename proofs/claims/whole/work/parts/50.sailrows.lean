/-! stores at sailings, sides and lists that are not live -/
theorem crow_54 {g : Gh} {τ : St} {j l : Nat} {v : Int32} (h : l ≠ j) : crow g (st τ 54 j v) l = crow g τ l := by
  funext i
  unfold crow cn
  rw [st_nj τ 54 v h, st_nf τ j v (g := 100 + l) (by omega)]
theorem cz_23 {cI cO : ClassId} {g : Gh} {cap N : Nat → Nat} {τ : St} {n : Nat} {v : Int32} (hn : N 6 ≤ n) : ∀ k' n', lv N cap k' n' → cC cI cO g cap (st τ 23 n v) k' n' = cC cI cO g cap τ k' n' := by
  intro k n' hl
  obtain ⟨h9, hl2, -⟩ := hl
  have h10 : k = 0 ∨ k = 1 ∨ k = 2 ∨ k = 3 ∨ k = 4 ∨ k = 5 ∨ k = 6 ∨ k = 7 ∨ k = 8 := by omega
  clear h9
  rcases h10 with rfl | rfl | rfl | rfl | rfl | rfl | rfl | rfl | rfl
  · rw [cC_0, cC_0, st_nf τ n v (f := 23) (g := 1) (by decide)]
  · rw [cC_1, cC_1, st_nf τ n v (f := 23) (g := 52) (by decide), st_nf τ n v (f := 23) (g := 54) (by decide)]
  · exact congrArg (fun z => (Sum.inl (cO, cap n', .inr (.inr (.inr (.inr z)))) : va_E)) (crow_st (by decide) (by decide) n')
  · rw [cC_3, cC_3, st_nf τ n v (f := 23) (g := 48) (by decide)]
  · rw [cC_4, cC_4, st_nf τ n v (f := 23) (g := 3) (by decide), st_nf τ n v (f := 23) (g := 4) (by decide), st_nf τ n v (f := 23) (g := 5) (by decide), st_nf τ n v (f := 23) (g := 6) (by decide), st_nf τ n v (f := 23) (g := 7) (by decide), st_nf τ n v (f := 23) (g := 8) (by decide), st_nf τ n v (f := 23) (g := 9) (by decide), st_nf τ n v (f := 23) (g := 10) (by decide), st_nf τ n v (f := 23) (g := 11) (by decide)]
  · rw [cC_5, cC_5, st_nf τ n v (f := 23) (g := 13) (by decide), st_nf τ n v (f := 23) (g := 14) (by decide), st_nf τ n v (f := 23) (g := 15) (by decide), st_nf τ n v (f := 23) (g := 16) (by decide), st_nf τ n v (f := 23) (g := 17) (by decide), st_nf τ n v (f := 23) (g := 18) (by decide), st_nf τ n v (f := 23) (g := 19) (by decide), st_nf τ n v (f := 23) (g := 20) (by decide)]
  · have hj : n' ≠ n := by omega
    rw [cC_6, cC_6, st_nj τ 23 v hj, st_nf τ n v (f := 23) (g := 24) (by decide), st_nf τ n v (f := 23) (g := 25) (by decide), st_nf τ n v (f := 23) (g := 26) (by decide), st_nf τ n v (f := 23) (g := 27) (by decide), st_nf τ n v (f := 23) (g := 28) (by decide), st_nf τ n v (f := 23) (g := 50) (by decide), st_nf τ n v (f := 23) (g := 51) (by decide), st_nf τ n v (f := 23) (g := 22) (by decide), st_nf τ n v (f := 23) (g := 29) (by decide), st_nf τ n v (f := 23) (g := 31) (by decide)]
  · rw [cC_7, cC_7, st_nf τ n v (f := 23) (g := 32) (by decide), st_nf τ n v (f := 23) (g := 33) (by decide)]
  · rw [cC_8, cC_8, st_nf τ n v (f := 23) (g := 55) (by decide), st_nf τ n v (f := 23) (g := 36) (by decide), st_nf τ n v (f := 23) (g := 37) (by decide), st_nf τ n v (f := 23) (g := 38) (by decide), st_nf τ n v (f := 23) (g := 39) (by decide), st_nf τ n v (f := 23) (g := 40) (by decide), st_nf τ n v (f := 23) (g := 41) (by decide), st_nf τ n v (f := 23) (g := 42) (by decide), st_nf τ n v (f := 23) (g := 35) (by decide), st_nf τ n v (f := 23) (g := 44) (by decide), st_nf τ n v (f := 23) (g := 43) (by decide), st_nf τ n v (f := 23) (g := 45) (by decide)]
theorem cz_24 {cI cO : ClassId} {g : Gh} {cap N : Nat → Nat} {τ : St} {n : Nat} {v : Int32} (hn : N 6 ≤ n) : ∀ k' n', lv N cap k' n' → cC cI cO g cap (st τ 24 n v) k' n' = cC cI cO g cap τ k' n' := by
  intro k n' hl
  obtain ⟨h9, hl2, -⟩ := hl
  have h10 : k = 0 ∨ k = 1 ∨ k = 2 ∨ k = 3 ∨ k = 4 ∨ k = 5 ∨ k = 6 ∨ k = 7 ∨ k = 8 := by omega
  clear h9
  rcases h10 with rfl | rfl | rfl | rfl | rfl | rfl | rfl | rfl | rfl
  · rw [cC_0, cC_0, st_nf τ n v (f := 24) (g := 1) (by decide)]
  · rw [cC_1, cC_1, st_nf τ n v (f := 24) (g := 52) (by decide), st_nf τ n v (f := 24) (g := 54) (by decide)]
  · exact congrArg (fun z => (Sum.inl (cO, cap n', .inr (.inr (.inr (.inr z)))) : va_E)) (crow_st (by decide) (by decide) n')
  · rw [cC_3, cC_3, st_nf τ n v (f := 24) (g := 48) (by decide)]
  · rw [cC_4, cC_4, st_nf τ n v (f := 24) (g := 3) (by decide), st_nf τ n v (f := 24) (g := 4) (by decide), st_nf τ n v (f := 24) (g := 5) (by decide), st_nf τ n v (f := 24) (g := 6) (by decide), st_nf τ n v (f := 24) (g := 7) (by decide), st_nf τ n v (f := 24) (g := 8) (by decide), st_nf τ n v (f := 24) (g := 9) (by decide), st_nf τ n v (f := 24) (g := 10) (by decide), st_nf τ n v (f := 24) (g := 11) (by decide)]
  · rw [cC_5, cC_5, st_nf τ n v (f := 24) (g := 13) (by decide), st_nf τ n v (f := 24) (g := 14) (by decide), st_nf τ n v (f := 24) (g := 15) (by decide), st_nf τ n v (f := 24) (g := 16) (by decide), st_nf τ n v (f := 24) (g := 17) (by decide), st_nf τ n v (f := 24) (g := 18) (by decide), st_nf τ n v (f := 24) (g := 19) (by decide), st_nf τ n v (f := 24) (g := 20) (by decide)]
  · have hj : n' ≠ n := by omega
    rw [cC_6, cC_6, st_nj τ 24 v hj, st_nf τ n v (f := 24) (g := 23) (by decide), st_nf τ n v (f := 24) (g := 25) (by decide), st_nf τ n v (f := 24) (g := 26) (by decide), st_nf τ n v (f := 24) (g := 27) (by decide), st_nf τ n v (f := 24) (g := 28) (by decide), st_nf τ n v (f := 24) (g := 50) (by decide), st_nf τ n v (f := 24) (g := 51) (by decide), st_nf τ n v (f := 24) (g := 22) (by decide), st_nf τ n v (f := 24) (g := 29) (by decide), st_nf τ n v (f := 24) (g := 31) (by decide)]
  · rw [cC_7, cC_7, st_nf τ n v (f := 24) (g := 32) (by decide), st_nf τ n v (f := 24) (g := 33) (by decide)]
  · rw [cC_8, cC_8, st_nf τ n v (f := 24) (g := 55) (by decide), st_nf τ n v (f := 24) (g := 36) (by decide), st_nf τ n v (f := 24) (g := 37) (by decide), st_nf τ n v (f := 24) (g := 38) (by decide), st_nf τ n v (f := 24) (g := 39) (by decide), st_nf τ n v (f := 24) (g := 40) (by decide), st_nf τ n v (f := 24) (g := 41) (by decide), st_nf τ n v (f := 24) (g := 42) (by decide), st_nf τ n v (f := 24) (g := 35) (by decide), st_nf τ n v (f := 24) (g := 44) (by decide), st_nf τ n v (f := 24) (g := 43) (by decide), st_nf τ n v (f := 24) (g := 45) (by decide)]
theorem cz_25 {cI cO : ClassId} {g : Gh} {cap N : Nat → Nat} {τ : St} {n : Nat} {v : Int32} (hn : N 6 ≤ n) : ∀ k' n', lv N cap k' n' → cC cI cO g cap (st τ 25 n v) k' n' = cC cI cO g cap τ k' n' := by
  intro k n' hl
  obtain ⟨h9, hl2, -⟩ := hl
  have h10 : k = 0 ∨ k = 1 ∨ k = 2 ∨ k = 3 ∨ k = 4 ∨ k = 5 ∨ k = 6 ∨ k = 7 ∨ k = 8 := by omega
  clear h9
  rcases h10 with rfl | rfl | rfl | rfl | rfl | rfl | rfl | rfl | rfl
  · rw [cC_0, cC_0, st_nf τ n v (f := 25) (g := 1) (by decide)]
  · rw [cC_1, cC_1, st_nf τ n v (f := 25) (g := 52) (by decide), st_nf τ n v (f := 25) (g := 54) (by decide)]
  · exact congrArg (fun z => (Sum.inl (cO, cap n', .inr (.inr (.inr (.inr z)))) : va_E)) (crow_st (by decide) (by decide) n')
  · rw [cC_3, cC_3, st_nf τ n v (f := 25) (g := 48) (by decide)]
  · rw [cC_4, cC_4, st_nf τ n v (f := 25) (g := 3) (by decide), st_nf τ n v (f := 25) (g := 4) (by decide), st_nf τ n v (f := 25) (g := 5) (by decide), st_nf τ n v (f := 25) (g := 6) (by decide), st_nf τ n v (f := 25) (g := 7) (by decide), st_nf τ n v (f := 25) (g := 8) (by decide), st_nf τ n v (f := 25) (g := 9) (by decide), st_nf τ n v (f := 25) (g := 10) (by decide), st_nf τ n v (f := 25) (g := 11) (by decide)]
  · rw [cC_5, cC_5, st_nf τ n v (f := 25) (g := 13) (by decide), st_nf τ n v (f := 25) (g := 14) (by decide), st_nf τ n v (f := 25) (g := 15) (by decide), st_nf τ n v (f := 25) (g := 16) (by decide), st_nf τ n v (f := 25) (g := 17) (by decide), st_nf τ n v (f := 25) (g := 18) (by decide), st_nf τ n v (f := 25) (g := 19) (by decide), st_nf τ n v (f := 25) (g := 20) (by decide)]
  · have hj : n' ≠ n := by omega
    rw [cC_6, cC_6, st_nj τ 25 v hj, st_nf τ n v (f := 25) (g := 23) (by decide), st_nf τ n v (f := 25) (g := 24) (by decide), st_nf τ n v (f := 25) (g := 26) (by decide), st_nf τ n v (f := 25) (g := 27) (by decide), st_nf τ n v (f := 25) (g := 28) (by decide), st_nf τ n v (f := 25) (g := 50) (by decide), st_nf τ n v (f := 25) (g := 51) (by decide), st_nf τ n v (f := 25) (g := 22) (by decide), st_nf τ n v (f := 25) (g := 29) (by decide), st_nf τ n v (f := 25) (g := 31) (by decide)]
  · rw [cC_7, cC_7, st_nf τ n v (f := 25) (g := 32) (by decide), st_nf τ n v (f := 25) (g := 33) (by decide)]
  · rw [cC_8, cC_8, st_nf τ n v (f := 25) (g := 55) (by decide), st_nf τ n v (f := 25) (g := 36) (by decide), st_nf τ n v (f := 25) (g := 37) (by decide), st_nf τ n v (f := 25) (g := 38) (by decide), st_nf τ n v (f := 25) (g := 39) (by decide), st_nf τ n v (f := 25) (g := 40) (by decide), st_nf τ n v (f := 25) (g := 41) (by decide), st_nf τ n v (f := 25) (g := 42) (by decide), st_nf τ n v (f := 25) (g := 35) (by decide), st_nf τ n v (f := 25) (g := 44) (by decide), st_nf τ n v (f := 25) (g := 43) (by decide), st_nf τ n v (f := 25) (g := 45) (by decide)]
theorem cz_26 {cI cO : ClassId} {g : Gh} {cap N : Nat → Nat} {τ : St} {n : Nat} {v : Int32} (hn : N 6 ≤ n) : ∀ k' n', lv N cap k' n' → cC cI cO g cap (st τ 26 n v) k' n' = cC cI cO g cap τ k' n' := by
  intro k n' hl
  obtain ⟨h9, hl2, -⟩ := hl
  have h10 : k = 0 ∨ k = 1 ∨ k = 2 ∨ k = 3 ∨ k = 4 ∨ k = 5 ∨ k = 6 ∨ k = 7 ∨ k = 8 := by omega
  clear h9
  rcases h10 with rfl | rfl | rfl | rfl | rfl | rfl | rfl | rfl | rfl
  · rw [cC_0, cC_0, st_nf τ n v (f := 26) (g := 1) (by decide)]
  · rw [cC_1, cC_1, st_nf τ n v (f := 26) (g := 52) (by decide), st_nf τ n v (f := 26) (g := 54) (by decide)]
  · exact congrArg (fun z => (Sum.inl (cO, cap n', .inr (.inr (.inr (.inr z)))) : va_E)) (crow_st (by decide) (by decide) n')
  · rw [cC_3, cC_3, st_nf τ n v (f := 26) (g := 48) (by decide)]
  · rw [cC_4, cC_4, st_nf τ n v (f := 26) (g := 3) (by decide), st_nf τ n v (f := 26) (g := 4) (by decide), st_nf τ n v (f := 26) (g := 5) (by decide), st_nf τ n v (f := 26) (g := 6) (by decide), st_nf τ n v (f := 26) (g := 7) (by decide), st_nf τ n v (f := 26) (g := 8) (by decide), st_nf τ n v (f := 26) (g := 9) (by decide), st_nf τ n v (f := 26) (g := 10) (by decide), st_nf τ n v (f := 26) (g := 11) (by decide)]
  · rw [cC_5, cC_5, st_nf τ n v (f := 26) (g := 13) (by decide), st_nf τ n v (f := 26) (g := 14) (by decide), st_nf τ n v (f := 26) (g := 15) (by decide), st_nf τ n v (f := 26) (g := 16) (by decide), st_nf τ n v (f := 26) (g := 17) (by decide), st_nf τ n v (f := 26) (g := 18) (by decide), st_nf τ n v (f := 26) (g := 19) (by decide), st_nf τ n v (f := 26) (g := 20) (by decide)]
  · have hj : n' ≠ n := by omega
    rw [cC_6, cC_6, st_nj τ 26 v hj, st_nf τ n v (f := 26) (g := 23) (by decide), st_nf τ n v (f := 26) (g := 24) (by decide), st_nf τ n v (f := 26) (g := 25) (by decide), st_nf τ n v (f := 26) (g := 27) (by decide), st_nf τ n v (f := 26) (g := 28) (by decide), st_nf τ n v (f := 26) (g := 50) (by decide), st_nf τ n v (f := 26) (g := 51) (by decide), st_nf τ n v (f := 26) (g := 22) (by decide), st_nf τ n v (f := 26) (g := 29) (by decide), st_nf τ n v (f := 26) (g := 31) (by decide)]
  · rw [cC_7, cC_7, st_nf τ n v (f := 26) (g := 32) (by decide), st_nf τ n v (f := 26) (g := 33) (by decide)]
  · rw [cC_8, cC_8, st_nf τ n v (f := 26) (g := 55) (by decide), st_nf τ n v (f := 26) (g := 36) (by decide), st_nf τ n v (f := 26) (g := 37) (by decide), st_nf τ n v (f := 26) (g := 38) (by decide), st_nf τ n v (f := 26) (g := 39) (by decide), st_nf τ n v (f := 26) (g := 40) (by decide), st_nf τ n v (f := 26) (g := 41) (by decide), st_nf τ n v (f := 26) (g := 42) (by decide), st_nf τ n v (f := 26) (g := 35) (by decide), st_nf τ n v (f := 26) (g := 44) (by decide), st_nf τ n v (f := 26) (g := 43) (by decide), st_nf τ n v (f := 26) (g := 45) (by decide)]
theorem cz_27 {cI cO : ClassId} {g : Gh} {cap N : Nat → Nat} {τ : St} {n : Nat} {v : Int32} (hn : N 6 ≤ n) : ∀ k' n', lv N cap k' n' → cC cI cO g cap (st τ 27 n v) k' n' = cC cI cO g cap τ k' n' := by
  intro k n' hl
  obtain ⟨h9, hl2, -⟩ := hl
  have h10 : k = 0 ∨ k = 1 ∨ k = 2 ∨ k = 3 ∨ k = 4 ∨ k = 5 ∨ k = 6 ∨ k = 7 ∨ k = 8 := by omega
  clear h9
  rcases h10 with rfl | rfl | rfl | rfl | rfl | rfl | rfl | rfl | rfl
  · rw [cC_0, cC_0, st_nf τ n v (f := 27) (g := 1) (by decide)]
  · rw [cC_1, cC_1, st_nf τ n v (f := 27) (g := 52) (by decide), st_nf τ n v (f := 27) (g := 54) (by decide)]
  · exact congrArg (fun z => (Sum.inl (cO, cap n', .inr (.inr (.inr (.inr z)))) : va_E)) (crow_st (by decide) (by decide) n')
  · rw [cC_3, cC_3, st_nf τ n v (f := 27) (g := 48) (by decide)]
  · rw [cC_4, cC_4, st_nf τ n v (f := 27) (g := 3) (by decide), st_nf τ n v (f := 27) (g := 4) (by decide), st_nf τ n v (f := 27) (g := 5) (by decide), st_nf τ n v (f := 27) (g := 6) (by decide), st_nf τ n v (f := 27) (g := 7) (by decide), st_nf τ n v (f := 27) (g := 8) (by decide), st_nf τ n v (f := 27) (g := 9) (by decide), st_nf τ n v (f := 27) (g := 10) (by decide), st_nf τ n v (f := 27) (g := 11) (by decide)]
  · rw [cC_5, cC_5, st_nf τ n v (f := 27) (g := 13) (by decide), st_nf τ n v (f := 27) (g := 14) (by decide), st_nf τ n v (f := 27) (g := 15) (by decide), st_nf τ n v (f := 27) (g := 16) (by decide), st_nf τ n v (f := 27) (g := 17) (by decide), st_nf τ n v (f := 27) (g := 18) (by decide), st_nf τ n v (f := 27) (g := 19) (by decide), st_nf τ n v (f := 27) (g := 20) (by decide)]
  · have hj : n' ≠ n := by omega
    rw [cC_6, cC_6, st_nj τ 27 v hj, st_nf τ n v (f := 27) (g := 23) (by decide), st_nf τ n v (f := 27) (g := 24) (by decide), st_nf τ n v (f := 27) (g := 25) (by decide), st_nf τ n v (f := 27) (g := 26) (by decide), st_nf τ n v (f := 27) (g := 28) (by decide), st_nf τ n v (f := 27) (g := 50) (by decide), st_nf τ n v (f := 27) (g := 51) (by decide), st_nf τ n v (f := 27) (g := 22) (by decide), st_nf τ n v (f := 27) (g := 29) (by decide), st_nf τ n v (f := 27) (g := 31) (by decide)]
  · rw [cC_7, cC_7, st_nf τ n v (f := 27) (g := 32) (by decide), st_nf τ n v (f := 27) (g := 33) (by decide)]
  · rw [cC_8, cC_8, st_nf τ n v (f := 27) (g := 55) (by decide), st_nf τ n v (f := 27) (g := 36) (by decide), st_nf τ n v (f := 27) (g := 37) (by decide), st_nf τ n v (f := 27) (g := 38) (by decide), st_nf τ n v (f := 27) (g := 39) (by decide), st_nf τ n v (f := 27) (g := 40) (by decide), st_nf τ n v (f := 27) (g := 41) (by decide), st_nf τ n v (f := 27) (g := 42) (by decide), st_nf τ n v (f := 27) (g := 35) (by decide), st_nf τ n v (f := 27) (g := 44) (by decide), st_nf τ n v (f := 27) (g := 43) (by decide), st_nf τ n v (f := 27) (g := 45) (by decide)]
theorem cz_28 {cI cO : ClassId} {g : Gh} {cap N : Nat → Nat} {τ : St} {n : Nat} {v : Int32} (hn : N 6 ≤ n) : ∀ k' n', lv N cap k' n' → cC cI cO g cap (st τ 28 n v) k' n' = cC cI cO g cap τ k' n' := by
  intro k n' hl
  obtain ⟨h9, hl2, -⟩ := hl
  have h10 : k = 0 ∨ k = 1 ∨ k = 2 ∨ k = 3 ∨ k = 4 ∨ k = 5 ∨ k = 6 ∨ k = 7 ∨ k = 8 := by omega
  clear h9
  rcases h10 with rfl | rfl | rfl | rfl | rfl | rfl | rfl | rfl | rfl
  · rw [cC_0, cC_0, st_nf τ n v (f := 28) (g := 1) (by decide)]
  · rw [cC_1, cC_1, st_nf τ n v (f := 28) (g := 52) (by decide), st_nf τ n v (f := 28) (g := 54) (by decide)]
  · exact congrArg (fun z => (Sum.inl (cO, cap n', .inr (.inr (.inr (.inr z)))) : va_E)) (crow_st (by decide) (by decide) n')
  · rw [cC_3, cC_3, st_nf τ n v (f := 28) (g := 48) (by decide)]
  · rw [cC_4, cC_4, st_nf τ n v (f := 28) (g := 3) (by decide), st_nf τ n v (f := 28) (g := 4) (by decide), st_nf τ n v (f := 28) (g := 5) (by decide), st_nf τ n v (f := 28) (g := 6) (by decide), st_nf τ n v (f := 28) (g := 7) (by decide), st_nf τ n v (f := 28) (g := 8) (by decide), st_nf τ n v (f := 28) (g := 9) (by decide), st_nf τ n v (f := 28) (g := 10) (by decide), st_nf τ n v (f := 28) (g := 11) (by decide)]
  · rw [cC_5, cC_5, st_nf τ n v (f := 28) (g := 13) (by decide), st_nf τ n v (f := 28) (g := 14) (by decide), st_nf τ n v (f := 28) (g := 15) (by decide), st_nf τ n v (f := 28) (g := 16) (by decide), st_nf τ n v (f := 28) (g := 17) (by decide), st_nf τ n v (f := 28) (g := 18) (by decide), st_nf τ n v (f := 28) (g := 19) (by decide), st_nf τ n v (f := 28) (g := 20) (by decide)]
  · have hj : n' ≠ n := by omega
    rw [cC_6, cC_6, st_nj τ 28 v hj, st_nf τ n v (f := 28) (g := 23) (by decide), st_nf τ n v (f := 28) (g := 24) (by decide), st_nf τ n v (f := 28) (g := 25) (by decide), st_nf τ n v (f := 28) (g := 26) (by decide), st_nf τ n v (f := 28) (g := 27) (by decide), st_nf τ n v (f := 28) (g := 50) (by decide), st_nf τ n v (f := 28) (g := 51) (by decide), st_nf τ n v (f := 28) (g := 22) (by decide), st_nf τ n v (f := 28) (g := 29) (by decide), st_nf τ n v (f := 28) (g := 31) (by decide)]
  · rw [cC_7, cC_7, st_nf τ n v (f := 28) (g := 32) (by decide), st_nf τ n v (f := 28) (g := 33) (by decide)]
  · rw [cC_8, cC_8, st_nf τ n v (f := 28) (g := 55) (by decide), st_nf τ n v (f := 28) (g := 36) (by decide), st_nf τ n v (f := 28) (g := 37) (by decide), st_nf τ n v (f := 28) (g := 38) (by decide), st_nf τ n v (f := 28) (g := 39) (by decide), st_nf τ n v (f := 28) (g := 40) (by decide), st_nf τ n v (f := 28) (g := 41) (by decide), st_nf τ n v (f := 28) (g := 42) (by decide), st_nf τ n v (f := 28) (g := 35) (by decide), st_nf τ n v (f := 28) (g := 44) (by decide), st_nf τ n v (f := 28) (g := 43) (by decide), st_nf τ n v (f := 28) (g := 45) (by decide)]
theorem cz_50 {cI cO : ClassId} {g : Gh} {cap N : Nat → Nat} {τ : St} {n : Nat} {v : Int32} (hn : N 6 ≤ n) : ∀ k' n', lv N cap k' n' → cC cI cO g cap (st τ 50 n v) k' n' = cC cI cO g cap τ k' n' := by
  intro k n' hl
  obtain ⟨h9, hl2, -⟩ := hl
  have h10 : k = 0 ∨ k = 1 ∨ k = 2 ∨ k = 3 ∨ k = 4 ∨ k = 5 ∨ k = 6 ∨ k = 7 ∨ k = 8 := by omega
  clear h9
  rcases h10 with rfl | rfl | rfl | rfl | rfl | rfl | rfl | rfl | rfl
  · rw [cC_0, cC_0, st_nf τ n v (f := 50) (g := 1) (by decide)]
  · rw [cC_1, cC_1, st_nf τ n v (f := 50) (g := 52) (by decide), st_nf τ n v (f := 50) (g := 54) (by decide)]
  · exact congrArg (fun z => (Sum.inl (cO, cap n', .inr (.inr (.inr (.inr z)))) : va_E)) (crow_st (by decide) (by decide) n')
  · rw [cC_3, cC_3, st_nf τ n v (f := 50) (g := 48) (by decide)]
  · rw [cC_4, cC_4, st_nf τ n v (f := 50) (g := 3) (by decide), st_nf τ n v (f := 50) (g := 4) (by decide), st_nf τ n v (f := 50) (g := 5) (by decide), st_nf τ n v (f := 50) (g := 6) (by decide), st_nf τ n v (f := 50) (g := 7) (by decide), st_nf τ n v (f := 50) (g := 8) (by decide), st_nf τ n v (f := 50) (g := 9) (by decide), st_nf τ n v (f := 50) (g := 10) (by decide), st_nf τ n v (f := 50) (g := 11) (by decide)]
  · rw [cC_5, cC_5, st_nf τ n v (f := 50) (g := 13) (by decide), st_nf τ n v (f := 50) (g := 14) (by decide), st_nf τ n v (f := 50) (g := 15) (by decide), st_nf τ n v (f := 50) (g := 16) (by decide), st_nf τ n v (f := 50) (g := 17) (by decide), st_nf τ n v (f := 50) (g := 18) (by decide), st_nf τ n v (f := 50) (g := 19) (by decide), st_nf τ n v (f := 50) (g := 20) (by decide)]
  · have hj : n' ≠ n := by omega
    rw [cC_6, cC_6, st_nj τ 50 v hj, st_nf τ n v (f := 50) (g := 23) (by decide), st_nf τ n v (f := 50) (g := 24) (by decide), st_nf τ n v (f := 50) (g := 25) (by decide), st_nf τ n v (f := 50) (g := 26) (by decide), st_nf τ n v (f := 50) (g := 27) (by decide), st_nf τ n v (f := 50) (g := 28) (by decide), st_nf τ n v (f := 50) (g := 51) (by decide), st_nf τ n v (f := 50) (g := 22) (by decide), st_nf τ n v (f := 50) (g := 29) (by decide), st_nf τ n v (f := 50) (g := 31) (by decide)]
  · rw [cC_7, cC_7, st_nf τ n v (f := 50) (g := 32) (by decide), st_nf τ n v (f := 50) (g := 33) (by decide)]
  · rw [cC_8, cC_8, st_nf τ n v (f := 50) (g := 55) (by decide), st_nf τ n v (f := 50) (g := 36) (by decide), st_nf τ n v (f := 50) (g := 37) (by decide), st_nf τ n v (f := 50) (g := 38) (by decide), st_nf τ n v (f := 50) (g := 39) (by decide), st_nf τ n v (f := 50) (g := 40) (by decide), st_nf τ n v (f := 50) (g := 41) (by decide), st_nf τ n v (f := 50) (g := 42) (by decide), st_nf τ n v (f := 50) (g := 35) (by decide), st_nf τ n v (f := 50) (g := 44) (by decide), st_nf τ n v (f := 50) (g := 43) (by decide), st_nf τ n v (f := 50) (g := 45) (by decide)]
theorem cz_51 {cI cO : ClassId} {g : Gh} {cap N : Nat → Nat} {τ : St} {n : Nat} {v : Int32} (hn : N 6 ≤ n) : ∀ k' n', lv N cap k' n' → cC cI cO g cap (st τ 51 n v) k' n' = cC cI cO g cap τ k' n' := by
  intro k n' hl
  obtain ⟨h9, hl2, -⟩ := hl
  have h10 : k = 0 ∨ k = 1 ∨ k = 2 ∨ k = 3 ∨ k = 4 ∨ k = 5 ∨ k = 6 ∨ k = 7 ∨ k = 8 := by omega
  clear h9
  rcases h10 with rfl | rfl | rfl | rfl | rfl | rfl | rfl | rfl | rfl
  · rw [cC_0, cC_0, st_nf τ n v (f := 51) (g := 1) (by decide)]
  · rw [cC_1, cC_1, st_nf τ n v (f := 51) (g := 52) (by decide), st_nf τ n v (f := 51) (g := 54) (by decide)]
  · exact congrArg (fun z => (Sum.inl (cO, cap n', .inr (.inr (.inr (.inr z)))) : va_E)) (crow_st (by decide) (by decide) n')
  · rw [cC_3, cC_3, st_nf τ n v (f := 51) (g := 48) (by decide)]
  · rw [cC_4, cC_4, st_nf τ n v (f := 51) (g := 3) (by decide), st_nf τ n v (f := 51) (g := 4) (by decide), st_nf τ n v (f := 51) (g := 5) (by decide), st_nf τ n v (f := 51) (g := 6) (by decide), st_nf τ n v (f := 51) (g := 7) (by decide), st_nf τ n v (f := 51) (g := 8) (by decide), st_nf τ n v (f := 51) (g := 9) (by decide), st_nf τ n v (f := 51) (g := 10) (by decide), st_nf τ n v (f := 51) (g := 11) (by decide)]
  · rw [cC_5, cC_5, st_nf τ n v (f := 51) (g := 13) (by decide), st_nf τ n v (f := 51) (g := 14) (by decide), st_nf τ n v (f := 51) (g := 15) (by decide), st_nf τ n v (f := 51) (g := 16) (by decide), st_nf τ n v (f := 51) (g := 17) (by decide), st_nf τ n v (f := 51) (g := 18) (by decide), st_nf τ n v (f := 51) (g := 19) (by decide), st_nf τ n v (f := 51) (g := 20) (by decide)]
  · have hj : n' ≠ n := by omega
    rw [cC_6, cC_6, st_nj τ 51 v hj, st_nf τ n v (f := 51) (g := 23) (by decide), st_nf τ n v (f := 51) (g := 24) (by decide), st_nf τ n v (f := 51) (g := 25) (by decide), st_nf τ n v (f := 51) (g := 26) (by decide), st_nf τ n v (f := 51) (g := 27) (by decide), st_nf τ n v (f := 51) (g := 28) (by decide), st_nf τ n v (f := 51) (g := 50) (by decide), st_nf τ n v (f := 51) (g := 22) (by decide), st_nf τ n v (f := 51) (g := 29) (by decide), st_nf τ n v (f := 51) (g := 31) (by decide)]
  · rw [cC_7, cC_7, st_nf τ n v (f := 51) (g := 32) (by decide), st_nf τ n v (f := 51) (g := 33) (by decide)]
  · rw [cC_8, cC_8, st_nf τ n v (f := 51) (g := 55) (by decide), st_nf τ n v (f := 51) (g := 36) (by decide), st_nf τ n v (f := 51) (g := 37) (by decide), st_nf τ n v (f := 51) (g := 38) (by decide), st_nf τ n v (f := 51) (g := 39) (by decide), st_nf τ n v (f := 51) (g := 40) (by decide), st_nf τ n v (f := 51) (g := 41) (by decide), st_nf τ n v (f := 51) (g := 42) (by decide), st_nf τ n v (f := 51) (g := 35) (by decide), st_nf τ n v (f := 51) (g := 44) (by decide), st_nf τ n v (f := 51) (g := 43) (by decide), st_nf τ n v (f := 51) (g := 45) (by decide)]
theorem cz_22 {cI cO : ClassId} {g : Gh} {cap N : Nat → Nat} {τ : St} {n : Nat} {v : Int32} (hn : N 6 ≤ n) : ∀ k' n', lv N cap k' n' → cC cI cO g cap (st τ 22 n v) k' n' = cC cI cO g cap τ k' n' := by
  intro k n' hl
  obtain ⟨h9, hl2, -⟩ := hl
  have h10 : k = 0 ∨ k = 1 ∨ k = 2 ∨ k = 3 ∨ k = 4 ∨ k = 5 ∨ k = 6 ∨ k = 7 ∨ k = 8 := by omega
  clear h9
  rcases h10 with rfl | rfl | rfl | rfl | rfl | rfl | rfl | rfl | rfl
  · rw [cC_0, cC_0, st_nf τ n v (f := 22) (g := 1) (by decide)]
  · rw [cC_1, cC_1, st_nf τ n v (f := 22) (g := 52) (by decide), st_nf τ n v (f := 22) (g := 54) (by decide)]
  · exact congrArg (fun z => (Sum.inl (cO, cap n', .inr (.inr (.inr (.inr z)))) : va_E)) (crow_st (by decide) (by decide) n')
  · rw [cC_3, cC_3, st_nf τ n v (f := 22) (g := 48) (by decide)]
  · rw [cC_4, cC_4, st_nf τ n v (f := 22) (g := 3) (by decide), st_nf τ n v (f := 22) (g := 4) (by decide), st_nf τ n v (f := 22) (g := 5) (by decide), st_nf τ n v (f := 22) (g := 6) (by decide), st_nf τ n v (f := 22) (g := 7) (by decide), st_nf τ n v (f := 22) (g := 8) (by decide), st_nf τ n v (f := 22) (g := 9) (by decide), st_nf τ n v (f := 22) (g := 10) (by decide), st_nf τ n v (f := 22) (g := 11) (by decide)]
  · rw [cC_5, cC_5, st_nf τ n v (f := 22) (g := 13) (by decide), st_nf τ n v (f := 22) (g := 14) (by decide), st_nf τ n v (f := 22) (g := 15) (by decide), st_nf τ n v (f := 22) (g := 16) (by decide), st_nf τ n v (f := 22) (g := 17) (by decide), st_nf τ n v (f := 22) (g := 18) (by decide), st_nf τ n v (f := 22) (g := 19) (by decide), st_nf τ n v (f := 22) (g := 20) (by decide)]
  · have hj : n' ≠ n := by omega
    rw [cC_6, cC_6, st_nj τ 22 v hj, st_nf τ n v (f := 22) (g := 23) (by decide), st_nf τ n v (f := 22) (g := 24) (by decide), st_nf τ n v (f := 22) (g := 25) (by decide), st_nf τ n v (f := 22) (g := 26) (by decide), st_nf τ n v (f := 22) (g := 27) (by decide), st_nf τ n v (f := 22) (g := 28) (by decide), st_nf τ n v (f := 22) (g := 50) (by decide), st_nf τ n v (f := 22) (g := 51) (by decide), st_nf τ n v (f := 22) (g := 29) (by decide), st_nf τ n v (f := 22) (g := 31) (by decide)]
  · rw [cC_7, cC_7, st_nf τ n v (f := 22) (g := 32) (by decide), st_nf τ n v (f := 22) (g := 33) (by decide)]
  · rw [cC_8, cC_8, st_nf τ n v (f := 22) (g := 55) (by decide), st_nf τ n v (f := 22) (g := 36) (by decide), st_nf τ n v (f := 22) (g := 37) (by decide), st_nf τ n v (f := 22) (g := 38) (by decide), st_nf τ n v (f := 22) (g := 39) (by decide), st_nf τ n v (f := 22) (g := 40) (by decide), st_nf τ n v (f := 22) (g := 41) (by decide), st_nf τ n v (f := 22) (g := 42) (by decide), st_nf τ n v (f := 22) (g := 35) (by decide), st_nf τ n v (f := 22) (g := 44) (by decide), st_nf τ n v (f := 22) (g := 43) (by decide), st_nf τ n v (f := 22) (g := 45) (by decide)]
theorem cz_29 {cI cO : ClassId} {g : Gh} {cap N : Nat → Nat} {τ : St} {n : Nat} {v : Int32} (hn : N 6 ≤ n) : ∀ k' n', lv N cap k' n' → cC cI cO g cap (st τ 29 n v) k' n' = cC cI cO g cap τ k' n' := by
  intro k n' hl
  obtain ⟨h9, hl2, -⟩ := hl
  have h10 : k = 0 ∨ k = 1 ∨ k = 2 ∨ k = 3 ∨ k = 4 ∨ k = 5 ∨ k = 6 ∨ k = 7 ∨ k = 8 := by omega
  clear h9
  rcases h10 with rfl | rfl | rfl | rfl | rfl | rfl | rfl | rfl | rfl
  · rw [cC_0, cC_0, st_nf τ n v (f := 29) (g := 1) (by decide)]
  · rw [cC_1, cC_1, st_nf τ n v (f := 29) (g := 52) (by decide), st_nf τ n v (f := 29) (g := 54) (by decide)]
  · exact congrArg (fun z => (Sum.inl (cO, cap n', .inr (.inr (.inr (.inr z)))) : va_E)) (crow_st (by decide) (by decide) n')
  · rw [cC_3, cC_3, st_nf τ n v (f := 29) (g := 48) (by decide)]
  · rw [cC_4, cC_4, st_nf τ n v (f := 29) (g := 3) (by decide), st_nf τ n v (f := 29) (g := 4) (by decide), st_nf τ n v (f := 29) (g := 5) (by decide), st_nf τ n v (f := 29) (g := 6) (by decide), st_nf τ n v (f := 29) (g := 7) (by decide), st_nf τ n v (f := 29) (g := 8) (by decide), st_nf τ n v (f := 29) (g := 9) (by decide), st_nf τ n v (f := 29) (g := 10) (by decide), st_nf τ n v (f := 29) (g := 11) (by decide)]
  · rw [cC_5, cC_5, st_nf τ n v (f := 29) (g := 13) (by decide), st_nf τ n v (f := 29) (g := 14) (by decide), st_nf τ n v (f := 29) (g := 15) (by decide), st_nf τ n v (f := 29) (g := 16) (by decide), st_nf τ n v (f := 29) (g := 17) (by decide), st_nf τ n v (f := 29) (g := 18) (by decide), st_nf τ n v (f := 29) (g := 19) (by decide), st_nf τ n v (f := 29) (g := 20) (by decide)]
  · have hj : n' ≠ n := by omega
    rw [cC_6, cC_6, st_nj τ 29 v hj, st_nf τ n v (f := 29) (g := 23) (by decide), st_nf τ n v (f := 29) (g := 24) (by decide), st_nf τ n v (f := 29) (g := 25) (by decide), st_nf τ n v (f := 29) (g := 26) (by decide), st_nf τ n v (f := 29) (g := 27) (by decide), st_nf τ n v (f := 29) (g := 28) (by decide), st_nf τ n v (f := 29) (g := 50) (by decide), st_nf τ n v (f := 29) (g := 51) (by decide), st_nf τ n v (f := 29) (g := 22) (by decide), st_nf τ n v (f := 29) (g := 31) (by decide)]
  · rw [cC_7, cC_7, st_nf τ n v (f := 29) (g := 32) (by decide), st_nf τ n v (f := 29) (g := 33) (by decide)]
  · rw [cC_8, cC_8, st_nf τ n v (f := 29) (g := 55) (by decide), st_nf τ n v (f := 29) (g := 36) (by decide), st_nf τ n v (f := 29) (g := 37) (by decide), st_nf τ n v (f := 29) (g := 38) (by decide), st_nf τ n v (f := 29) (g := 39) (by decide), st_nf τ n v (f := 29) (g := 40) (by decide), st_nf τ n v (f := 29) (g := 41) (by decide), st_nf τ n v (f := 29) (g := 42) (by decide), st_nf τ n v (f := 29) (g := 35) (by decide), st_nf τ n v (f := 29) (g := 44) (by decide), st_nf τ n v (f := 29) (g := 43) (by decide), st_nf τ n v (f := 29) (g := 45) (by decide)]
theorem cz_31 {cI cO : ClassId} {g : Gh} {cap N : Nat → Nat} {τ : St} {n : Nat} {v : Int32} (hn : N 6 ≤ n) : ∀ k' n', lv N cap k' n' → cC cI cO g cap (st τ 31 n v) k' n' = cC cI cO g cap τ k' n' := by
  intro k n' hl
  obtain ⟨h9, hl2, -⟩ := hl
  have h10 : k = 0 ∨ k = 1 ∨ k = 2 ∨ k = 3 ∨ k = 4 ∨ k = 5 ∨ k = 6 ∨ k = 7 ∨ k = 8 := by omega
  clear h9
  rcases h10 with rfl | rfl | rfl | rfl | rfl | rfl | rfl | rfl | rfl
  · rw [cC_0, cC_0, st_nf τ n v (f := 31) (g := 1) (by decide)]
  · rw [cC_1, cC_1, st_nf τ n v (f := 31) (g := 52) (by decide), st_nf τ n v (f := 31) (g := 54) (by decide)]
  · exact congrArg (fun z => (Sum.inl (cO, cap n', .inr (.inr (.inr (.inr z)))) : va_E)) (crow_st (by decide) (by decide) n')
  · rw [cC_3, cC_3, st_nf τ n v (f := 31) (g := 48) (by decide)]
  · rw [cC_4, cC_4, st_nf τ n v (f := 31) (g := 3) (by decide), st_nf τ n v (f := 31) (g := 4) (by decide), st_nf τ n v (f := 31) (g := 5) (by decide), st_nf τ n v (f := 31) (g := 6) (by decide), st_nf τ n v (f := 31) (g := 7) (by decide), st_nf τ n v (f := 31) (g := 8) (by decide), st_nf τ n v (f := 31) (g := 9) (by decide), st_nf τ n v (f := 31) (g := 10) (by decide), st_nf τ n v (f := 31) (g := 11) (by decide)]
  · rw [cC_5, cC_5, st_nf τ n v (f := 31) (g := 13) (by decide), st_nf τ n v (f := 31) (g := 14) (by decide), st_nf τ n v (f := 31) (g := 15) (by decide), st_nf τ n v (f := 31) (g := 16) (by decide), st_nf τ n v (f := 31) (g := 17) (by decide), st_nf τ n v (f := 31) (g := 18) (by decide), st_nf τ n v (f := 31) (g := 19) (by decide), st_nf τ n v (f := 31) (g := 20) (by decide)]
  · have hj : n' ≠ n := by omega
    rw [cC_6, cC_6, st_nj τ 31 v hj, st_nf τ n v (f := 31) (g := 23) (by decide), st_nf τ n v (f := 31) (g := 24) (by decide), st_nf τ n v (f := 31) (g := 25) (by decide), st_nf τ n v (f := 31) (g := 26) (by decide), st_nf τ n v (f := 31) (g := 27) (by decide), st_nf τ n v (f := 31) (g := 28) (by decide), st_nf τ n v (f := 31) (g := 50) (by decide), st_nf τ n v (f := 31) (g := 51) (by decide), st_nf τ n v (f := 31) (g := 22) (by decide), st_nf τ n v (f := 31) (g := 29) (by decide)]
  · rw [cC_7, cC_7, st_nf τ n v (f := 31) (g := 32) (by decide), st_nf τ n v (f := 31) (g := 33) (by decide)]
  · rw [cC_8, cC_8, st_nf τ n v (f := 31) (g := 55) (by decide), st_nf τ n v (f := 31) (g := 36) (by decide), st_nf τ n v (f := 31) (g := 37) (by decide), st_nf τ n v (f := 31) (g := 38) (by decide), st_nf τ n v (f := 31) (g := 39) (by decide), st_nf τ n v (f := 31) (g := 40) (by decide), st_nf τ n v (f := 31) (g := 41) (by decide), st_nf τ n v (f := 31) (g := 42) (by decide), st_nf τ n v (f := 31) (g := 35) (by decide), st_nf τ n v (f := 31) (g := 44) (by decide), st_nf τ n v (f := 31) (g := 43) (by decide), st_nf τ n v (f := 31) (g := 45) (by decide)]
theorem cz_32 {cI cO : ClassId} {g : Gh} {cap N : Nat → Nat} {τ : St} {n : Nat} {v : Int32} (hn : N 7 ≤ n) : ∀ k' n', lv N cap k' n' → cC cI cO g cap (st τ 32 n v) k' n' = cC cI cO g cap τ k' n' := by
  intro k n' hl
  obtain ⟨h9, hl2, -⟩ := hl
  have h10 : k = 0 ∨ k = 1 ∨ k = 2 ∨ k = 3 ∨ k = 4 ∨ k = 5 ∨ k = 6 ∨ k = 7 ∨ k = 8 := by omega
  clear h9
  rcases h10 with rfl | rfl | rfl | rfl | rfl | rfl | rfl | rfl | rfl
  · rw [cC_0, cC_0, st_nf τ n v (f := 32) (g := 1) (by decide)]
  · rw [cC_1, cC_1, st_nf τ n v (f := 32) (g := 52) (by decide), st_nf τ n v (f := 32) (g := 54) (by decide)]
  · exact congrArg (fun z => (Sum.inl (cO, cap n', .inr (.inr (.inr (.inr z)))) : va_E)) (crow_st (by decide) (by decide) n')
  · rw [cC_3, cC_3, st_nf τ n v (f := 32) (g := 48) (by decide)]
  · rw [cC_4, cC_4, st_nf τ n v (f := 32) (g := 3) (by decide), st_nf τ n v (f := 32) (g := 4) (by decide), st_nf τ n v (f := 32) (g := 5) (by decide), st_nf τ n v (f := 32) (g := 6) (by decide), st_nf τ n v (f := 32) (g := 7) (by decide), st_nf τ n v (f := 32) (g := 8) (by decide), st_nf τ n v (f := 32) (g := 9) (by decide), st_nf τ n v (f := 32) (g := 10) (by decide), st_nf τ n v (f := 32) (g := 11) (by decide)]
  · rw [cC_5, cC_5, st_nf τ n v (f := 32) (g := 13) (by decide), st_nf τ n v (f := 32) (g := 14) (by decide), st_nf τ n v (f := 32) (g := 15) (by decide), st_nf τ n v (f := 32) (g := 16) (by decide), st_nf τ n v (f := 32) (g := 17) (by decide), st_nf τ n v (f := 32) (g := 18) (by decide), st_nf τ n v (f := 32) (g := 19) (by decide), st_nf τ n v (f := 32) (g := 20) (by decide)]
  · rw [cC_6, cC_6, st_nf τ n v (f := 32) (g := 23) (by decide), st_nf τ n v (f := 32) (g := 24) (by decide), st_nf τ n v (f := 32) (g := 25) (by decide), st_nf τ n v (f := 32) (g := 26) (by decide), st_nf τ n v (f := 32) (g := 27) (by decide), st_nf τ n v (f := 32) (g := 28) (by decide), st_nf τ n v (f := 32) (g := 50) (by decide), st_nf τ n v (f := 32) (g := 51) (by decide), st_nf τ n v (f := 32) (g := 22) (by decide), st_nf τ n v (f := 32) (g := 29) (by decide), st_nf τ n v (f := 32) (g := 31) (by decide)]
  · have hj : n' ≠ n := by omega
    rw [cC_7, cC_7, st_nj τ 32 v hj, st_nf τ n v (f := 32) (g := 33) (by decide)]
  · rw [cC_8, cC_8, st_nf τ n v (f := 32) (g := 55) (by decide), st_nf τ n v (f := 32) (g := 36) (by decide), st_nf τ n v (f := 32) (g := 37) (by decide), st_nf τ n v (f := 32) (g := 38) (by decide), st_nf τ n v (f := 32) (g := 39) (by decide), st_nf τ n v (f := 32) (g := 40) (by decide), st_nf τ n v (f := 32) (g := 41) (by decide), st_nf τ n v (f := 32) (g := 42) (by decide), st_nf τ n v (f := 32) (g := 35) (by decide), st_nf τ n v (f := 32) (g := 44) (by decide), st_nf τ n v (f := 32) (g := 43) (by decide), st_nf τ n v (f := 32) (g := 45) (by decide)]
theorem cz_33 {cI cO : ClassId} {g : Gh} {cap N : Nat → Nat} {τ : St} {n : Nat} {v : Int32} (hn : N 7 ≤ n) : ∀ k' n', lv N cap k' n' → cC cI cO g cap (st τ 33 n v) k' n' = cC cI cO g cap τ k' n' := by
  intro k n' hl
  obtain ⟨h9, hl2, -⟩ := hl
  have h10 : k = 0 ∨ k = 1 ∨ k = 2 ∨ k = 3 ∨ k = 4 ∨ k = 5 ∨ k = 6 ∨ k = 7 ∨ k = 8 := by omega
  clear h9
  rcases h10 with rfl | rfl | rfl | rfl | rfl | rfl | rfl | rfl | rfl
  · rw [cC_0, cC_0, st_nf τ n v (f := 33) (g := 1) (by decide)]
  · rw [cC_1, cC_1, st_nf τ n v (f := 33) (g := 52) (by decide), st_nf τ n v (f := 33) (g := 54) (by decide)]
  · exact congrArg (fun z => (Sum.inl (cO, cap n', .inr (.inr (.inr (.inr z)))) : va_E)) (crow_st (by decide) (by decide) n')
  · rw [cC_3, cC_3, st_nf τ n v (f := 33) (g := 48) (by decide)]
  · rw [cC_4, cC_4, st_nf τ n v (f := 33) (g := 3) (by decide), st_nf τ n v (f := 33) (g := 4) (by decide), st_nf τ n v (f := 33) (g := 5) (by decide), st_nf τ n v (f := 33) (g := 6) (by decide), st_nf τ n v (f := 33) (g := 7) (by decide), st_nf τ n v (f := 33) (g := 8) (by decide), st_nf τ n v (f := 33) (g := 9) (by decide), st_nf τ n v (f := 33) (g := 10) (by decide), st_nf τ n v (f := 33) (g := 11) (by decide)]
  · rw [cC_5, cC_5, st_nf τ n v (f := 33) (g := 13) (by decide), st_nf τ n v (f := 33) (g := 14) (by decide), st_nf τ n v (f := 33) (g := 15) (by decide), st_nf τ n v (f := 33) (g := 16) (by decide), st_nf τ n v (f := 33) (g := 17) (by decide), st_nf τ n v (f := 33) (g := 18) (by decide), st_nf τ n v (f := 33) (g := 19) (by decide), st_nf τ n v (f := 33) (g := 20) (by decide)]
  · rw [cC_6, cC_6, st_nf τ n v (f := 33) (g := 23) (by decide), st_nf τ n v (f := 33) (g := 24) (by decide), st_nf τ n v (f := 33) (g := 25) (by decide), st_nf τ n v (f := 33) (g := 26) (by decide), st_nf τ n v (f := 33) (g := 27) (by decide), st_nf τ n v (f := 33) (g := 28) (by decide), st_nf τ n v (f := 33) (g := 50) (by decide), st_nf τ n v (f := 33) (g := 51) (by decide), st_nf τ n v (f := 33) (g := 22) (by decide), st_nf τ n v (f := 33) (g := 29) (by decide), st_nf τ n v (f := 33) (g := 31) (by decide)]
  · have hj : n' ≠ n := by omega
    rw [cC_7, cC_7, st_nj τ 33 v hj, st_nf τ n v (f := 33) (g := 32) (by decide)]
  · rw [cC_8, cC_8, st_nf τ n v (f := 33) (g := 55) (by decide), st_nf τ n v (f := 33) (g := 36) (by decide), st_nf τ n v (f := 33) (g := 37) (by decide), st_nf τ n v (f := 33) (g := 38) (by decide), st_nf τ n v (f := 33) (g := 39) (by decide), st_nf τ n v (f := 33) (g := 40) (by decide), st_nf τ n v (f := 33) (g := 41) (by decide), st_nf τ n v (f := 33) (g := 42) (by decide), st_nf τ n v (f := 33) (g := 35) (by decide), st_nf τ n v (f := 33) (g := 44) (by decide), st_nf τ n v (f := 33) (g := 43) (by decide), st_nf τ n v (f := 33) (g := 45) (by decide)]
theorem cz_52 {cI cO : ClassId} {g : Gh} {cap N : Nat → Nat} {τ : St} {n : Nat} {v : Int32} (hn : N 1 ≤ n) : ∀ k' n', lv N cap k' n' → cC cI cO g cap (st τ 52 n v) k' n' = cC cI cO g cap τ k' n' := by
  intro k n' hl
  obtain ⟨h9, hl2, -⟩ := hl
  have h10 : k = 0 ∨ k = 1 ∨ k = 2 ∨ k = 3 ∨ k = 4 ∨ k = 5 ∨ k = 6 ∨ k = 7 ∨ k = 8 := by omega
  clear h9
  rcases h10 with rfl | rfl | rfl | rfl | rfl | rfl | rfl | rfl | rfl
  · rw [cC_0, cC_0, st_nf τ n v (f := 52) (g := 1) (by decide)]
  · have hj : n' ≠ n := by omega
    rw [cC_1, cC_1, st_nj τ 52 v hj, st_nf τ n v (f := 52) (g := 54) (by decide)]
  · exact congrArg (fun z => (Sum.inl (cO, cap n', .inr (.inr (.inr (.inr z)))) : va_E)) (crow_st (by decide) (by decide) n')
  · rw [cC_3, cC_3, st_nf τ n v (f := 52) (g := 48) (by decide)]
  · rw [cC_4, cC_4, st_nf τ n v (f := 52) (g := 3) (by decide), st_nf τ n v (f := 52) (g := 4) (by decide), st_nf τ n v (f := 52) (g := 5) (by decide), st_nf τ n v (f := 52) (g := 6) (by decide), st_nf τ n v (f := 52) (g := 7) (by decide), st_nf τ n v (f := 52) (g := 8) (by decide), st_nf τ n v (f := 52) (g := 9) (by decide), st_nf τ n v (f := 52) (g := 10) (by decide), st_nf τ n v (f := 52) (g := 11) (by decide)]
  · rw [cC_5, cC_5, st_nf τ n v (f := 52) (g := 13) (by decide), st_nf τ n v (f := 52) (g := 14) (by decide), st_nf τ n v (f := 52) (g := 15) (by decide), st_nf τ n v (f := 52) (g := 16) (by decide), st_nf τ n v (f := 52) (g := 17) (by decide), st_nf τ n v (f := 52) (g := 18) (by decide), st_nf τ n v (f := 52) (g := 19) (by decide), st_nf τ n v (f := 52) (g := 20) (by decide)]
  · rw [cC_6, cC_6, st_nf τ n v (f := 52) (g := 23) (by decide), st_nf τ n v (f := 52) (g := 24) (by decide), st_nf τ n v (f := 52) (g := 25) (by decide), st_nf τ n v (f := 52) (g := 26) (by decide), st_nf τ n v (f := 52) (g := 27) (by decide), st_nf τ n v (f := 52) (g := 28) (by decide), st_nf τ n v (f := 52) (g := 50) (by decide), st_nf τ n v (f := 52) (g := 51) (by decide), st_nf τ n v (f := 52) (g := 22) (by decide), st_nf τ n v (f := 52) (g := 29) (by decide), st_nf τ n v (f := 52) (g := 31) (by decide)]
  · rw [cC_7, cC_7, st_nf τ n v (f := 52) (g := 32) (by decide), st_nf τ n v (f := 52) (g := 33) (by decide)]
  · rw [cC_8, cC_8, st_nf τ n v (f := 52) (g := 55) (by decide), st_nf τ n v (f := 52) (g := 36) (by decide), st_nf τ n v (f := 52) (g := 37) (by decide), st_nf τ n v (f := 52) (g := 38) (by decide), st_nf τ n v (f := 52) (g := 39) (by decide), st_nf τ n v (f := 52) (g := 40) (by decide), st_nf τ n v (f := 52) (g := 41) (by decide), st_nf τ n v (f := 52) (g := 42) (by decide), st_nf τ n v (f := 52) (g := 35) (by decide), st_nf τ n v (f := 52) (g := 44) (by decide), st_nf τ n v (f := 52) (g := 43) (by decide), st_nf τ n v (f := 52) (g := 45) (by decide)]
theorem cz_54 {cI cO : ClassId} {g : Gh} {cap N : Nat → Nat} {τ : St} {n : Nat} {v : Int32} (h2 : N 2 = N 1) (hn : N 1 ≤ n) : ∀ k' n', lv N cap k' n' → cC cI cO g cap (st τ 54 n v) k' n' = cC cI cO g cap τ k' n' := by
  intro k n' hl
  obtain ⟨h9, hl2, -⟩ := hl
  have h10 : k = 0 ∨ k = 1 ∨ k = 2 ∨ k = 3 ∨ k = 4 ∨ k = 5 ∨ k = 6 ∨ k = 7 ∨ k = 8 := by omega
  clear h9
  rcases h10 with rfl | rfl | rfl | rfl | rfl | rfl | rfl | rfl | rfl
  · rw [cC_0, cC_0, st_nf τ n v (f := 54) (g := 1) (by decide)]
  · have hj : n' ≠ n := by omega
    rw [cC_1, cC_1, st_nj τ 54 v hj, st_nf τ n v (f := 54) (g := 52) (by decide)]
  · exact congrArg (fun z => (Sum.inl (cO, cap n', .inr (.inr (.inr (.inr z)))) : va_E)) (crow_54 (by omega))
  · rw [cC_3, cC_3, st_nf τ n v (f := 54) (g := 48) (by decide)]
  · rw [cC_4, cC_4, st_nf τ n v (f := 54) (g := 3) (by decide), st_nf τ n v (f := 54) (g := 4) (by decide), st_nf τ n v (f := 54) (g := 5) (by decide), st_nf τ n v (f := 54) (g := 6) (by decide), st_nf τ n v (f := 54) (g := 7) (by decide), st_nf τ n v (f := 54) (g := 8) (by decide), st_nf τ n v (f := 54) (g := 9) (by decide), st_nf τ n v (f := 54) (g := 10) (by decide), st_nf τ n v (f := 54) (g := 11) (by decide)]
  · rw [cC_5, cC_5, st_nf τ n v (f := 54) (g := 13) (by decide), st_nf τ n v (f := 54) (g := 14) (by decide), st_nf τ n v (f := 54) (g := 15) (by decide), st_nf τ n v (f := 54) (g := 16) (by decide), st_nf τ n v (f := 54) (g := 17) (by decide), st_nf τ n v (f := 54) (g := 18) (by decide), st_nf τ n v (f := 54) (g := 19) (by decide), st_nf τ n v (f := 54) (g := 20) (by decide)]
  · rw [cC_6, cC_6, st_nf τ n v (f := 54) (g := 23) (by decide), st_nf τ n v (f := 54) (g := 24) (by decide), st_nf τ n v (f := 54) (g := 25) (by decide), st_nf τ n v (f := 54) (g := 26) (by decide), st_nf τ n v (f := 54) (g := 27) (by decide), st_nf τ n v (f := 54) (g := 28) (by decide), st_nf τ n v (f := 54) (g := 50) (by decide), st_nf τ n v (f := 54) (g := 51) (by decide), st_nf τ n v (f := 54) (g := 22) (by decide), st_nf τ n v (f := 54) (g := 29) (by decide), st_nf τ n v (f := 54) (g := 31) (by decide)]
  · rw [cC_7, cC_7, st_nf τ n v (f := 54) (g := 32) (by decide), st_nf τ n v (f := 54) (g := 33) (by decide)]
  · rw [cC_8, cC_8, st_nf τ n v (f := 54) (g := 55) (by decide), st_nf τ n v (f := 54) (g := 36) (by decide), st_nf τ n v (f := 54) (g := 37) (by decide), st_nf τ n v (f := 54) (g := 38) (by decide), st_nf τ n v (f := 54) (g := 39) (by decide), st_nf τ n v (f := 54) (g := 40) (by decide), st_nf τ n v (f := 54) (g := 41) (by decide), st_nf τ n v (f := 54) (g := 42) (by decide), st_nf τ n v (f := 54) (g := 35) (by decide), st_nf τ n v (f := 54) (g := 44) (by decide), st_nf τ n v (f := 54) (g := 43) (by decide), st_nf τ n v (f := 54) (g := 45) (by decide)]
