/-! the world with a new sailing -/
theorem cP_sail {D : va_G} {cI cO : ClassId} {A : Nat → Prop} {g : Gh} {cap N : Nat → Nat} {τ : St} {H : Heap} {aE r q1 q2 q3 q4 : Nat} (hI : KI cap N τ) (hP : cP D cI cO A g cap N τ H)
    (w1 : va_at D vwCl (r, cC cI cO (gs g N aE r q1 q2 q3 q4) (caps cap N) τ 6 (N 6)) H) (w2 : va_at D vwCl (q1, cC cI cO (gs g N aE r q1 q2 q3 q4) (caps cap N) τ 7 (N 7)) H) (w3 : va_at D vwCl (q2, cC cI cO (gs g N aE r q1 q2 q3 q4) (caps cap N) τ 7 (N 7 + 1)) H) (w4 : va_at D vwCl (q3, cC cI cO (gs g N aE r q1 q2 q3 q4) (caps cap N) τ 1 (N 1)) H) (w5 : va_at D vwCl (q4, cC cI cO (gs g N aE r q1 q2 q3 q4) (caps cap N) τ 1 (N 1 + 1)) H)
    (hA : ∀ x, x = r ∨ x = q1 ∨ x = q2 ∨ x = q3 ∨ x = q4 → A x) (hf : ∀ k n, lv N cap k n → g k n ≠ r ∧ g k n ≠ q1 ∧ g k n ≠ q2 ∧ g k n ≠ q3 ∧ g k n ≠ q4) (hd : r ≠ q1 ∧ r ≠ q2 ∧ r ≠ q3 ∧ r ≠ q4 ∧ q1 ≠ q2 ∧ q1 ≠ q3 ∧ q1 ≠ q4 ∧ q2 ≠ q3 ∧ q2 ≠ q4 ∧ q3 ≠ q4) : cP D cI cO A (gs g N aE r q1 q2 q3 q4) (caps cap N) (Ns N) τ H := by
  have hN := hI.1
  obtain ⟨n0, n4, n5, n6, n8, n7, n1, n2, n3⟩ := id hN
  have old : ∀ k n, lv N cap k n → gs g N aE r q1 q2 q3 q4 k n = g k n := fun k n hl => gs_o (fun z => by have := hl.2.1; rw [z] at this; exact this) (fun z => by have := hl.2.1; rw [z] at this; exact this) (fun z => by have := hl.2.1; rcases z with z | z <;> rw [z] at this <;> omega)
  refine cP_ext hP (fun k n hl => ⟨old k n hl, cC_gs hI hl⟩) (fun k n hl hnl => ?_) (fun k n k' n' hl hnl hl' hg => ?_)
  · rcases lv_s hN hl with h | ⟨rfl, rfl⟩ | ⟨rfl, rfl⟩ | ⟨rfl, rfl⟩ | ⟨rfl, rfl⟩ | ⟨rfl, rfl⟩
    · exact absurd h hnl
    · rw [gs_6]; exact ⟨w1, hA _ (Or.inl rfl)⟩
    · rw [gs_71]; exact ⟨w2, hA _ (Or.inr (Or.inl rfl))⟩
    · rw [gs_72]; exact ⟨w3, hA _ (Or.inr (Or.inr (Or.inl rfl)))⟩
    · rw [gs_11]; exact ⟨w4, hA _ (Or.inr (Or.inr (Or.inr (Or.inl rfl))))⟩
    · rw [gs_12]; exact ⟨w5, hA _ (Or.inr (Or.inr (Or.inr (Or.inr rfl))))⟩
  · obtain ⟨d1, d2, d3, d4, d5, d6, d7, d8, d9, d10⟩ := hd
    rcases lv_s hN hl with h | ⟨rfl, rfl⟩ | ⟨rfl, rfl⟩ | ⟨rfl, rfl⟩ | ⟨rfl, rfl⟩ | ⟨rfl, rfl⟩
    · exact absurd h hnl
    all_goals
      rcases lv_s hN hl' with h' | ⟨rfl, rfl⟩ | ⟨rfl, rfl⟩ | ⟨rfl, rfl⟩ | ⟨rfl, rfl⟩ | ⟨rfl, rfl⟩
      · rw [old _ _ h'] at hg
        obtain ⟨f1, f2, f3, f4, f5⟩ := hf _ _ h'
        simp only [gs_6, gs_71, gs_72, gs_11, gs_12] at hg
        first | exact absurd hg.symm f1 | exact absurd hg.symm f2 | exact absurd hg.symm f3 | exact absurd hg.symm f4 | exact absurd hg.symm f5
      all_goals
        simp only [gs_6, gs_71, gs_72, gs_11, gs_12] at hg
        first | exact ⟨rfl, rfl⟩ | exact absurd hg (by assumption) | exact absurd hg.symm (by assumption)
