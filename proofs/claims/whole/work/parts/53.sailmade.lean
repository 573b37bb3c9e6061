/-! the hidden world behind a sailing's making and its list's growing -/
theorem KI_dead {cap N : Nat → Nat} {σ : St} (h : KI cap N σ) {F j : Nat} {v : Int32} (hF : (F = 23 ∨ F = 24 ∨ F = 25) ∧ N 6 ≤ j ∨ F = 54 ∧ N 1 ≤ j) : KI cap N (st σ F j v) := by
  obtain ⟨h1, h2, h3, h4, h5, h6⟩ := h
  obtain ⟨n0, n4, n5, n6, n8, n7, n1, n2, n3⟩ := id h1
  have e : ∀ f n, ¬ (f = F ∧ n = j) → st σ F j v f n = σ f n := fun f n hne => by rw [st_at, if_neg hne]
  unfold KI
  rw [e 54 0 (by omega), e 54 1 (by omega), e 54 2 (by omega), e 54 3 (by omega)]
  refine ⟨h1, h2, fun n hn => ?_, fun n hn => ?_, fun n => ?_, fun q hq => ?_⟩
  · rw [e 23 n (by omega), e 24 n (by omega), e 25 n (by omega)]; exact h3 n hn
  · rw [e 36 n (by omega)]; exact h4 n hn
  · rw [e 20 n (by omega), e 41 n (by omega)]; exact h5 n
  · obtain ⟨C, a, b, c, d⟩ := h6 q hq
    unfold KL
    rw [e 54 q (by omega), st_nf σ j v (f := F) (g := 100 + q) (by omega)]
    exact ⟨C, a, b, c, d⟩
theorem Ns_6 {N : Nat → Nat} : Ns N 6 = N 6 + 1 := rfl
theorem Ns_7 {N : Nat → Nat} : Ns N 7 = N 7 + 2 := rfl
theorem Ns_1 {N : Nat → Nat} : Ns N 1 = N 1 + 2 := rfl
theorem Ns_2 {N : Nat → Nat} : Ns N 2 = N 2 + 2 := rfl
theorem Ns_o {N : Nat → Nat} {j : Nat} (h : j ≠ 6 ∧ j ≠ 7 ∧ j ≠ 1 ∧ j ≠ 2) : Ns N j = N j := by unfold Ns; rw [if_neg h.1, if_neg h.2.1, if_neg (by omega)]
theorem KN_s {N : Nat → Nat} (h : KN N) (h6 : N 6 < 60) : KN (Ns N) := by
  obtain ⟨n0, n4, n5, n6, n8, n7, n1, n2, n3⟩ := h
  unfold KN
  rw [Ns_o (j := 0) (by decide), Ns_o (j := 4) (by decide), Ns_o (j := 5) (by decide), Ns_o (j := 8) (by decide), Ns_o (j := 3) (by decide), Ns_6, Ns_7, Ns_1, Ns_2]
  omega
theorem KI_mks {cap cap1 N : Nat → Nat} {τ : St} (hK : KI cap N τ) (h60 : N 6 < 60) (hle : ∀ j, j < N 1 → cap j ≤ cap1 j) (hlt : N 6 < cap1 2) (hn : vp_in (τ 23 (N 6)) (N 5) ∧ vp_in (τ 24 (N 6)) (N 4) ∧ vp_in (τ 25 (N 6)) (N 4)) (hz : τ 54 (N 1) = 0 ∧ τ 54 (N 1 + 1) = 0) : KI cap1 (Ns N) (st (st τ 52 2 (τ 52 2 + 1)) 54 2 (nI (N 6 + 1))) := by
  obtain ⟨h1, h2, h3, h4, h5, h6⟩ := hK
  obtain ⟨n0, n4, n5, n6, n8, n7, n1, n2, n3⟩ := id h1
  have e : ∀ f, f ≠ 52 → f ≠ 54 → st (st τ 52 2 (τ 52 2 + 1)) 54 2 (nI (N 6 + 1)) f = τ f := fun f a b => by rw [st_nf _ _ _ b, st_nf _ _ _ a]
  have e54 : ∀ j, j ≠ 2 → st (st τ 52 2 (τ 52 2 + 1)) 54 2 (nI (N 6 + 1)) 54 j = τ 54 j := fun j hj => by rw [st_nj _ _ _ hj, st_nf _ _ _ (show (54 : Nat) ≠ 52 by decide)]
  have hs : st (st τ 52 2 (τ 52 2 + 1)) 54 2 (nI (N 6 + 1)) 54 2 = nI (N 6 + 1) := st_self _ _ _ _
  unfold KI
  rw [e54 0 (by decide), e54 1 (by decide), hs, e54 3 (by decide), e 23 (by decide) (by decide), e 24 (by decide) (by decide), e 25 (by decide) (by decide), e 36 (by decide) (by decide), e 20 (by decide) (by decide), e 41 (by decide) (by decide)]
  rw [Ns_o (j := 4) (by decide), Ns_o (j := 5) (by decide), Ns_o (j := 8) (by decide), Ns_6]
  refine ⟨KN_s h1 h60, ⟨h2.1, h2.2.1, rfl, h2.2.2.2⟩, fun n hn' => ?_, fun n hn' => vp_up (h4 n hn') (Nat.le_succ _), h5, fun q hq => ?_⟩
  · by_cases hlt6 : n < N 6
    · exact h3 n hlt6
    · have : n = N 6 := by omega
      rw [this]; exact hn
  · rw [Ns_1] at hq
    unfold KL
    rw [e (100 + q) (by omega) (by omega), Ns_o (j := 8) (by decide)]
    by_cases hq2 : q = 2
    · subst hq2
      rw [hs]
      exact ⟨N 6 + 1, rfl, hlt, by omega, fun z => absurd z (by decide)⟩
    · rw [e54 q hq2]
      by_cases hq1 : q < N 1
      · obtain ⟨C, a, b, c, d⟩ := h6 q hq1
        exact ⟨C, a, Nat.le_trans b (hle q hq1), c, d⟩
      · refine ⟨0, ?_, Nat.zero_le _, by decide, fun _ i hi => absurd hi (by omega)⟩
        have hqq : q = N 1 ∨ q = N 1 + 1 := by omega
        rcases hqq with rfl | rfl
        · exact hz.1
        · exact hz.2
theorem cG_mks {D : va_G} {cI cO : ClassId} {A : Nat → Prop} {aE : Nat} {g g1 : Gh} {a cap cap1 N : Nat → Nat} {τ : St} {H : Heap} {r q1 q2 q3 q4 : Nat} (hGI : GI aE N cap a) (hK : KI cap N τ) (h60 : N 6 < 60) (hn : vp_in (τ 23 (N 6)) (N 5) ∧ vp_in (τ 24 (N 6)) (N 4) ∧ vp_in (τ 25 (N 6)) (N 4)) (hz : τ 54 (N 1) = 0 ∧ τ 54 (N 1 + 1) = 0) (hG : GC (gs (gw g a) N aE r q1 q2 q3 q4) (caps cap N) 2 g1 cap1) (hlt : N 6 < cap1 2)
    (hQ : cQ D cI cO A g1 cap1 (Ns N) (ru (crow (gs (gw g a) N aE r q1 q2 q3 q4) τ) 2 (va_up (crow (gs (gw g a) N aE r q1 q2 q3 q4) τ 2) (N 6) (some r))) (st (st τ 52 2 (τ 52 2 + 1)) 54 2 (nI (N 6 + 1))) H) : cG D cI cO A aE (gs g N aE r q1 q2 q3 q4) (Ns N) (st (st τ 52 2 (τ 52 2 + 1)) 54 2 (nI (N 6 + 1))) H := by
  obtain ⟨n0, n4, n5, n6, n8, n7, n1, n2, n3⟩ := id hK.1
  have hle : ∀ j, j < N 1 → cap j ≤ cap1 j := fun j h1 => by
    have hc : caps cap N j = cap j := caps_o h1
    by_cases hj : j = 2
    · subst hj; rw [← hc]; exact hG.2.2.1
    · rw [(hG.2.1 j hj).2, hc]; exact Nat.le_refl _
  have hgg : ∀ k n, k ≠ 2 → g1 k n = gs g N aE r q1 q2 q3 q4 k n := fun k n h2 => (hG.1 k n h2).trans (by unfold gs; rw [gw_o h2])
  have hC : τ 54 2 = nI (N 6) := hK.2.1.2.2.1
  refine ⟨g1 2, cap1, ⟨fun j hj h0 => ?_, fun j hj => ?_⟩, KI_mks hK h60 hle hlt hn hz, ?_⟩
  · rw [Ns_1] at hj
    by_cases e : j = 2
    · subst e; omega
    · rw [(hG.2.1 j e).1]
      rw [(hG.2.1 j e).2] at h0
      by_cases hj1 : j < N 1
      · rw [caps_o hj1] at h0
        rw [gs_o (by omega) (by omega) (fun _ => hj1)]
        exact hGI.1 j hj1 h0
      · have hjj : j = N 1 ∨ j = N 1 + 1 := by omega
        rcases hjj with rfl | rfl
        · exact gs_21
        · exact gs_22
  · rw [Ns_1] at hj
    by_cases e : j = 2
    · subst e; exact hG.2.2.2.2
    · rw [(hG.2.1 j e).2]
      by_cases hj1 : j < N 1
      · rw [caps_o hj1]; exact hGI.2 j hj1
      · rw [caps_n (by omega)]; exact Nat.zero_le _
  · rw [← gw_of hgg]
    refine cQ_to hQ (fun q hq h0 => ?_)
    unfold ru
    by_cases e : q = 2
    · subst e
      rw [if_pos rfl]
      funext i
      unfold crow cn va_up
      dsimp only
      rw [st_self, hC, nI_clamp (by omega), nI_clamp (by omega), if_pos (show 2 < 4 by decide), if_pos (show 2 < 4 by decide), show ek 2 = 6 from rfl]
      by_cases i1 : i = N 6
      · rw [if_pos i1, if_pos (show i < N 6 + 1 by omega), hgg 6 i (by decide), i1, gs_6]
      · rw [if_neg i1]
        by_cases i2 : i < N 6
        · rw [if_pos i2, if_pos (show i < N 6 + 1 by omega), hG.1 6 i (by decide)]
        · rw [if_neg i2, if_neg (show ¬ i < N 6 + 1 by omega)]
    · rw [if_neg e]
      funext i
      unfold crow cn
      rw [st_nj _ _ _ e, st_nf _ _ _ (show (54 : Nat) ≠ 52 by decide), st_nf _ _ _ (show 100 + q ≠ 54 by omega), st_nf _ _ _ (show 100 + q ≠ 52 by omega), hG.1 _ _ (ek_2 q)]
