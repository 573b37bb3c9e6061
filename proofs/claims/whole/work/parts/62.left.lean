/-! who is left behind, and a sailing cancelled: both sides alike -/
theorem e_next {c m : St} {M : Nat} (h22 : c 22 = m 22) (h24 : c 24 = m 24) (h25 : c 25 = m 25) (h26 : c 26 = m 26) (hn : c 54 2 = nI M) (hN : m 21 0 = nI M) (hM : M ≤ 60) (hF : ∀ k, k < M → m 22 k = 0 → ¬ m 26 k < m 1 0) (b why : Int32) : ∀ (n i : Nat) (x : Int32), i + n ≤ 61 → lf_X5_nextSailingLike_4 c (m 36 b.toNatClampNeg) n i x = lf_goesOver_13 m b why n i x := by
  intro n
  induction n with
  | zero => intro i x _; rfl
  | succ n ih =>
    intro i x hi
    simp only [lf_X5_nextSailingLike_4, lf_goesOver_13]
    rw [hn, hN]
    by_cases e0 : nI M ≤ nI i
    · rw [if_pos e0, if_pos e0]
    · rw [if_neg e0, if_neg e0, ih _ _ (by omega)]
      have hiM : i < M := m_lt rfl e0 (by omega) (by omega)
      have hf := hF i hiM
      rw [nI_clamp (by omega), h22, h24, h25, h26]
      congr 1
      by_cases e1 : m 22 i = 0
      · by_cases e2 : m 24 i = m 24 (m 36 b.toNatClampNeg).toNatClampNeg
        · by_cases e3 : m 25 i = m 25 (m 36 b.toNatClampNeg).toNatClampNeg
          · simp [e1, e2, e3, hf e1]
          · simp [e1, e2, e3]
        · simp [e1, e2]
      · simp [e1]
theorem nsl_pl {c : St} {M : Nat} (hn : c 54 2 = nI M) (hM : M ≤ 60) (mi : Int32) : ∀ (n i : Nat) (x : Int32), i + n ≤ 61 → (x = -1 ∨ ∃ k, k < M ∧ x = nI k ∧ c 22 k = 0) → (lf_X5_nextSailingLike_4 c mi n i x = -1 ∨ ∃ k, k < M ∧ lf_X5_nextSailingLike_4 c mi n i x = nI k ∧ c 22 k = 0) := by
  intro n
  induction n with
  | zero => intro i x _ h; exact h
  | succ n ih =>
    intro i x hi h
    simp only [lf_X5_nextSailingLike_4]
    rw [hn]
    by_cases e0 : nI M ≤ nI i
    · rw [if_pos e0]; exact h
    · rw [if_neg e0]
      have hiM : i < M := m_lt rfl e0 (by omega) (by omega)
      refine ih _ _ (by omega) ?_
      rw [nI_clamp (by omega)]
      by_cases e1 : c 22 i = 0
      · rw [if_pos e1]
        by_cases e2 : c 24 i = c 24 mi.toNatClampNeg
        · rw [if_pos e2]
          by_cases e3 : c 25 i = c 25 mi.toNatClampNeg
          · rw [if_pos e3]
            by_cases e4 : x = -1
            · rw [if_pos e4]; exact Or.inr ⟨i, hiM, rfl, e1⟩
            · rw [if_neg e4]
              by_cases e5 : c 26 x.toNatClampNeg ≤ c 26 i
              · rw [if_pos e5]; exact h
              · rw [if_neg e5]; exact Or.inr ⟨i, hiM, rfl, e1⟩
          · rw [if_neg e3]; exact h
        · rw [if_neg e2]; exact h
      · rw [if_neg e1]; exact h
/-- who is left: both go the same way -/
theorem leave_both {N : Nat → Nat} {c m : St} (h : RB N c m) {b : Nat} (hb : b < N 8) (w : Int32) : (s_X5_leaveBehind c (nI b) w = st (st (st c 44 b w) 43 b (c 43 b + 1)) 35 b 3 ∧ s_goesOver m (nI b) w = st (st (st m 44 b w) 43 b (m 43 b + 1)) 35 b 3) ∨ (∃ k, k < N 6 ∧ c 22 k = 0 ∧ s_X5_leaveBehind c (nI b) w = st (st (st c 44 b w) 43 b (c 43 b + 1)) 36 b (nI k) ∧ s_goesOver m (nI b) w = st (st (st m 44 b w) 43 b (m 43 b + 1)) 36 b (nI k)) := by
  obtain ⟨h1, ⟨hc1, hc2, hc3⟩, h3, h4, h5, h6, h7⟩ := h
  have hbt : (nI b).toNatClampNeg = b := nI_clamp (by omega)
  have e := e_next (c := st (st c 44 b w) 43 b (c 43 b + 1)) (m := m) (M := N 6) (by rw [st_nf _ _ _ (by decide), st_nf _ _ _ (by decide)]; exact h1 22 rfl) (by rw [st_nf _ _ _ (by decide), st_nf _ _ _ (by decide)]; exact h1 24 rfl) (by rw [st_nf _ _ _ (by decide), st_nf _ _ _ (by decide)]; exact h1 25 rfl) (by rw [st_nf _ _ _ (by decide), st_nf _ _ _ (by decide)]; exact h1 26 rfl) (by rw [st_nf _ _ _ (by decide), st_nf _ _ _ (by decide)]; exact hc1.2.2.1) hc2.2.2.1 hc3.2.2.1 (fun k hk hk0 => by rw [← h1 26 rfl, ← h1 1 rfl]; exact h6 k hk (by rw [h1 22 rfl]; exact hk0)) (nI b) w 61 0 (-1) (by omega)
  have p := nsl_pl (c := st (st c 44 b w) 43 b (c 43 b + 1)) (M := N 6) (by rw [st_nf _ _ _ (by decide), st_nf _ _ _ (by decide)]; exact hc1.2.2.1) hc3.2.2.1 (m 36 b) 61 0 (-1) (by omega) (Or.inl rfl)
  rw [hbt] at e
  unfold s_X5_leaveBehind s_goesOver q_X5_nextSailingLike
  rw [hbt, h1 36 rfl, e]
  rw [e] at p
  rcases p with p | ⟨k, hk, p, p0⟩
  · rw [if_pos p, if_pos p]; exact Or.inl ⟨rfl, rfl⟩
  · have hne : ¬ lf_goesOver_13 m (nI b) w 61 0 (-1) = -1 := fun z => by
      rw [p] at z
      exact absurd z (fun z => by have := congrArg Int32.toInt z; rw [nI_toInt (by omega)] at this; exact absurd this (by rw [show ((-1 : Int32)).toInt = -1 from rfl]; omega))
    rw [if_neg hne, if_neg hne, p]
    rw [st_nf _ _ _ (by decide), st_nf _ _ _ (by decide)] at p0
    exact Or.inr ⟨k, hk, p0, rfl, rfl⟩
theorem RB_leave {N : Nat → Nat} {c m : St} (h : RB N c m) {b : Nat} (hb : b < N 8) (w : Int32) (h0 : c 35 b = 0) : RB N (s_X5_leaveBehind c (nI b) w) (s_goesOver m (nI b) w) := by
  have k44 : RB N (st c 44 b w) (st m 44 b w) := RB_st h (by decide) (by decide) ⟨by omega, by omega, by omega, by omega, fun _ => hb⟩
  have k43 : RB N (st (st c 44 b w) 43 b (c 43 b + 1)) (st (st m 44 b w) 43 b (m 43 b + 1)) := by
    rw [h.1 43 rfl]
    exact RB_st k44 (by decide) (by decide) ⟨by omega, by omega, by omega, by omega, fun _ => hb⟩
  have h0' : st (st c 44 b w) 43 b (c 43 b + 1) 35 b ≠ 1 ∧ st (st c 44 b w) 43 b (c 43 b + 1) 35 b ≠ 2 := by
    rw [st_nf _ _ _ (by decide), st_nf _ _ _ (by decide), h0]; exact ⟨by decide, by decide⟩
  rcases leave_both h hb w with ⟨e1, e2⟩ | ⟨k, hk, k0, e1, e2⟩
  · rw [e1, e2]; exact RB_35 k43 hb (by decide) h0'
  · rw [e1, e2]; exact RB_36 k43 (vp_in_nI hk (by have := h.2.1.2.2.2.2.1; omega)) h0'
/-- what is left as it was by one who is left -/
theorem leave_f {c : St} {b : Int32} {w : Int32} {f : Nat} (hf : f ≠ 44 ∧ f ≠ 43 ∧ f ≠ 35 ∧ f ≠ 36) : s_X5_leaveBehind c b w f = c f := by
  unfold s_X5_leaveBehind
  split
  · rw [st_nf _ _ _ hf.2.2.1, st_nf _ _ _ hf.2.1, st_nf _ _ _ hf.1]
  · rw [st_nf _ _ _ hf.2.2.2, st_nf _ _ _ hf.2.1, st_nf _ _ _ hf.1]
theorem cancel_loop {N : Nat → Nat} {c0 m0 : St} (s : Nat) (w : Int32) : ∀ (n i : Nat) (c m : St), i + n ≤ 101 → RB N c m → RB N (lf_X5_cancel_20 c0 (nI s) w n i c) (lf_cancel_56 m0 (nI s) w n i m) ∧ ∀ f, f ≠ 44 ∧ f ≠ 43 ∧ f ≠ 35 ∧ f ≠ 36 → lf_X5_cancel_20 c0 (nI s) w n i c f = c f := by
  intro n
  induction n with
  | zero => intro i c m _ h; exact ⟨h, fun _ _ => rfl⟩
  | succ n ih =>
    intro i c m hi h
    have hc := h.2.1
    simp only [lf_X5_cancel_20, lf_cancel_56]
    rw [hc.1.2.2.2, hc.2.1.2.2.2]
    by_cases e0 : nI (N 8) ≤ nI i
    · rw [if_pos e0, if_pos e0]; exact ⟨h, fun _ _ => rfl⟩
    · rw [if_neg e0, if_neg e0]
      have h8 := hc.2.2.2.2.2
      have hiM : i < N 8 := m_lt rfl e0 (by omega) (by omega)
      rw [nI_clamp (by omega), e_waits h.1, nI_clamp (by omega)]
      by_cases e1 : m 35 i = 0
      · rw [if_pos e1]
        by_cases e2 : m 36 i = nI s
        · rw [if_pos e2, if_neg (by decide), if_pos e2, if_pos e1]
          obtain ⟨k1, k2⟩ := ih (i + 1) _ _ (by omega) (RB_leave h hiM 5 (by rw [h.1 35 rfl]; exact e1))
          exact ⟨k1, fun f hf => (k2 f hf).trans (leave_f hf)⟩
        · rw [if_neg e2, if_pos rfl, if_neg e2]
          exact ih (i + 1) _ _ (by omega) h
      · rw [if_neg e1, if_pos rfl]
        by_cases e2 : m 36 i = nI s
        · rw [if_pos e2, if_neg e1]; exact ih (i + 1) _ _ (by omega) h
        · rw [if_neg e2]; exact ih (i + 1) _ _ (by omega) h
theorem tell_f {c : St} {o w : Int32} {f : Nat} (hf : f ≠ 9) : s_X2_tellCancelled c o w f = c f := by
  unfold s_X2_tellCancelled
  split
  · rw [st_nf _ _ _ hf]
  · rfl
theorem RB_cancel {N : Nat → Nat} {c m : St} (h : RB N c m) {s : Nat} (hs : s < N 6) (h0 : c 22 s = 0) (w : Int32) : RB N (s_X5_cancel c (nI s) w) (s_cancel m (nI s) w) ∧ ∀ f, f ≠ 44 ∧ f ≠ 43 ∧ f ≠ 35 ∧ f ≠ 36 ∧ f ≠ 22 ∧ f ≠ 29 ∧ f ≠ 9 → s_X5_cancel c (nI s) w f = c f := by
  have h6 := h.2.1.2.2.2.2.1
  have h4 := h.2.1.2.2.1
  have hst : (nI s).toNatClampNeg = s := nI_clamp (by omega)
  have hto := (h.2.2.2.2.1.2.1 s hs).2.2
  have k22 : RB N (st c 22 s 3) (st m 22 s 3) := RB_22 h hs (by decide) (RB_none h hs h0)
  have k29 : RB N (st (st c 22 s 3) 29 s w) (st (st m 22 s 3) 29 s w) := RB_st k22 (by decide) (by decide) ⟨by omega, by omega, fun _ => hs, by omega, by omega⟩
  have k9 : RB N (s_X2_tellCancelled (st (st c 22 s 3) 29 s w) (c 25 s) w) (st (st (st m 22 s 3) 29 s w) 9 (m 25 s).toNatClampNeg (if m 9 (m 25 s).toNatClampNeg = 0 then w else m 9 (m 25 s).toNatClampNeg)) := by
    have hd : (7 ≤ 9 ∧ 9 ≤ 11 → (c 25 s).toNatClampNeg < N 4) ∧ (9 = 20 → (c 25 s).toNatClampNeg < N 5) ∧ (9 = 29 ∨ 9 = 31 → (c 25 s).toNatClampNeg < N 6) ∧ (9 = 32 ∨ 9 = 33 → (c 25 s).toNatClampNeg < 2 * N 6) ∧ (9 = 43 ∨ 9 = 44 → (c 25 s).toNatClampNeg < N 8) := ⟨fun _ => vp_lt hto, by omega, by omega, by omega, by omega⟩
    unfold s_X2_tellCancelled
    rw [show st (st c 22 s 3) 29 s w 9 (c 25 s).toNatClampNeg = m 9 (m 25 s).toNatClampNeg by rw [st_nf _ _ _ (by decide), st_nf _ _ _ (by decide), h.1 9 rfl, h.1 25 rfl], ← h.1 25 rfl]
    by_cases e : m 9 (c 25 s).toNatClampNeg = 0
    · rw [if_pos e, if_pos e]; exact RB_st k29 (by decide) (by decide) hd
    · rw [if_neg e, if_neg e]
      have k := RB_st (f := 9) (v := m 9 (c 25 s).toNatClampNeg) k29 (by decide) (by decide) hd
      rw [show st (st (st c 22 s 3) 29 s w) 9 (c 25 s).toNatClampNeg (m 9 (c 25 s).toNatClampNeg) = st (st c 22 s 3) 29 s w by
        have e9 : m 9 (c 25 s).toNatClampNeg = st (st c 22 s 3) 29 s w 9 (c 25 s).toNatClampNeg := by rw [st_nf _ _ _ (by decide), st_nf _ _ _ (by decide), h.1 9 rfl]
        rw [e9, st_id]] at k
      exact k
  unfold s_X5_cancel s_cancel
  rw [hst]
  obtain ⟨k1, k2⟩ := cancel_loop (c0 := c) (m0 := m) s w 101 0 _ _ (by omega) k9
  refine ⟨k1, fun f hf => (k2 f (by omega)).trans ?_⟩
  rw [tell_f (by omega), st_nf _ _ _ (by omega), st_nf _ _ _ (by omega)]
theorem cancel_22 {N : Nat → Nat} {c m : St} (h : RB N c m) {s : Nat} (hs : s < N 6) (h0 : c 22 s = 0) (w : Int32) : s_X5_cancel c (nI s) w 22 = st c 22 s 3 22 := by
  have h6 := h.2.1.2.2.2.2.1
  have hst : (nI s).toNatClampNeg = s := nI_clamp (by omega)
  have key : ∀ (n i : Nat) (d : St), lf_X5_cancel_20 c (nI s) w n i d 22 = d 22 := by
    intro n
    induction n with
    | zero => intro i d; rfl
    | succ n ih =>
      intro i d
      simp only [lf_X5_cancel_20]
      split
      · rfl
      · rw [ih]
        split
        · rfl
        · rw [leave_f (by decide)]
  unfold s_X5_cancel
  rw [key, tell_f (by decide), st_nf _ _ _ (by decide), hst]
