/-! a sailing departs: both sides alike -/
theorem why_vals (m : St) (s b : Int32) : q_whyNot m s b = 0 ∨ ¬ q_whyNot m s b ≤ 0 := by
  unfold q_whyNot k182t0_whyNot
  repeat' split
  all_goals first | exact Or.inl rfl | exact Or.inr (by decide)
theorem reason_vals (m : St) (s t : Int32) : q_reasonOf m s t = 0 ∨ ¬ q_reasonOf m s t ≤ 0 := by
  unfold q_reasonOf k124t0_reasonOf
  repeat' split
  all_goals first | exact Or.inl rfl | exact Or.inr (by decide)
theorem decide_vals (m : St) (s : Int32) : k96t0_decide m s = 0 ∨ ¬ k96t0_decide m s ≤ 0 := by
  unfold k96t0_decide
  repeat' split
  all_goals first | exact Or.inl rfl | exact Or.inr (by decide)
theorem refusal_hg {c : St} {s b : Int32} (h : q_X3_refusal c s b = 0) : c 40 b.toNatClampNeg = 0 ∨ c 51 s.toNatClampNeg = 0 ∨ c 51 s.toNatClampNeg = c 40 b.toNatClampNeg := by
  by_cases e1 : c 40 b.toNatClampNeg = 0
  · exact Or.inl e1
  · by_cases e2 : c 51 s.toNatClampNeg = 0
    · exact Or.inr (Or.inl e2)
    · by_cases e3 : c 51 s.toNatClampNeg = c 40 b.toNatClampNeg
      · exact Or.inr (Or.inr e3)
      · unfold q_X3_refusal at h
        rw [if_neg e1, if_neg e2, if_neg e3] at h
        exact absurd h (by decide)
/-- how many wait for a sailing -/
def wfor (N : Nat → Nat) (c : St) (s : Nat) : Nat := fb_ct (fun k => decide (c 35 k = 0) && decide (c 36 k = nI s)) (N 8)
theorem wfor_less {N : Nat → Nat} {c c' : St} {s j : Nat} (hj : j < N 8) (h1 : c 35 j = 0) (h2 : c 36 j = nI s) (h3 : ¬ (c' 35 j = 0 ∧ c' 36 j = nI s)) (ho : ∀ k, k ≠ j → c' 35 k = c 35 k ∧ c' 36 k = c 36 k) : wfor N c' s + 1 = wfor N c s := by
  unfold wfor
  have u := fb_ct_upd (fun k => decide (c 35 k = 0) && decide (c 36 k = nI s)) false hj
  have e1 : (decide (c 35 j = 0) && decide (c 36 j = nI s)) = true := by rw [decide_eq_true h1, decide_eq_true h2]; rfl
  rw [e1] at u
  simp only [if_true, Bool.false_eq_true, if_false, Nat.add_zero] at u
  rw [← u]
  refine congrArg (· + 1) (fb_ct_cong (fun k _ => ?_))
  by_cases e : k = j
  · rw [if_pos e, e]
    by_cases a : c' 35 j = 0
    · rw [decide_eq_false (fun z => h3 ⟨a, z⟩), Bool.and_false]
    · rw [decide_eq_false a, Bool.false_and]
  · rw [if_neg e, (ho k e).1, (ho k e).2]
theorem goes_47 {m : St} {b w : Int32} : s_goesOver m b w 47 = m 47 := by
  unfold s_goesOver
  split
  · rw [st_nf _ _ _ (by decide), st_nf _ _ _ (by decide), st_nf _ _ _ (by decide)]
  · rw [st_nf _ _ _ (by decide), st_nf _ _ _ (by decide), st_nf _ _ _ (by decide)]
theorem comes_47 {m : St} {s b : Int32} : s_comes m s b 47 = m 47 := by
  unfold s_comes
  rw [st_nf _ _ _ (by decide), st_nf _ _ _ (by decide), st_nf _ _ _ (by decide), st_nf _ _ _ (by decide), st_nf _ _ _ (by decide), st_nf _ _ _ (by decide)]
theorem sail_loop {N : Nat → Nat} {c0 m0 : St} {s : Nat} (hs : s < N 6) : ∀ (n i : Nat) (c m : St), i + n = 101 → RB N c m → c 22 s = 1 → (∀ k, k < N 8 → c 35 k = 0 → c 36 k = nI s → m 47 k = 0) → wfor N c s + i ≤ N 8 → RB N (lf_X5_sail_15 c0 (nI s) n i c) (lf_depart_69 m0 (nI s) n (q_nextOf m (nI s)) m).2 ∧ ∀ f, f = 22 ∨ f = 26 ∨ f = 1 → lf_X5_sail_15 c0 (nI s) n i c f = c f := by
  intro n
  induction n with
  | zero => intro i c m _ h _ _ _; exact ⟨h, fun _ _ => rfl⟩
  | succ n ih =>
    intro i c m hi h h1 hsn hw
    have hc := h.2.1
    have h8 := hc.2.2.2.2.2
    have h60 := hc.2.2.2.2.1
    have hst : (nI s).toNatClampNeg = s := nI_clamp (by omega)
    have ef : q_X5_firstInLine c (nI s) = q_nextOf m (nI s) := e_first h hsn 101 0 (-1) (by omega) (Or.inl rfl)
    have pl := first_pl h (s := s) 101 0 (-1) (by omega) (Or.inl rfl)
    have pl : q_X5_firstInLine c (nI s) = -1 ∨ ∃ j, j < N 8 ∧ q_X5_firstInLine c (nI s) = nI j ∧ c 35 j = 0 ∧ c 36 j = nI s := pl
    simp only [lf_X5_sail_15, lf_depart_69]
    rw [ef, hc.1.2.2.2]
    rw [ef] at pl
    by_cases e : q_nextOf m (nI s) = -1
    · rw [if_pos e, if_pos e]
      split
      · exact ⟨h, fun _ _ => rfl⟩
      · exact ⟨h, fun _ _ => rfl⟩
    · obtain ⟨j, hj, ej, j35, j36⟩ := pl.resolve_left e
      have hjt : (nI j).toNatClampNeg = j := nI_clamp (by omega)
      have hpos : 0 < wfor N c s := fb_ct_pos.mpr ⟨j, hj, by rw [decide_eq_true j35, decide_eq_true j36]; rfl⟩
      rw [if_neg e, if_neg e, if_neg (fun z => absurd ((nI_leI (by omega) (by omega)).mp z) (by omega)), ej]
      rw [hjt]
      generalize vp_nar .boolean 1 = v
      have hm1 : RB N c (st m 47 j v) := RB_m h (Or.inr rfl)
      have hwhy := why_both hm1 hs h1 hj
      by_cases er : q_X3_refusal c (nI s) (nI j) = 0
      · have e2 : q_whyNot (st m 47 j v) (nI s) (nI j) ≤ 0 := by rw [← hwhy, er]; decide
        rw [if_pos er, if_pos e2]
        have hg := refusal_hg er
        rw [hjt, hst] at hg
        have k := RB_take hm1 hs h1 hj j35 j36 hg
        have t35 : s_X3_takeAboard c (nI s) (nI j) 35 = st c 35 j 1 35 := by rw [take_35, hjt]
        have t36 : s_X3_takeAboard c (nI s) (nI j) 36 = c 36 := take_f (by decide)
        have wl := wfor_less (c' := s_X3_takeAboard c (nI s) (nI j)) (s := s) hj j35 j36 (by rw [t35, st_self]; exact fun z => absurd z.1 (by decide)) (fun k hk => ⟨by rw [t35, st_nj _ _ _ hk], by rw [t36]⟩)
        obtain ⟨k1, k2⟩ := ih (i + 1) _ _ (by omega) k (by rw [take_f (by decide)]; exact h1) (fun x hx x35 x36 => by
          rw [comes_47]
          by_cases ex : x = j
          · rw [ex, t35, st_self] at x35; exact absurd x35 (by decide)
          · rw [st_nj _ _ _ ex]
            rw [t35, st_nj _ _ _ ex] at x35
            rw [t36] at x36
            exact hsn x hx x35 x36) (by omega)
        exact ⟨k1, fun f hf => (k2 f hf).trans (take_f (by omega))⟩
      · have e2 : ¬ q_whyNot (st m 47 j v) (nI s) (nI j) ≤ 0 := (why_vals _ _ _).resolve_left (by rw [← hwhy]; exact er)
        rw [if_neg er, if_neg e2, hst, ← hwhy]
        have k31 : RB N (st c 31 s (c 31 s + 1)) (st (st m 47 j v) 31 s (m 31 s + 1)) := by
          rw [h.1 31 rfl]
          exact RB_st hm1 (by decide) (by decide) ⟨by omega, by omega, fun _ => hs, by omega, by omega⟩
        have k := RB_leave k31 hj (q_X3_refusal c (nI s) (nI j)) (by rw [st_nf _ _ _ (by decide)]; exact j35)
        have frm := leave_both k31 hj (q_X3_refusal c (nI s) (nI j))
        have fr : ∀ f, f = 22 ∨ f = 26 ∨ f = 1 → s_X5_leaveBehind (st c 31 s (c 31 s + 1)) (nI j) (q_X3_refusal c (nI s) (nI j)) f = c f := fun f hf => by
          rw [leave_f (by omega), st_nf _ _ _ (by omega)]
        have hx : (s_X5_leaveBehind (st c 31 s (c 31 s + 1)) (nI j) (q_X3_refusal c (nI s) (nI j)) 35 = st c 35 j 3 35 ∧ s_X5_leaveBehind (st c 31 s (c 31 s + 1)) (nI j) (q_X3_refusal c (nI s) (nI j)) 36 = c 36) ∨ ∃ k, k < N 6 ∧ c 22 k = 0 ∧ s_X5_leaveBehind (st c 31 s (c 31 s + 1)) (nI j) (q_X3_refusal c (nI s) (nI j)) 35 = c 35 ∧ s_X5_leaveBehind (st c 31 s (c 31 s + 1)) (nI j) (q_X3_refusal c (nI s) (nI j)) 36 = st c 36 j (nI k) 36 := by
          rcases frm with ⟨f1, -⟩ | ⟨k, hk, k0, f1, -⟩
          · refine Or.inl ⟨?_, ?_⟩
            · rw [f1]; exact st_col (by rw [st_nf _ _ _ (by decide), st_nf _ _ _ (by decide), st_nf _ _ _ (by decide)])
            · rw [f1, st_nf _ _ _ (by decide), st_nf _ _ _ (by decide), st_nf _ _ _ (by decide), st_nf _ _ _ (by decide)]
          · refine Or.inr ⟨k, hk, by rw [st_nf _ _ _ (by decide)] at k0; exact k0, ?_, ?_⟩
            · rw [f1, st_nf _ _ _ (by decide), st_nf _ _ _ (by decide), st_nf _ _ _ (by decide), st_nf _ _ _ (by decide)]
            · rw [f1]; exact st_col (by rw [st_nf _ _ _ (by decide), st_nf _ _ _ (by decide), st_nf _ _ _ (by decide)])
        have h3 : ¬ (s_X5_leaveBehind (st c 31 s (c 31 s + 1)) (nI j) (q_X3_refusal c (nI s) (nI j)) 35 j = 0 ∧ s_X5_leaveBehind (st c 31 s (c 31 s + 1)) (nI j) (q_X3_refusal c (nI s) (nI j)) 36 j = nI s) := by
          rcases hx with ⟨x1, x2⟩ | ⟨k, hk, k0, x1, x2⟩
          · rw [x1, st_self]; exact fun z => absurd z.1 (by decide)
          · rw [x2, st_self]
            intro z
            have := (nI_eq (by omega) (by omega)).mp z.2
            rw [this, h1] at k0; exact absurd k0 (by decide)
        have ho : ∀ k, k ≠ j → s_X5_leaveBehind (st c 31 s (c 31 s + 1)) (nI j) (q_X3_refusal c (nI s) (nI j)) 35 k = c 35 k ∧ s_X5_leaveBehind (st c 31 s (c 31 s + 1)) (nI j) (q_X3_refusal c (nI s) (nI j)) 36 k = c 36 k := fun x hxj => by
          rcases hx with ⟨x1, x2⟩ | ⟨k, hk, k0, x1, x2⟩
          · rw [x1, x2, st_nj _ _ _ hxj]; exact ⟨rfl, rfl⟩
          · rw [x1, x2, st_nj _ _ _ hxj]; exact ⟨rfl, rfl⟩
        have wl := wfor_less (s := s) hj j35 j36 h3 ho
        obtain ⟨k1, k2⟩ := ih (i + 1) _ _ (by omega) k (by rw [fr 22 (by decide)]; exact h1) (fun x hx x35 x36 => by
          rw [goes_47, st_nf _ _ _ (by decide)]
          by_cases ex : x = j
          · rw [ex] at x35 x36; exact absurd ⟨x35, x36⟩ h3
          · rw [st_nj _ _ _ ex]
            rw [(ho x ex).1] at x35
            rw [(ho x ex).2] at x36
            exact hsn x hx x35 x36) (by omega)
        exact ⟨k1, fun f hf => (k2 f hf).trans (fr f hf)⟩
theorem dep_42 {N : Nat → Nat} {c m0 : St} (o : Int32) : ∀ (n i : Nat) (m : St), i + n = 101 → RB N c m → RB N c (lf_depart_42 m0 o n i m) ∧ (∀ k, i ≤ k → k < N 8 → lf_depart_42 m0 o n i m 47 k = 0) ∧ (∀ k, k < i → lf_depart_42 m0 o n i m 47 k = m 47 k) := by
  intro n
  induction n with
  | zero => intro i m hi h; exact ⟨h, fun k a b => absurd h.2.1.2.2.2.2.2 (by omega), fun _ _ => rfl⟩
  | succ n ih =>
    intro i m hi h
    have h8 := h.2.1.2.2.2.2.2
    simp only [lf_depart_42]
    rw [h.2.1.2.1.2.2.2]
    by_cases e0 : nI (N 8) ≤ nI i
    · rw [if_pos e0]
      have hiM : N 8 ≤ i := (nI_leI (by omega) (by omega)).mp e0
      exact ⟨h, fun k a b => absurd b (by omega), fun _ _ => rfl⟩
    · rw [if_neg e0]
      have hiM : i < N 8 := m_lt rfl e0 (by omega) (by omega)
      rw [nI_clamp (by omega)]
      obtain ⟨k1, k2, k3⟩ := ih (i + 1) (st m 47 i (vp_nar .boolean 0)) (by omega) (RB_m h (Or.inr rfl))
      refine ⟨k1, fun k a b => ?_, fun k a => ?_⟩
      · by_cases e : k = i
        · rw [e, k3 i (by omega), st_self]; rfl
        · exact k2 k (by omega) b
      · rw [k3 k (by omega), st_nj _ _ _ (by omega)]
theorem RB_sail {N : Nat → Nat} {c m : St} (h : RB N c m) {s : Nat} (hs : s < N 6) (h0 : c 22 s = 0) (hr : q_reasonOf m (nI s) (m 1 0) ≤ 0) : RB N (s_X5_sail c (nI s)) (s_depart m (nI s)) ∧ s_X5_sail c (nI s) 22 = st c 22 s 1 22 ∧ s_X5_sail c (nI s) 26 = c 26 ∧ s_X5_sail c (nI s) 1 = c 1 := by
  have hc := h.2.1
  have h60 := hc.2.2.2.2.1
  have hst : (nI s).toNatClampNeg = s := nI_clamp (by omega)
  unfold s_X5_sail s_depart
  rw [if_pos hr, hst, ← h.1 23 rfl]
  have k1 : RB N (st (st c 22 s 1) 19 (c 23 s).toNatClampNeg (-1)) (st (st m 22 s 1) 19 (c 23 s).toNatClampNeg (-1)) := RB_st (RB_22 h hs (by decide) (RB_none h hs h0)) (by decide) (by decide) ⟨by omega, by omega, by omega, by omega, by omega⟩
  obtain ⟨k2, k3, -⟩ := dep_42 (m0 := m) (nI s) 101 0 _ (by omega) k1
  obtain ⟨k4, k5⟩ := sail_loop (c0 := c) (m0 := m) hs 101 0 _ _ (by omega) k2 (by rw [st_nf _ _ _ (by decide), st_self]) (fun k hk _ _ => k3 k (Nat.zero_le _) hk) (by have := fb_ct_le (fun k => decide (st (st c 22 s 1) 19 (c 23 s).toNatClampNeg (-1) 35 k = 0) && decide (st (st c 22 s 1) 19 (c 23 s).toNatClampNeg (-1) 36 k = nI s)) (N 8); unfold wfor; omega)
  exact ⟨k4, (k5 22 (by decide)).trans (st_nf _ _ _ (by decide)), (k5 26 (by decide)).trans (by rw [st_nf _ _ _ (by decide), st_nf _ _ _ (by decide)]), (k5 1 (by decide)).trans (by rw [st_nf _ _ _ (by decide), st_nf _ _ _ (by decide)])⟩
/-- all that depart in this minute -/
theorem dep_loop {N : Nat → Nat} {c0 m0 : St} : ∀ (n i : Nat) (c m : St), i + n = 61 → RB N c m → RB N (lf_X5_letDepart_2 c0 n i c) (lf_passes_98 m0 n i m) ∧ lf_X5_letDepart_2 c0 n i c 26 = c 26 ∧ lf_X5_letDepart_2 c0 n i c 1 = c 1 ∧ (∀ k, ¬ c 22 k = 0 → ¬ lf_X5_letDepart_2 c0 n i c 22 k = 0) ∧ (∀ k, i ≤ k → k < N 6 → lf_X5_letDepart_2 c0 n i c 22 k = 0 → ¬ c 26 k = c 1 0) := by
  intro n
  induction n with
  | zero => intro i c m hi h; exact ⟨h, rfl, rfl, fun _ z => z, fun k a b => absurd h.2.1.2.2.2.2.1 (by omega)⟩
  | succ n ih =>
    intro i c m hi h
    have hc := h.2.1
    have h60 := hc.2.2.2.2.1
    simp only [lf_X5_letDepart_2, lf_passes_98]
    rw [hc.1.2.2.1, hc.2.1.2.2.1]
    by_cases e0 : nI (N 6) ≤ nI i
    · rw [if_pos e0, if_pos e0]
      have hiM : N 6 ≤ i := (nI_leI (by omega) (by omega)).mp e0
      exact ⟨h, rfl, rfl, fun _ z => z, fun k a b => absurd b (by omega)⟩
    · rw [if_neg e0, if_neg e0]
      have hiM : i < N 6 := m_lt rfl e0 (by omega) (by omega)
      rw [nI_clamp (by omega), ← h.1 22 rfl, ← h.1 26 rfl, ← h.1 1 rfl]
      by_cases e1 : c 22 i = 0
      · rw [if_pos e1, if_pos e1]
        by_cases e2 : c 26 i = c 1 0
        · have er : q_X5_reasonAtDeparture c (nI i) (c 1 0) = q_reasonOf m (nI i) (m 1 0) := by rw [e_reason h.1 (by rw [hc.1.2.2.1, hc.2.1.2.2.1]), h.1 1 rfl]
          rw [if_pos e2, if_pos e2, er]
          by_cases e3 : q_reasonOf m (nI i) (m 1 0) = 0
          · rw [if_pos e3]
            obtain ⟨k1, k22, k26, kn⟩ := RB_sail h hiM e1 (by rw [e3]; decide)
            obtain ⟨j1, j2, j3, j4, j5⟩ := ih (i + 1) _ _ (by omega) k1
            refine ⟨j1, j2.trans k26, j3.trans kn, fun k hk => j4 k (by rw [k22, st_at]; split; decide; exact hk), fun k a b z => ?_⟩
            by_cases e : k = i
            · subst e
              exact absurd z (j4 k (by rw [k22, st_self]; decide))
            · have := j5 k (by omega) b z
              rw [k26, kn] at this; exact this
          · rw [if_neg e3]
            have hne : ¬ q_reasonOf m (nI i) (m 1 0) ≤ 0 := (reason_vals _ _ _).resolve_left e3
            have ed : s_depart m (nI i) = s_cancel m (nI i) (q_reasonOf m (nI i) (m 1 0)) := if_neg hne
            rw [ed]
            obtain ⟨k1, kf⟩ := RB_cancel h hiM e1 (q_reasonOf m (nI i) (m 1 0))
            have k22 := cancel_22 h hiM e1 (q_reasonOf m (nI i) (m 1 0))
            have k26 := kf 26 (by decide)
            have kn := kf 1 (by decide)
            obtain ⟨j1, j2, j3, j4, j5⟩ := ih (i + 1) _ _ (by omega) k1
            refine ⟨j1, j2.trans k26, j3.trans kn, fun k hk => j4 k (by rw [k22, st_at]; split; decide; exact hk), fun k a b z => ?_⟩
            by_cases e : k = i
            · subst e
              exact absurd z (j4 k (by rw [k22, st_self]; decide))
            · have := j5 k (by omega) b z
              rw [k26, kn] at this; exact this
        · rw [if_neg e2, if_neg e2]
          obtain ⟨j1, j2, j3, j4, j5⟩ := ih (i + 1) _ _ (by omega) h
          refine ⟨j1, j2, j3, j4, fun k a b z => ?_⟩
          by_cases e : k = i
          · subst e; exact e2
          · exact j5 k (by omega) b z
      · rw [if_neg e1, if_neg e1]
        obtain ⟨j1, j2, j3, j4, j5⟩ := ih (i + 1) _ _ (by omega) h
        refine ⟨j1, j2, j3, j4, fun k a b z => ?_⟩
        by_cases e : k = i
        · subst e; exact absurd z (j4 k e1)
        · exact j5 k (by omega) b z
/-- the decision of the day -/
theorem dec_loop {N : Nat → Nat} {c0 m0 : St} : ∀ (n i : Nat) (c m : St), i + n = 61 → RB N c m → m 1 0 - m 1 0 / 1440 * 1440 = 300 → RB N (lf_X5_decideTheDay_2 c0 n i c) (lf_passes_63 m0 n i m) ∧ lf_X5_decideTheDay_2 c0 n i c 26 = c 26 ∧ lf_X5_decideTheDay_2 c0 n i c 1 = c 1 := by
  intro n
  induction n with
  | zero => intro i c m hi h _; exact ⟨h, rfl, rfl⟩
  | succ n ih =>
    intro i c m hi h ht
    have hc := h.2.1
    have h60 := hc.2.2.2.2.1
    simp only [lf_X5_decideTheDay_2, lf_passes_63]
    rw [hc.1.2.2.1, hc.2.1.2.2.1]
    by_cases e0 : nI (N 6) ≤ nI i
    · rw [if_pos e0, if_pos e0]; exact ⟨h, rfl, rfl⟩
    · rw [if_neg e0, if_neg e0, if_pos ht]
      have hiM : i < N 6 := m_lt rfl e0 (by omega) (by omega)
      unfold s_decide
      rw [nI_clamp (by omega), ← h.1 22 rfl, ← h.1 26 rfl, ← h.1 1 rfl, e_decide h.1]
      by_cases e1 : c 22 i = 0
      · rw [if_pos e1, if_pos e1]
        by_cases e2 : c 26 i / 1440 = c 1 0 / 1440
        · rw [if_pos e2, if_pos e2, if_neg (show ¬ (1 : Int32) = 0 by decide)]
          by_cases e3 : k96t0_decide m (nI i) = 0
          · rw [if_pos e3, if_pos (show k96t0_decide m (nI i) ≤ 0 by rw [e3]; decide)]
            exact ih (i + 1) _ _ (by omega) h ht
          · rw [if_neg e3, if_neg ((decide_vals _ _).resolve_left e3)]
            obtain ⟨k1, kf⟩ := RB_cancel h hiM e1 (k96t0_decide m (nI i))
            have kn := kf 1 (by decide)
            obtain ⟨j1, j2, j3⟩ := ih (i + 1) _ _ (by omega) k1 (by rw [← k1.1 1 rfl, kn, h.1 1 rfl]; exact ht)
            exact ⟨j1, j2.trans (kf 26 (by decide)), j3.trans kn⟩
        · rw [if_neg e2, if_neg e2, if_pos rfl]
          exact ih (i + 1) _ _ (by omega) h ht
      · rw [if_neg e1, if_neg e1]
        exact ih (i + 1) _ _ (by omega) h ht
