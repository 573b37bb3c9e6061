/-! piers, boats, sailings, bookings told: both sides alike -/
theorem mb_N {N N' : Nat → Nat} (e8 : N' 8 = N 8) {c : St} {n : Nat} : ∀ b, mb N' c n b ↔ mb N c n b := fun b => by unfold mb; rw [e8]
theorem LQ_N {N N' : Nat → Nat} {c m : St} {n : Nat} {L : List Nat} (h : LQ N c m n L) (hm : ∀ b, mb N' c n b ↔ mb N c n b) : LQ N' c m n L := ⟨fun x => (h.1 x).trans (hm x).symm, h.2⟩
theorem DQ_N {N N' : Nat → Nat} {c : St} {n : Nat} (h : DQ N c n) (hm : ∀ b, mb N' c n b ↔ mb N c n b) : DQ N' c n :=
  ⟨fun b hb => h.1 b ((hm b).mp hb), h.2.elim Or.inl (fun z => z.elim fun b w => Or.inr ⟨b, (hm b).mpr w.1, w.2⟩)⟩
/-- one more pier or boat -/
theorem RB_k45 {N N' : Nat → Nat} {c m : St} (h : RB N c m) {q f : Nat} {u v w : Int32} {j : Nat} (hq : q < 4) (hf : f = 2 ∨ f = 12) (e8 : N' 8 = N 8) (e6 : N' 6 = N 6) (h4 : N 4 ≤ N' 4) (h5 : N 5 ≤ N' 5) (hct : CT N' (st (st c 52 j u) 54 q v) (st m f 0 w)) : RB N' (st (st c 52 j u) 54 q v) (st m f 0 w) := by
  obtain ⟨h1, h2, h3, k4, k5, k6, k7⟩ := h
  have e : ∀ g, g ≠ 52 → g ≠ 54 → st (st c 52 j u) 54 q v g = c g := fun g a b => by rw [st_nf _ _ _ b, st_nf _ _ _ a]
  have e54 : ∀ n, n ≠ q → st (st c 52 j u) 54 q v 54 n = c 54 n := fun n hn => by rw [st_nj _ _ _ hn, st_nf _ _ _ (by decide)]
  have em : ∀ g, g ≠ 2 → g ≠ 12 → st m f 0 w g = m g := fun g a b => st_nf _ _ _ (by omega)
  refine ⟨EQ_r (EQ_l (EQ_l h1 rfl) rfl) (by rcases hf with rfl | rfl <;> rfl), hct, fun n hn => ?_, fun b hb => ?_, ?_, fun n hn => ?_, ?_⟩
  · rw [e6] at hn
    obtain ⟨⟨L, hL⟩, hD⟩ := h3 n hn
    have hm := mb_to (N := N) (n := n) (e 35 (by decide) (by decide)) (e 36 (by decide) (by decide))
    exact ⟨⟨L, LQ_N (LQ_to hL hm (e54 _ (by omega)) (e54 _ (by omega)) (by rw [e 50 (by decide) (by decide)]) (e 42 (by decide) (by decide)) (e _ (by omega) (by omega)) (e _ (by omega) (by omega)) (by rw [em 30 (by decide) (by decide)]) (fun b _ => by rw [em 46 (by decide) (by decide)])) (mb_N e8)⟩, DQ_N (DQ_to hD hm (e 40 (by decide) (by decide)) (by rw [e 51 (by decide) (by decide)])) (mb_N e8)⟩
  · rw [e8] at hb
    rw [e 35 (by decide) (by decide), e 36 (by decide) (by decide), e 22 (by decide) (by decide)]; exact k4 b hb
  · obtain ⟨r1, r2, r3, r4⟩ := k5
    unfold RQ
    rw [e 36 (by decide) (by decide), e 23 (by decide) (by decide), e 24 (by decide) (by decide), e 25 (by decide) (by decide), e 55 (by decide) (by decide), e 40 (by decide) (by decide), e8, e6]
    exact ⟨r1, fun n hn => ⟨vp_up (r2 n hn).1 h5, vp_up (r2 n hn).2.1 h4, vp_up (r2 n hn).2.2 h4⟩, r3, r4⟩
  · rw [e6] at hn
    rw [e 22 (by decide) (by decide), e 26 (by decide) (by decide), e 1 (by decide) (by decide)]; exact k6 n hn
  · obtain ⟨d1, d2, d3, d4, d5⟩ := k7
    unfold DF
    rw [e 7 (by decide) (by decide), e 8 (by decide) (by decide), e 9 (by decide) (by decide), e 10 (by decide) (by decide), e 11 (by decide) (by decide), e 20 (by decide) (by decide), e 22 (by decide) (by decide), e 29 (by decide) (by decide), e 31 (by decide) (by decide), em 30 (by decide) (by decide), e 32 (by decide) (by decide), e 33 (by decide) (by decide), e 35 (by decide) (by decide), e 43 (by decide) (by decide), e 44 (by decide) (by decide), e8, e6]
    exact ⟨fun n hn => d1 n (by omega), fun n hn => d2 n (by omega), d3, d4, d5⟩
theorem FS_of {N N' : Nat → Nat} {c c' : St} (h : FS N c) (e6 : N' 6 = N 6) (e22 : c' 22 = c 22) (e26 : c' 26 = c 26) (e1 : c' 1 = c 1) : FS N' c' := fun n hn => by
  rw [e6] at hn
  rw [e22, e26, e1]; exact h n hn
theorem RF_free {N : Nat → Nat} {t : Nat} {c m : St} (h : RF N t c m) {f j : Nat} {v : Int32} (hf : f ∈ [3, 4, 5, 6, 13, 14, 15, 16, 17, 18, 19, 27, 28, 37, 38, 39, 41, 45]) : RF N t (st c f j v) (st m f j v) := by
  simp only [List.mem_cons, List.not_mem_nil, or_false] at hf
  refine RF_st h ?_ (by omega) ⟨by omega, by omega, by omega, by omega, by omega⟩
  simp only [List.mem_cons, List.not_mem_nil, or_false, not_or]; omega
theorem both_pier {N : Nat → Nat} {t : Nat} {c m : St} (h : RF N t c m) (depth range phase lit : Int32) (hl : isB lit) : s_pier m depth range phase lit 0 0 = t_X5_pier c depth range phase lit ∧ (t_X5_pier c depth range phase lit = 0 → q_pier m depth range phase lit = nI (N 4) ∧ RF (Nn N 4) t (s_X5_pier N c depth range phase lit) (s_pier m depth range phase lit)) ∧ (¬ t_X5_pier c depth range phase lit = 0 → RF N t c (s_pier m depth range phase lit)) := by
  have hc := h.1.2.1
  have h48 := hc.2.2.1
  have ew : (if k38t0_pier m depth range phase lit = 0 then (1 : Int32) else (if m 2 0 = 8 then 2 else 0)) = t_X5_pier c depth range phase lit := by
    unfold k38t0_pier t_X5_pier
    simp only [in_iff2]
    rw [hc.1.1, hc.2.1.1]
    by_cases p1 : ¬ depth < 0 ∧ depth ≤ 500
    case neg => simp only [if_neg p1]; rfl
    by_cases p2 : ¬ range < 0 ∧ range ≤ 200
    case neg => simp only [if_pos p1, if_neg p2]; rfl
    by_cases p3 : ¬ phase < 0 ∧ phase ≤ 719
    case neg => simp only [if_pos p1, if_pos p2, if_neg p3]; rfl
    simp only [if_pos p1, if_pos p2, if_pos p3]
    have e8 : nI (N 4) < 8 ↔ ¬ nI (N 4) = 8 := lt_ne h48 (by decide)
    by_cases p4 : nI (N 4) = 8
    · rw [if_pos p4, if_neg (fun z => e8.mp z p4)]; rfl
    · rw [if_neg p4, if_pos (e8.mpr p4)]; rfl
  by_cases h0 : t_X5_pier c depth range phase lit = 0
  · have ew0 : (if k38t0_pier m depth range phase lit = 0 then (1 : Int32) else (if m 2 0 = 8 then 2 else 0)) = 0 := by rw [ew, h0]
    have hne : ¬ nI (N 4) = 8 := fun z => by
      rw [← hc.2.1.1] at z
      have := (ifz (by decide) ew0).2
      rw [if_pos z] at this; exact absurd this (by decide)
    have hroom : N 4 < 8 := by
      have := (lt_ne h48 (by decide)).mpr hne
      exact (nI_ltI (by omega) (by decide)).mp this
    have h4t : (m 2 0).toNatClampNeg = N 4 := by rw [hc.2.1.1, nI_clamp (by omega)]
    have es : s_pier m depth range phase lit = st (st (st (st (st (s_refused m 0) 3 (N 4) depth) 4 (N 4) range) 5 (N 4) phase) 6 (N 4) lit) 2 0 (nI (N 4 + 1)) := by
      unfold s_pier; simp only [rf_if]; rw [ew0, if_pos rfl, h4t, nar_B hl, hc.2.1.1, nI_1]
    refine ⟨?_, fun _ => ⟨?_, ?_⟩, fun z => absurd h0 z⟩
    · rw [h0, es, st_nf _ _ _ (by decide), st_nf _ _ _ (by decide), st_nf _ _ _ (by decide), st_nf _ _ _ (by decide), st_nf _ _ _ (by decide)]; exact st_self _ _ _ _
    · unfold q_pier
      simp only [rf_if]
      rw [if_pos ew0, hc.2.1.1, nI_1, nI_pred]
    · rw [es]
      have k := RF_free (f := 6) (j := N 4) (v := lit) (RF_free (f := 5) (j := N 4) (v := phase) (RF_free (f := 4) (j := N 4) (v := range) (RF_free (f := 3) (j := N 4) (v := depth) (RF_rf h 0) (by decide)) (by decide)) (by decide)) (by decide)
      have d := h.1.2.2.2.2.2.2.1 (N 4) (Nat.le_refl _)
      have ec : m_X5_pier N c depth range phase lit = st (st (st (st c 3 (N 4) depth) 4 (N 4) range) 5 (N 4) phase) 6 (N 4) lit := by
        unfold m_X5_pier
        generalize hA : st (st (st (st c 3 (N 4) depth) 4 (N 4) range) 5 (N 4) phase) 6 (N 4) lit = A
        have a : ∀ f, f ≠ 3 ∧ f ≠ 4 ∧ f ≠ 5 ∧ f ≠ 6 → A f = c f := fun f hf => by rw [← hA, st_nf _ _ _ hf.2.2.2, st_nf _ _ _ hf.2.2.1, st_nf _ _ _ hf.2.1, st_nf _ _ _ hf.1]
        rw [st_same (f := 7) (by rw [a 7 (by decide)]; exact d.1), st_same (f := 8) (by rw [a 8 (by decide)]; exact d.2.1), st_same (f := 9) (by rw [a 9 (by decide)]; exact d.2.2.1), st_same (f := 10) (by rw [a 10 (by decide)]; exact d.2.2.2.1), st_same (f := 11) (by rw [a 11 (by decide)]; exact d.2.2.2.2)]
      unfold s_X5_pier
      rw [ec]
      have hck := k.1.2.1
      refine ⟨RB_k45 k.1 (by decide) (Or.inl rfl) (Nn_o (by decide)) (Nn_o (by decide)) (by rw [Nn_s]; omega) (by rw [Nn_o (by decide)]; exact Nat.le_refl _) ?_, FS_of k.2.1 (Nn_o (by decide)) (by rw [st_nf _ _ _ (by decide), st_nf _ _ _ (by decide)]) (by rw [st_nf _ _ _ (by decide), st_nf _ _ _ (by decide)]) (by rw [st_nf _ _ _ (by decide), st_nf _ _ _ (by decide)]), by rw [st_nf _ _ _ (by decide), st_nf _ _ _ (by decide)]; exact k.2.2⟩
      unfold CT
      rw [show lof 4 = 0 from rfl, Nn_s, Nn_o (show (5 : Nat) ≠ 4 by decide), Nn_o (show (6 : Nat) ≠ 4 by decide), Nn_o (show (8 : Nat) ≠ 4 by decide), st_self, st_nj _ _ _ (show (1 : Nat) ≠ 0 by decide), st_nj _ _ _ (show (2 : Nat) ≠ 0 by decide), st_nj _ _ _ (show (3 : Nat) ≠ 0 by decide), st_nf _ _ _ (show (54 : Nat) ≠ 52 by decide), st_self, st_nf _ _ _ (show (12 : Nat) ≠ 2 by decide), st_nf _ _ _ (show (21 : Nat) ≠ 2 by decide), st_nf _ _ _ (show (34 : Nat) ≠ 2 by decide)]
      exact ⟨⟨rfl, hck.1.2⟩, ⟨rfl, hck.2.1.2⟩, by omega, hck.2.2.2⟩
  · have hw : ¬ (if k38t0_pier m depth range phase lit = 0 then (1 : Int32) else (if m 2 0 = 8 then 2 else 0)) = 0 := by rw [ew]; exact h0
    have es : s_pier m depth range phase lit = s_refused m (t_X5_pier c depth range phase lit) := by
      unfold s_pier; simp only [rf_if]; rw [if_neg hw, ew]
    refine ⟨?_, fun z => absurd z h0, fun _ => by rw [es]; exact RF_rf h _⟩
    rw [es]; exact st_self _ _ _ _
theorem both_boat {N : Nat → Nat} {t : Nat} {c m : St} (h : RF N t c m) (draught length weight trim swell piers home : Int32) : s_boat m draught length weight trim swell piers home 0 0 = kA (t_X5_boat c draught length weight trim swell piers home) ∧ (t_X5_boat c draught length weight trim swell piers home = 0 → q_boat m draught length weight trim swell piers home = nI (N 5) ∧ RF (Nn N 5) t (s_X5_boat N c draught length weight trim swell piers home) (s_boat m draught length weight trim swell piers home)) ∧ (¬ t_X5_boat c draught length weight trim swell piers home = 0 → RF N t c (s_boat m draught length weight trim swell piers home)) := by
  have hc := h.1.2.1
  have h56 := hc.2.2.2.1
  have ew : k112t0_boat m draught length weight trim swell piers home = kA (t_X5_boat c draught length weight trim swell piers home) := by
    unfold k112t0_boat k73t0_boat t_X5_boat
    rw [isP hc]
    simp only [in_iff2]
    rw [hc.1.2.1, hc.2.1.2.1]
    by_cases p0 : ¬ home < 0 ∧ home < c 54 0
    case neg => simp only [if_neg p0]; rfl
    by_cases p1 : ¬ draught < 1 ∧ draught ≤ 500
    case neg => simp only [if_pos p0, if_neg p1]; rfl
    by_cases p2 : ¬ length < 1 ∧ length ≤ 200
    case neg => simp only [if_pos p0, if_pos p1, if_neg p2]; rfl
    by_cases p3 : ¬ weight < 1 ∧ weight ≤ 10000
    case neg => simp only [if_pos p0, if_pos p1, if_pos p2, if_neg p3]; rfl
    by_cases p4 : ¬ trim < 0 ∧ trim ≤ 10000
    case neg => simp only [if_pos p0, if_pos p1, if_pos p2, if_pos p3, if_neg p4]; rfl
    by_cases p5 : ¬ swell < 0 ∧ swell ≤ 9
    case neg => simp only [if_pos p0, if_pos p1, if_pos p2, if_pos p3, if_pos p4, if_neg p5]; rfl
    by_cases p6 : ¬ piers < 0 ∧ piers ≤ 255
    case neg => simp only [if_pos p0, if_pos p1, if_pos p2, if_pos p3, if_pos p4, if_pos p5, if_neg p6]; rfl
    simp only [if_pos p0, if_pos p1, if_pos p2, if_pos p3, if_pos p4, if_pos p5, if_pos p6]
    have e8 : nI (N 5) < 6 ↔ ¬ nI (N 5) = 6 := lt_ne h56 (by decide)
    by_cases p7 : nI (N 5) = 6
    · rw [if_pos p7, if_neg (fun z => e8.mp z p7)]; rfl
    · rw [if_neg p7, if_pos (e8.mpr p7)]; rfl
  by_cases h0 : t_X5_boat c draught length weight trim swell piers home = 0
  · have ew0 : k112t0_boat m draught length weight trim swell piers home = 0 := by rw [ew, h0]; rfl
    have hne : ¬ nI (N 5) = 6 := fun z => by
      rw [← hc.2.1.2.1] at z
      unfold k112t0_boat at ew0
      have := (ifz (by decide) (ifz (by decide) ew0).2).2
      rw [if_pos z] at this; exact absurd this (by decide)
    have hroom : N 5 < 6 := by
      have := (lt_ne h56 (by decide)).mpr hne
      exact (nI_ltI (by omega) (by decide)).mp this
    have h5t : (m 12 0).toNatClampNeg = N 5 := by rw [hc.2.1.2.1, nI_clamp (by omega)]
    have es : s_boat m draught length weight trim swell piers home = st (st (st (st (st (st (st (st (s_refused m 0) 13 (N 5) draught) 14 (N 5) length) 15 (N 5) weight) 16 (N 5) trim) 17 (N 5) swell) 18 (N 5) piers) 19 (N 5) home) 12 0 (nI (N 5 + 1)) := by
      unfold s_boat; simp only [rf_if]; rw [ew0, if_pos rfl, h5t, hc.2.1.2.1, nI_1]
    refine ⟨?_, fun _ => ⟨?_, ?_⟩, fun z => absurd h0 z⟩
    · rw [h0, es, st_nf _ _ _ (by decide), st_nf _ _ _ (by decide), st_nf _ _ _ (by decide), st_nf _ _ _ (by decide), st_nf _ _ _ (by decide), st_nf _ _ _ (by decide), st_nf _ _ _ (by decide), st_nf _ _ _ (by decide)]; exact st_self _ _ _ _
    · unfold q_boat
      simp only [rf_if]
      rw [if_pos ew0, hc.2.1.2.1, nI_1, nI_pred]
    · rw [es]
      have k := RF_free (f := 19) (j := N 5) (v := home) (RF_free (f := 18) (j := N 5) (v := piers) (RF_free (f := 17) (j := N 5) (v := swell) (RF_free (f := 16) (j := N 5) (v := trim) (RF_free (f := 15) (j := N 5) (v := weight) (RF_free (f := 14) (j := N 5) (v := length) (RF_free (f := 13) (j := N 5) (v := draught) (RF_rf h 0) (by decide)) (by decide)) (by decide)) (by decide)) (by decide)) (by decide)) (by decide)
      have d := h.1.2.2.2.2.2.2.2.1 (N 5) (Nat.le_refl _)
      have ec : st (m_X5_boat N c draught length weight trim swell piers home) 19 (N 5) home = st (st (st (st (st (st (st c 13 (N 5) draught) 14 (N 5) length) 15 (N 5) weight) 16 (N 5) trim) 17 (N 5) swell) 18 (N 5) piers) 19 (N 5) home := by
        unfold m_X5_boat
        generalize hA : st (st (st (st (st (st c 13 (N 5) draught) 14 (N 5) length) 15 (N 5) weight) 16 (N 5) trim) 17 (N 5) swell) 18 (N 5) piers = A
        have a : A 20 = c 20 := by rw [← hA, st_nf _ _ _ (by decide), st_nf _ _ _ (by decide), st_nf _ _ _ (by decide), st_nf _ _ _ (by decide), st_nf _ _ _ (by decide), st_nf _ _ _ (by decide)]
        rw [st_same (f := 20) (by rw [st_nf _ _ _ (by decide), a]; exact d), st_st]
      unfold s_X5_boat
      rw [ec]
      have hck := k.1.2.1
      refine ⟨RB_k45 k.1 (by decide) (Or.inr rfl) (Nn_o (by decide)) (Nn_o (by decide)) (by rw [Nn_o (by decide)]; exact Nat.le_refl _) (by rw [Nn_s]; omega) ?_, FS_of k.2.1 (Nn_o (by decide)) (by rw [st_nf _ _ _ (by decide), st_nf _ _ _ (by decide)]) (by rw [st_nf _ _ _ (by decide), st_nf _ _ _ (by decide)]) (by rw [st_nf _ _ _ (by decide), st_nf _ _ _ (by decide)]), by rw [st_nf _ _ _ (by decide), st_nf _ _ _ (by decide)]; exact k.2.2⟩
      unfold CT
      rw [show lof 5 = 1 from rfl, Nn_s, Nn_o (show (4 : Nat) ≠ 5 by decide), Nn_o (show (6 : Nat) ≠ 5 by decide), Nn_o (show (8 : Nat) ≠ 5 by decide), st_self, st_nj _ _ _ (show (0 : Nat) ≠ 1 by decide), st_nj _ _ _ (show (2 : Nat) ≠ 1 by decide), st_nj _ _ _ (show (3 : Nat) ≠ 1 by decide), st_nf _ _ _ (show (54 : Nat) ≠ 52 by decide), st_self, st_nf _ _ _ (show (2 : Nat) ≠ 12 by decide), st_nf _ _ _ (show (21 : Nat) ≠ 12 by decide), st_nf _ _ _ (show (34 : Nat) ≠ 12 by decide)]
      exact ⟨⟨hck.1.1, rfl, hck.1.2.2⟩, ⟨hck.2.1.1, rfl, hck.2.1.2.2⟩, hck.2.2.1, by omega, hck.2.2.2.2⟩
  · have hw : ¬ k112t0_boat m draught length weight trim swell piers home = 0 := by rw [ew]; exact kA_ne h0
    have es : s_boat m draught length weight trim swell piers home = s_refused m (kA (t_X5_boat c draught length weight trim swell piers home)) := by
      unfold s_boat; simp only [rf_if]; rw [if_neg hw, ew]
    refine ⟨?_, fun z => absurd z h0, fun _ => by rw [es]; exact RF_rf h _⟩
    rw [es]; exact st_self _ _ _ _
