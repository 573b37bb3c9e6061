/-! a booking told: both sides alike -/
theorem filt_cong {p q : Nat → Bool} {L : List Nat} (h : ∀ b, b ∈ L → p b = q b) : L.filter p = L.filter q := List.filter_congr h
theorem off_cong {p q : Nat → Bool} {L : List Nat} (h : ∀ b, b ∈ L → p b = q b) : offL p L = offL q L := by
  unfold offL
  rw [filt_cong h, filt_cong (p := fun b => !p b) (q := fun b => !q b) (fun b hb => by rw [h b hb])]
theorem RB_book {N : Nat → Nat} {c m m' : St} (h : RB N c m) (h8 : N 8 < 100) {s k l w d u o : Int32} (hs : vp_in s (N 6)) (hd : ¬ d < 0) (hm' : m' = st (st (st (st (st (st (st (st (st (s_refused m 0) 36 (N 8) s) 37 (N 8) k) 38 (N 8) l) 39 (N 8) w) 40 (N 8) d) 41 (N 8) u) 42 (N 8) o) 45 (N 8) (-1)) 34 0 (nI (N 8 + 1))) : RB (Nn N 8) (s_X5_book N c s k l w d u o) m' := by
  obtain ⟨h1, h2, h3, k4, k5, k6, k7⟩ := id h
  obtain ⟨d1, d2, d3, d4, d5⟩ := id k7
  have d5n := d5 (N 8) (Nat.le_refl _)
  generalize hc' : s_X5_book N c s k l w d u o = c'
  have lf8 : lof 8 = 3 := rfl
  have nf : ∀ g, g ∉ [35, 36, 37, 38, 39, 40, 41, 42, 43, 44, 45, 52, 54, 55] → c' g = c g := fun g hg => by
    simp only [List.mem_cons, List.not_mem_nil, or_false, not_or] at hg
    rw [← hc']
    unfold s_X5_book m_X5_book
    repeat rw [st_nf _ _ _ (by omega)]
  have old : ∀ g n, n < N 8 → g ≠ 52 → g ≠ 54 → c' g n = c g n := fun g n hn g52 g54 => by
    rw [← hc']
    unfold s_X5_book m_X5_book
    repeat rw [st_at, if_neg (by omega)]
  have late : ∀ g n, N 8 + 1 ≤ n → g ≠ 52 → g ≠ 54 → c' g n = c g n := fun g n hn g52 g54 => by
    rw [← hc']
    unfold s_X5_book m_X5_book
    repeat rw [st_at, if_neg (by omega)]
  have o54 : ∀ q, q ≠ 3 → c' 54 q = c 54 q := fun q q2 => by
    rw [← hc']
    unfold s_X5_book m_X5_book
    rw [lf8]
    repeat rw [st_at, if_neg (by omega)]
  have c543 : c' 54 3 = nI (N 8 + 1) := by rw [← hc']; unfold s_X5_book; exact st_self _ _ _ _
  have hv : c' 35 (N 8) = 0 ∧ c' 36 (N 8) = s ∧ c' 40 (N 8) = d ∧ c' 55 (N 8) = c 54 3 := by
    rw [← hc']
    unfold s_X5_book m_X5_book
    simp [st_at]
  obtain ⟨v35, v36, v40, v55⟩ := hv
  have mf : ∀ g, g ∉ [0, 34, 36, 37, 38, 39, 40, 41, 42, 45] → m' g = m g := fun g hg => by
    simp only [List.mem_cons, List.not_mem_nil, or_false, not_or] at hg
    rw [hm']
    unfold s_refused
    repeat rw [st_nf _ _ _ (by omega)]
  have hE : EQ c' m' := by
    rw [← hc', hm']
    unfold s_X5_book m_X5_book
    refine EQ_r (EQ_l (EQ_l (EQ_l ?_ rfl) rfl) rfl) rfl
    have z : ∀ {X Y : St} {g j : Nat}, EQ X Y → sh g = true → Y g j = 0 → EQ (st X g j 0) Y := fun {X Y g j} hx hg hy => by
      have := EQ_st (f := g) (j := j) (v := 0) hx
      rwa [st_same (c := Y) hy] at this
    refine EQ_st ?_
    have ea : ∀ g, g = 35 ∨ g = 43 ∨ g = 44 → (st (st (st (st (st (st (st (s_refused m 0) 36 (N 8) s) 37 (N 8) k) 38 (N 8) l) 39 (N 8) w) 40 (N 8) d) 41 (N 8) u) 42 (N 8) o) g = c g := fun g hg => by
      rw [h1 g (by rcases hg with rfl | rfl | rfl <;> rfl)]
      unfold s_refused
      repeat rw [st_nf _ _ _ (by omega)]
    refine z (z (z ?_ rfl (by rw [ea 35 (by decide)]; exact d5n.1)) rfl (by rw [ea 44 (by decide)]; exact d5n.2.2)) rfl (by rw [ea 43 (by decide)]; exact d5n.2.1)
    exact EQ_st (EQ_st (EQ_st (EQ_st (EQ_st (EQ_st (EQ_st (EQ_l (EQ_w h1) rfl)))))))
  have s4 : Nn N 8 4 = N 4 := Nn_o (by decide)
  have s5 : Nn N 8 5 = N 5 := Nn_o (by decide)
  have s6 : Nn N 8 6 = N 6 := Nn_o (by decide)
  have hmb : ∀ n x, mb (Nn N 8) c' n x ↔ mb N c n x := fun n x => by
    unfold mb
    rw [Nn_s]
    by_cases e : x = N 8
    · subst e
      rw [v35]
      exact ⟨fun z => z.2.2.elim (fun w => absurd w (by decide)) (fun w => absurd w (by decide)), fun z => absurd z.1 (Nat.lt_irrefl _)⟩
    · constructor
      · rintro ⟨a1, a2, a3⟩
        have hx : x < N 8 := by omega
        rw [old 36 x hx (by decide) (by decide)] at a2
        rw [old 35 x hx (by decide) (by decide)] at a3
        exact ⟨hx, a2, a3⟩
      · rintro ⟨a1, a2, a3⟩
        rw [old 36 x a1 (by decide) (by decide), old 35 x a1 (by decide) (by decide)]
        exact ⟨by omega, a2, a3⟩
  refine ⟨hE, ?_, fun n hn => ?_, fun x hx => ?_, ?_, fun n hn => ?_, ?_⟩
  · unfold CT
    rw [s4, s5, s6, Nn_s, o54 0 (by decide), o54 1 (by decide), o54 2 (by decide), c543, mf 2 (by decide), mf 12 (by decide), mf 21 (by decide)]
    refine ⟨⟨h2.1.1, h2.1.2.1, h2.1.2.2.1, rfl⟩, ⟨h2.2.1.1, h2.2.1.2.1, h2.2.1.2.2.1, ?_⟩, h2.2.2.1, h2.2.2.2.1, h2.2.2.2.2.1, by omega⟩
    rw [hm']; exact st_self _ _ _ _
  · rw [s6] at hn
    obtain ⟨⟨L, hL⟩, hD⟩ := h3 n hn
    obtain ⟨l1, l2, ⟨l4, l5, l30, l50⟩, lc, lo⟩ := hL
    have hlor : ∀ b, b ∈ L → lor c' b = lor c b := fun b hb => by
      unfold lor
      rw [old 42 b ((l1 b).mp hb).1 (by decide) (by decide)]
    refine ⟨⟨L, fun x => (l1 x).trans (hmb n x).symm, l2, ⟨?_, ?_, ?_, ?_⟩, fun i x hx => ?_, fun i x hx => ?_⟩, fun x hx => ?_, ?_⟩
    · rw [o54 _ (by omega)]; exact l4
    · rw [o54 _ (by omega)]; exact l5
    · rw [mf 30 (by decide)]; exact l30
    · rw [nf 50 (by decide), filt_cong hlor]; exact l50
    · rw [nf _ (by simp only [List.mem_cons, List.not_mem_nil, or_false, not_or]; omega), mf 46 (by decide)]; exact lc i x hx
    · rw [off_cong hlor] at hx
      rw [nf _ (by simp only [List.mem_cons, List.not_mem_nil, or_false, not_or]; omega)]; exact lo i x hx
    · have hb := (hmb n x).mp hx
      rw [old 40 x hb.1 (by decide) (by decide), nf 51 (by decide)]; exact hD.1 x hb
    · rw [nf 51 (by decide)]
      rcases hD.2 with z | ⟨x, hx, z⟩
      · exact Or.inl z
      · exact Or.inr ⟨x, (hmb n x).mpr hx, by rw [old 40 x hx.1 (by decide) (by decide)]; exact z⟩
  · rw [Nn_s] at hx
    rw [nf 22 (by decide)]
    by_cases e : x = N 8
    · subst e
      rw [v35]
      exact ⟨fun z => absurd z (by decide), fun z => absurd z (by decide)⟩
    · have hx8 : x < N 8 := by omega
      rw [old 35 x hx8 (by decide) (by decide), old 36 x hx8 (by decide) (by decide)]; exact k4 x hx8
  · obtain ⟨r1, r2, r3, r4⟩ := k5
    unfold RQ
    rw [s4, s5, s6, Nn_s, nf 23 (by decide), nf 24 (by decide), nf 25 (by decide)]
    refine ⟨fun x hx => ?_, r2, fun x hx => ?_, fun x => ?_⟩
    · by_cases e : x = N 8
      · subst e; rw [v36]; exact hs
      · rw [old 36 x (by omega) (by decide) (by decide)]; exact r1 x (by omega)
    · by_cases e : x = N 8
      · subst e; rw [v55]; exact h2.1.2.2.2
      · rw [old 55 x (by omega) (by decide) (by decide)]; exact r3 x (by omega)
    · by_cases e : x = N 8
      · subst e; rw [v40]; exact hd
      · by_cases e2 : x < N 8
        · rw [old 40 x e2 (by decide) (by decide)]; exact r4 x
        · rw [late 40 x (by omega) (by decide) (by decide)]; exact r4 x
  · rw [s6] at hn
    rw [nf 22 (by decide), nf 26 (by decide), nf 1 (by decide)]; exact k6 n hn
  · unfold DF
    rw [s4, s5, s6, Nn_s, nf 7 (by decide), nf 8 (by decide), nf 9 (by decide), nf 10 (by decide), nf 11 (by decide), nf 20 (by decide), nf 22 (by decide), nf 29 (by decide), nf 31 (by decide), mf 30 (by decide), nf 32 (by decide), nf 33 (by decide)]
    refine ⟨d1, d2, d3, d4, fun n hn => ?_⟩
    rw [late 35 n hn (by decide) (by decide), late 43 n hn (by decide) (by decide), late 44 n hn (by decide) (by decide)]
    exact d5 n (by omega)
theorem both_book {N : Nat → Nat} {t : Nat} {c m : St} (h : RF N t c m) (s k l w d u o : Int32) (hu : isB u) (ho : isB o) : s_book m s k l w d u o 0 0 = kA (t_X5_book c s k l w d u o) ∧ (t_X5_book c s k l w d u o = 0 → q_book m s k l w d u o = nI (N 8) ∧ RF (Nn N 8) t (s_X5_book N c s k l w d u o) (s_book m s k l w d u o)) ∧ (¬ t_X5_book c s k l w d u o = 0 → RF N t c (s_book m s k l w d u o)) := by
  have hc := h.1.2.1
  have h100 := hc.2.2.2.2.2
  have h60 := hc.2.2.2.2.1
  have e8 : nI (N 8) < 100 ↔ ¬ nI (N 8) = 100 := lt_ne h100 (by decide)
  have ew : k105t0_book m s k l w d u o = kA (t_X5_book c s k l w d u o) := by
    unfold k105t0_book k61t0_book t_X5_book
    rw [isS hc, in_02]
    simp only [in_iff2]
    rw [hc.1.2.2.2, hc.2.1.2.2.2, h.1.1 22 rfl]
    by_cases p0 : ¬ s < 0 ∧ s < c 54 2
    case neg => simp only [if_neg p0]; rfl
    by_cases p1 : ¬ k < 0 ∧ k < 3
    case neg => simp only [if_pos p0, if_neg p1]; rfl
    by_cases p2 : ¬ l < 1 ∧ l ≤ 30
    case neg => simp only [if_pos p0, if_pos p1, if_neg p2]; rfl
    by_cases p3 : ¬ w < 1 ∧ w ≤ 1000
    case neg => simp only [if_pos p0, if_pos p1, if_pos p2, if_neg p3]; rfl
    by_cases p4 : ¬ d < 0 ∧ d ≤ 3
    case neg => simp only [if_pos p0, if_pos p1, if_pos p2, if_pos p3, if_neg p4]; rfl
    simp only [if_pos p0, if_pos p1, if_pos p2, if_pos p3, if_pos p4]
    by_cases p5 : m 22 s.toNatClampNeg = 0
    · rw [if_pos p5, if_pos p5]
      by_cases p7 : nI (N 8) = 100
      · rw [if_pos p7, if_neg (fun z => e8.mp z p7)]; rfl
      · rw [if_neg p7, if_pos (e8.mpr p7)]; rfl
    · rw [if_neg p5, if_neg p5]
      by_cases p7 : nI (N 8) = 100
      · rw [if_pos p7]; rfl
      · rw [if_neg p7]; rfl
  by_cases h0 : t_X5_book c s k l w d u o = 0
  · have ew0 : k105t0_book m s k l w d u o = 0 := by rw [ew, h0]; rfl
    have ht0 := h0
    unfold t_X5_book at h0
    have p0 : ¬ s < 0 ∧ s < c 54 2 := Classical.byContradiction fun z => by rw [if_neg z] at h0; exact absurd h0 (by decide)
    rw [if_pos p0] at h0
    have p1 : ¬ k < 0 ∧ k < 3 := Classical.byContradiction fun z => by rw [if_neg z] at h0; exact absurd h0 (by decide)
    rw [if_pos p1] at h0
    have p2 : ¬ l < 1 ∧ l ≤ 30 := Classical.byContradiction fun z => by rw [if_neg z] at h0; exact absurd h0 (by decide)
    rw [if_pos p2] at h0
    have p3 : ¬ w < 1 ∧ w ≤ 1000 := Classical.byContradiction fun z => by rw [if_neg z] at h0; exact absurd h0 (by decide)
    rw [if_pos p3] at h0
    have p4 : ¬ d < 0 ∧ d ≤ 3 := Classical.byContradiction fun z => by rw [if_neg z] at h0; exact absurd h0 (by decide)
    rw [if_pos p4] at h0
    have p5 : c 22 s.toNatClampNeg = 0 := Classical.byContradiction fun z => by rw [if_neg z] at h0; exact absurd h0 (by decide)
    rw [if_pos p5, hc.1.2.2.2] at h0
    have p6 : nI (N 8) < 100 := Classical.byContradiction fun z => by rw [if_neg z] at h0; exact absurd h0 (by decide)
    have hroom : N 8 < 100 := (nI_ltI (by omega) (by decide)).mp (show nI (N 8) < nI 100 from p6)
    have h8t : (m 34 0).toNatClampNeg = N 8 := by rw [hc.2.1.2.2.2, nI_clamp (by omega)]
    have es : s_book m s k l w d u o = st (st (st (st (st (st (st (st (st (s_refused m 0) 36 (N 8) s) 37 (N 8) k) 38 (N 8) l) 39 (N 8) w) 40 (N 8) d) 41 (N 8) u) 42 (N 8) o) 45 (N 8) (-1)) 34 0 (nI (N 8 + 1)) := by
      unfold s_book; simp only [rf_if]; rw [ew0, if_pos rfl, h8t, nar_B hu, nar_B ho, hc.2.1.2.2.2, nI_1]
    refine ⟨?_, fun _ => ⟨?_, ?_⟩, fun z => absurd ht0 z⟩
    · rw [ht0, es, st_nf _ _ _ (by decide), st_nf _ _ _ (by decide), st_nf _ _ _ (by decide), st_nf _ _ _ (by decide), st_nf _ _ _ (by decide), st_nf _ _ _ (by decide), st_nf _ _ _ (by decide), st_nf _ _ _ (by decide), st_nf _ _ _ (by decide)]; exact st_self _ _ _ _
    · unfold q_book
      simp only [rf_if]
      rw [if_pos ew0, hc.2.1.2.2.2, nI_1, nI_pred]
    · have key := RB_book h.1 hroom (s := s) (k := k) (l := l) (w := w) (d := d) (u := u) (o := o) (num_in p0 hc.1.2.2.1 (by omega)) p4.1 es
      have cf : ∀ g, g = 22 ∨ g = 26 ∨ g = 1 → s_X5_book N c s k l w d u o g = c g := fun g hg => by
        unfold s_X5_book m_X5_book
        repeat rw [st_nf _ _ _ (by omega)]
      exact ⟨key, FS_of h.2.1 (Nn_o (by decide)) (cf 22 (by decide)) (cf 26 (by decide)) (cf 1 (by decide)), by rw [cf 1 (by decide)]; exact h.2.2⟩
  · have hw : ¬ k105t0_book m s k l w d u o = 0 := by rw [ew]; exact kA_ne h0
    have es : s_book m s k l w d u o = s_refused m (kA (t_X5_book c s k l w d u o)) := by
      unfold s_book; simp only [rf_if]; rw [if_neg hw, ew]
    refine ⟨?_, fun z => absurd z h0, fun _ => by rw [es]; exact RF_rf h _⟩
    rw [es]; exact st_self _ _ _ _
/-! what state a sailing is in, where objects are told -/
theorem VS_pier {N : Nat → Nat} {c : St} (h : VS c) (a b d e : Int32) : VS (s_X5_pier N c a b d e) := VS_of h (by
  unfold s_X5_pier m_X5_pier
  repeat rw [st_nf _ _ _ (by decide)])
theorem VS_boat {N : Nat → Nat} {c : St} (h : VS c) (a b d e f g i : Int32) : VS (s_X5_boat N c a b d e f g i) := VS_of h (by
  unfold s_X5_boat m_X5_boat
  repeat rw [st_nf _ _ _ (by decide)])
theorem VS_book {N : Nat → Nat} {c : St} (h : VS c) (a b d e f g i : Int32) : VS (s_X5_book N c a b d e f g i) := VS_of h (by
  unfold s_X5_book m_X5_book
  repeat rw [st_nf _ _ _ (by decide)])
theorem VS_sailing {N : Nat → Nat} {c : St} (h : VS c) (a b d e f g : Int32) : VS (s_X5_sailing N c a b d e f g) := VS_of (VS_22 h (j := N 6) (v := 0) (by decide)) (by
  unfold s_X5_sailing m_X5_sailing
  rw [st_nf _ _ _ (by decide), st_nf _ _ _ (by decide), st_nf _ _ _ (by decide), st_nf _ _ _ (by decide), st_nf _ _ _ (by decide), st_nf _ _ _ (by decide), st_nf _ _ _ (by decide), st_nf _ _ _ (by decide), st_nf _ _ _ (by decide), st_nf _ _ _ (by decide), st_nf _ _ _ (by decide), st_nf _ _ _ (by decide)]
  exact st_col (by repeat rw [st_nf _ _ _ (by decide)]))
