/-! a sailing told: both sides alike -/
theorem RB_sailing {N : Nat → Nat} {c m m' : St} (hN : KN N) (h : RB N c m) (h6 : N 6 < 60) {b f o a d l : Int32} (hb : vp_in b (N 5)) (hf : vp_in f (N 4)) (ho : vp_in o (N 4)) (hnow : ¬ c 1 0 + a < c 1 0) (hm' : m' = st (st (st (st (st (st (st (s_refused m 0) 23 (N 6) b) 24 (N 6) f) 25 (N 6) o) 26 (N 6) (m 1 0 + a)) 27 (N 6) d) 28 (N 6) l) 21 0 (nI (N 6 + 1))) : RB (Ns N) (s_X5_sailing N c b f o a d l) m' := by
  obtain ⟨n0, n4, n5, n6, n8, n7, n1, n2, n3⟩ := id hN
  obtain ⟨h1, h2, h3, k4, k5, k6, k7⟩ := id h
  obtain ⟨d1, d2, d3, d4, d5⟩ := id k7
  have d3n := d3 (N 6) (Nat.le_refl _)
  have d4a := d4 (N 7) (by omega)
  have d4b := d4 (N 7 + 1) (by omega)
  generalize hc' : s_X5_sailing N c b f o a d l = c'
  have nf : ∀ g, g ∉ [22, 23, 24, 25, 26, 27, 28, 29, 31, 32, 33, 50, 51, 52, 54] → c' g = c g := fun g hg => by
    simp only [List.mem_cons, List.not_mem_nil, or_false, not_or] at hg
    rw [← hc']
    unfold s_X5_sailing m_X5_sailing
    repeat rw [st_nf _ _ _ (by omega)]
  have old : ∀ g n, n < N 6 → g ≠ 52 → g ≠ 54 → c' g n = c g n := fun g n hn g52 g54 => by
    rw [← hc']
    unfold s_X5_sailing m_X5_sailing
    repeat rw [st_at, if_neg (by omega)]
  have late : ∀ g n, N 6 + 1 ≤ n → (g = 22 ∨ g = 29 ∨ g = 31) → c' g n = c g n := fun g n hn hg => by
    rw [← hc']
    unfold s_X5_sailing m_X5_sailing
    repeat rw [st_at, if_neg (by omega)]
  have late2 : ∀ g n, 2 * N 6 + 2 ≤ n → (g = 32 ∨ g = 33) → c' g n = c g n := fun g n hn hg => by
    rw [← hc']
    unfold s_X5_sailing m_X5_sailing
    repeat rw [st_at, if_neg (by omega)]
  have o54 : ∀ q, q < N 1 → q ≠ 2 → c' 54 q = c 54 q := fun q hq q2 => by
    rw [← hc']
    unfold s_X5_sailing m_X5_sailing
    repeat rw [st_at, if_neg (by omega)]
  have c542 : c' 54 2 = nI (N 6 + 1) := by rw [← hc']; unfold s_X5_sailing; exact st_self _ _ _ _
  have hv : c' 23 (N 6) = b ∧ c' 24 (N 6) = f ∧ c' 25 (N 6) = o ∧ c' 26 (N 6) = c 1 0 + a ∧ c' 50 (N 6) = 0 ∧ c' 51 (N 6) = 0 ∧ c' 22 (N 6) = 0 ∧ c' 54 (N 1) = 0 ∧ c' 54 (N 1 + 1) = 0 := by
    have e1 : ¬ N 1 = 2 := by omega
    have e2 : ¬ N 1 + 1 = 2 := by omega
    rw [← hc']
    unfold s_X5_sailing m_X5_sailing
    simp [st_at, e1, e2]
  obtain ⟨v23, v24, v25, v26, v50, v51, v22, v54, v55⟩ := hv
  have mf : ∀ g, g ∉ [0, 21, 23, 24, 25, 26, 27, 28] → m' g = m g := fun g hg => by
    simp only [List.mem_cons, List.not_mem_nil, or_false, not_or] at hg
    rw [hm']
    unfold s_refused
    repeat rw [st_nf _ _ _ (by omega)]
  have hE : EQ c' m' := by
    rw [← hc', hm']
    have e0 : EQ (st (st (st (st (st (st c 23 (N 6) b) 24 (N 6) f) 25 (N 6) o) 26 (N 6) (c 1 0 + a)) 27 (N 6) d) 28 (N 6) l) (st (st (st (st (st (st (s_refused m 0) 23 (N 6) b) 24 (N 6) f) 25 (N 6) o) 26 (N 6) (m 1 0 + a)) 27 (N 6) d) 28 (N 6) l) := by
      rw [h1 1 rfl]
      exact EQ_st (EQ_st (EQ_st (EQ_st (EQ_st (EQ_st (EQ_w h1))))))
    unfold s_X5_sailing m_X5_sailing
    refine EQ_r (EQ_l (EQ_l ?_ rfl) rfl) rfl
    refine EQ_l (EQ_l (EQ_l (EQ_l ?_ rfl) rfl) rfl) rfl
    refine EQ_tr ?_ e0
    generalize hA : st (st (st (st (st (st c 23 (N 6) b) 24 (N 6) f) 25 (N 6) o) 26 (N 6) (c 1 0 + a)) 27 (N 6) d) 28 (N 6) l = A
    have ea : ∀ g, g ∉ [23, 24, 25, 26, 27, 28] → A g = c g := fun g hg => by
      simp only [List.mem_cons, List.not_mem_nil, or_false, not_or] at hg
      rw [← hA]
      repeat rw [st_nf _ _ _ (by omega)]
    have z : ∀ {X Y : St} {g j : Nat}, EQ X Y → sh g = true → Y g j = 0 → EQ (st X g j 0) Y := fun {X Y g j} hx hg hy => by
      have := EQ_st (f := g) (j := j) (v := 0) hx
      rwa [st_same (c := Y) hy] at this
    have ez : EQ (st (st A 50 (N 6) 0) 51 (N 6) 0) A := EQ_l (EQ_l EQ_rf rfl) rfl
    exact z (z (z (z (z (z (z ez rfl (by rw [ea 22 (by decide)]; exact d3n.1)) rfl (by rw [ea 29 (by decide)]; exact d3n.2.1)) rfl (by rw [ea 31 (by decide)]; exact d3n.2.2.1)) rfl (by rw [ea 32 (by decide)]; exact d4a.1)) rfl (by rw [ea 33 (by decide)]; exact d4a.2)) rfl (by rw [ea 32 (by decide)]; exact d4b.1)) rfl (by rw [ea 33 (by decide)]; exact d4b.2)
  have e35 := nf 35 (by decide)
  have e36 := nf 36 (by decide)
  have hmb : ∀ n x, mb (Ns N) c' n x ↔ mb N c n x := fun n x => by
    unfold mb
    rw [e35, e36, Ns_o (show (8 : Nat) ≠ 6 ∧ (8 : Nat) ≠ 7 ∧ (8 : Nat) ≠ 1 ∧ (8 : Nat) ≠ 2 by decide)]
  have s4 : Ns N 4 = N 4 := Ns_o (by decide)
  have s5 : Ns N 5 = N 5 := Ns_o (by decide)
  have s8 : Ns N 8 = N 8 := Ns_o (by decide)
  refine ⟨hE, ?_, fun n hn => ?_, fun x hx => ?_, ?_, fun n hn => ?_, ?_⟩
  · unfold CT
    rw [s4, s5, s8, Ns_6, o54 0 (by omega) (by decide), o54 1 (by omega) (by decide), c542, o54 3 (by omega) (by decide), mf 2 (by decide), mf 12 (by decide), mf 34 (by decide)]
    refine ⟨⟨h2.1.1, h2.1.2.1, rfl, h2.1.2.2.2⟩, ⟨h2.2.1.1, h2.2.1.2.1, ?_, h2.2.1.2.2.2⟩, n4, n5, by omega, n8⟩
    rw [hm']; exact st_self _ _ _ _
  · rw [Ns_6] at hn
    by_cases e : n = N 6
    · subst e
      have hno : ∀ x, ¬ mb N c (N 6) x := fun x hx => by
        have := vp_lt (k5.1 x hx.1)
        rw [hx.2.1, nI_clamp (by omega)] at this; omega
      refine ⟨⟨[], ⟨fun x => ⟨fun z => absurd z List.not_mem_nil, fun z => absurd ((hmb _ x).mp z) (hno x)⟩, List.nodup_nil, ⟨?_, ?_, ?_, ?_⟩, fun i x hx => ?_, fun i x hx => ?_⟩⟩, fun x hx => absurd ((hmb _ x).mp hx) (hno x), Or.inl v51⟩
      · rw [show 2 * N 6 + 4 = N 1 by omega]; exact v54
      · rw [show 2 * N 6 + 5 = N 1 + 1 by omega]; exact v55
      · rw [mf 30 (by decide)]; exact d3n.2.2.2
      · exact v50
      · cases hx
      · cases hx
    · have hn6 : n < N 6 := by omega
      obtain ⟨⟨L, hL⟩, hD⟩ := h3 n hn6
      have hm := mb_to (N := N) (n := n) e35 e36
      exact ⟨⟨L, LQ_N (LQ_to hL hm (o54 _ (by omega) (by omega)) (o54 _ (by omega) (by omega)) (old 50 n hn6 (by decide) (by decide)) (nf 42 (by decide)) (nf _ (by simp only [List.mem_cons, List.not_mem_nil, or_false, not_or]; omega)) (nf _ (by simp only [List.mem_cons, List.not_mem_nil, or_false, not_or]; omega)) (by rw [mf 30 (by decide)]) (fun x _ => by rw [mf 46 (by decide)])) (mb_N s8)⟩, DQ_N (DQ_to hD hm (nf 40 (by decide)) (old 51 n hn6 (by decide) (by decide))) (mb_N s8)⟩
  · rw [s8] at hx
    rw [e35, e36, old 22 _ (vp_lt (k5.1 x hx)) (by decide) (by decide)]
    exact k4 x hx
  · obtain ⟨r1, r2, r3, r4⟩ := k5
    unfold RQ
    rw [s8, s5, s4, Ns_6, e36, nf 55 (by decide), nf 40 (by decide)]
    refine ⟨fun x hx => vp_up (r1 x hx) (Nat.le_succ _), fun n hn => ?_, r3, r4⟩
    by_cases e : n = N 6
    · subst e
      rw [v23, v24, v25]; exact ⟨hb, hf, ho⟩
    · have hn6 : n < N 6 := by omega
      rw [old 23 n hn6 (by decide) (by decide), old 24 n hn6 (by decide) (by decide), old 25 n hn6 (by decide) (by decide)]; exact r2 n hn6
  · rw [Ns_6] at hn
    rw [nf 1 (by decide)]
    by_cases e : n = N 6
    · subst e
      rw [v26]; exact fun _ => hnow
    · have hn6 : n < N 6 := by omega
      rw [old 22 n hn6 (by decide) (by decide), old 26 n hn6 (by decide) (by decide)]; exact k6 n hn6
  · unfold DF
    rw [s4, s5, s8, Ns_6, nf 7 (by decide), nf 8 (by decide), nf 9 (by decide), nf 10 (by decide), nf 11 (by decide), nf 20 (by decide), mf 30 (by decide), e35, nf 43 (by decide), nf 44 (by decide)]
    refine ⟨d1, d2, fun n hn => ?_, fun n hn => ?_, d5⟩
    · rw [late 22 n hn (by decide), late 29 n hn (by decide), late 31 n hn (by decide)]
      exact d3 n (by omega)
    · rw [late2 32 n (by omega) (by decide), late2 33 n (by omega) (by decide)]
      exact d4 n (by omega)
theorem both_sailing {N : Nat → Nat} {t : Nat} {c m : St} (hN : KN N) (h : RF N t c m) (ht : t < 2 ^ 29) (b f o a d l : Int32) (hl : isB l) : s_sailing m b f o a d l 0 0 = kA (t_X5_sailing c b f o a d l) ∧ (t_X5_sailing c b f o a d l = 0 → q_sailing m b f o a d l = nI (N 6) ∧ RF (Ns N) t (s_X5_sailing N c b f o a d l) (s_sailing m b f o a d l)) ∧ (¬ t_X5_sailing c b f o a d l = 0 → RF N t c (s_sailing m b f o a d l)) := by
  have hc := h.1.2.1
  have h60 := hc.2.2.2.2.1
  have e8 : nI (N 6) < 60 ↔ ¬ nI (N 6) = 60 := lt_ne h60 (by decide)
  have ew : k100t0_sailing m b f o a d l = kA (t_X5_sailing c b f o a d l) := by
    unfold k100t0_sailing k29t0_sailing k65t0_sailing t_X5_sailing
    rw [isBo hc, isP hc, isP hc]
    simp only [in_iff2]
    rw [hc.1.2.2.1, hc.2.1.2.2.1]
    by_cases p0 : ¬ b < 0 ∧ b < c 54 1
    case neg => simp only [if_neg p0]; rfl
    by_cases p1 : ¬ f < 0 ∧ f < c 54 0
    case neg => simp only [if_pos p0, if_neg p1]; rfl
    by_cases p2 : ¬ o < 0 ∧ o < c 54 0
    case neg => simp only [if_pos p0, if_pos p1, if_neg p2]; rfl
    by_cases p3 : f = o
    case pos => simp only [if_pos p0, if_pos p1, if_pos p2, if_pos p3]; rfl
    by_cases p4 : ¬ a < 1 ∧ a ≤ 20000
    case neg => simp only [if_pos p0, if_pos p1, if_pos p2, if_neg p3, if_neg p4]; rfl
    by_cases p5 : ¬ d < 1 ∧ d ≤ 700
    case neg => simp only [if_pos p0, if_pos p1, if_pos p2, if_neg p3, if_pos p4, if_neg p5]; rfl
    simp only [if_pos p0, if_pos p1, if_pos p2, if_neg p3, if_pos p4, if_pos p5]
    by_cases p7 : nI (N 6) = 60
    · rw [if_pos p7, if_neg (fun z => e8.mp z p7)]; rfl
    · rw [if_neg p7, if_pos (e8.mpr p7)]; rfl
  by_cases h0 : t_X5_sailing c b f o a d l = 0
  · have ew0 : k100t0_sailing m b f o a d l = 0 := by rw [ew, h0]; rfl
    have ht0 := h0
    unfold t_X5_sailing at h0
    have p0 : ¬ b < 0 ∧ b < c 54 1 := Classical.byContradiction fun z => by rw [if_neg z] at h0; exact absurd h0 (by decide)
    rw [if_pos p0] at h0
    have p1 : ¬ f < 0 ∧ f < c 54 0 := Classical.byContradiction fun z => by rw [if_neg z] at h0; exact absurd h0 (by decide)
    rw [if_pos p1] at h0
    have p2 : ¬ o < 0 ∧ o < c 54 0 := Classical.byContradiction fun z => by rw [if_neg z] at h0; exact absurd h0 (by decide)
    rw [if_pos p2] at h0
    have p3 : ¬ f = o := fun z => by rw [if_pos z] at h0; exact absurd h0 (by decide)
    rw [if_neg p3] at h0
    have p4 : ¬ a < 1 ∧ a ≤ 20000 := Classical.byContradiction fun z => by rw [if_neg z] at h0; exact absurd h0 (by decide)
    rw [if_pos p4] at h0
    have p5 : ¬ d < 1 ∧ d ≤ 700 := Classical.byContradiction fun z => by rw [if_neg z] at h0; exact absurd h0 (by decide)
    rw [if_pos p5, hc.1.2.2.1] at h0
    have p6 : nI (N 6) < 60 := Classical.byContradiction fun z => by rw [if_neg z] at h0; exact absurd h0 (by decide)
    have hroom : N 6 < 60 := (nI_ltI (by omega) (by decide)).mp (show nI (N 6) < nI 60 from p6)
    have h6t : (m 21 0).toNatClampNeg = N 6 := by rw [hc.2.1.2.2.1, nI_clamp (by omega)]
    obtain ⟨x, hx, ex⟩ := nI_of2 (x := a) (M := 20000) (n := 20000) rfl (fun z => p4.1 (by rw [fa_lt] at z ⊢; rw [show (0 : Int32).toInt = 0 from rfl] at z; rw [show (1 : Int32).toInt = 1 from rfl]; omega)) p4.2
    have hx1 : 1 ≤ x := Nat.le_of_not_lt fun z => p4.1 (by rw [ex]; exact nI_lt z (by decide))
    have es : s_sailing m b f o a d l = st (st (st (st (st (st (st (s_refused m 0) 23 (N 6) b) 24 (N 6) f) 25 (N 6) o) 26 (N 6) (m 1 0 + a)) 27 (N 6) d) 28 (N 6) l) 21 0 (nI (N 6 + 1)) := by
      unfold s_sailing; simp only [rf_if]; rw [ew0, if_pos rfl, h6t, nar_B hl, hc.2.1.2.2.1, nI_1]
    refine ⟨?_, fun _ => ⟨?_, ?_⟩, fun z => absurd ht0 z⟩
    · rw [ht0, es, st_nf _ _ _ (by decide), st_nf _ _ _ (by decide), st_nf _ _ _ (by decide), st_nf _ _ _ (by decide), st_nf _ _ _ (by decide), st_nf _ _ _ (by decide), st_nf _ _ _ (by decide)]; exact st_self _ _ _ _
    · unfold q_sailing
      simp only [rf_if]
      rw [if_pos ew0, hc.2.1.2.2.1, nI_1, nI_pred]
    · have hnow : ¬ c 1 0 + a < c 1 0 := by rw [h.2.2, ex, nI_add]; exact nI_nlt (by omega) (by omega)
      have k := RB_sailing hN h.1 hroom (b := b) (f := f) (o := o) (a := a) (d := d) (l := l) (num_in p0 hc.1.2.1 (by have := hc.2.2.2.1; omega)) (num_in p1 hc.1.1 (by have := hc.2.2.1; omega)) (num_in p2 hc.1.1 (by have := hc.2.2.1; omega)) hnow es
      obtain ⟨n0, n4, n5, n6, n8, n7, n1, n2, n3⟩ := id hN
      have c1 : s_X5_sailing N c b f o a d l 1 = c 1 := by
        unfold s_X5_sailing m_X5_sailing
        repeat rw [st_nf _ _ _ (by decide)]
      refine ⟨k, fun n hn => ?_, by rw [c1]; exact h.2.2⟩
      rw [Ns_6] at hn
      rw [c1]
      by_cases e : n = N 6
      · subst e
        have v26 : s_X5_sailing N c b f o a d l 26 (N 6) = c 1 0 + a := by
          unfold s_X5_sailing m_X5_sailing
          simp [st_at]
        intro _
        rw [v26, h.2.2, ex, nI_add]
        exact nI_lt (by omega) (by omega)
      · have hn6 : n < N 6 := by omega
        have old : ∀ g, g ≠ 52 → g ≠ 54 → s_X5_sailing N c b f o a d l g n = c g n := fun g g52 g54 => by
          unfold s_X5_sailing m_X5_sailing
          repeat rw [st_at, if_neg (by omega)]
        rw [old 22 (by decide) (by decide), old 26 (by decide) (by decide)]
        exact h.2.1 n hn6
  · have hw : ¬ k100t0_sailing m b f o a d l = 0 := by rw [ew]; exact kA_ne h0
    have es : s_sailing m b f o a d l = s_refused m (kA (t_X5_sailing c b f o a d l)) := by
      unfold s_sailing; simp only [rf_if]; rw [if_neg hw, ew]
    refine ⟨?_, fun z => absurd z h0, fun _ => by rw [es]; exact RF_rf h _⟩
    rw [es]; exact st_self _ _ _ _
