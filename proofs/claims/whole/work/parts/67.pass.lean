/-! minutes pass: the class's leaps against the reference's minutes -/
def FS (N : Nat → Nat) (c : St) : Prop := ∀ n, n < N 6 → c 22 n = 0 → c 1 0 < c 26 n
/-- what holds of both states between calls, at the minute t -/
def RF (N : Nat → Nat) (t : Nat) (c m : St) : Prop := RB N c m ∧ FS N c ∧ c 1 0 = nI t
theorem i_trans {a b d : Int32} (h : a < b) (k : b < d) : a < d := by
  rw [fa_lt] at *; omega
theorem RB_now {N : Nat → Nat} {c m : St} (h : RB N c m) {v : Int32} (hF : ∀ n, n < N 6 → c 22 n = 0 → ¬ c 26 n < v) : RB N (st c 1 0 v) (st m 1 0 v) := by
  obtain ⟨h1, h2, h3, h4, h5, h6, h7⟩ := h
  have e : ∀ (a : St) (g : Nat), g ≠ 1 → st a 1 0 v g = a g := fun a g hg => st_nf a 0 v hg
  refine ⟨EQ_st h1, ?_, fun n hn => ?_, ?_, ?_, fun n hn => ?_, ?_⟩
  · unfold CT
    rw [e c 54 (by decide), e m 2 (by decide), e m 12 (by decide), e m 21 (by decide), e m 34 (by decide)]; exact h2
  · obtain ⟨⟨L, hL⟩, hD⟩ := h3 n hn
    have hm := mb_to (N := N) (n := n) (e c 35 (by decide)) (e c 36 (by decide))
    exact ⟨⟨L, LQ_to hL hm (by rw [e c 54 (by decide)]) (by rw [e c 54 (by decide)]) (by rw [e c 50 (by decide)]) (e c 42 (by decide)) (e c _ (by omega)) (e c _ (by omega)) (by rw [e m 30 (by decide)]) (fun b _ => by rw [e m 46 (by decide)])⟩, DQ_to hD hm (e c 40 (by decide)) (by rw [e c 51 (by decide)])⟩
  · unfold SQ
    rw [e c 35 (by decide), e c 36 (by decide), e c 22 (by decide)]; exact h4
  · unfold RQ
    rw [e c 36 (by decide), e c 23 (by decide), e c 24 (by decide), e c 25 (by decide), e c 55 (by decide), e c 40 (by decide)]; exact h5
  · rw [e c 22 (by decide), e c 26 (by decide), st_self]; exact hF n hn
  · unfold DF
    rw [e c 7 (by decide), e c 8 (by decide), e c 9 (by decide), e c 10 (by decide), e c 11 (by decide), e c 20 (by decide), e c 22 (by decide), e c 29 (by decide), e c 31 (by decide), e m 30 (by decide), e c 32 (by decide), e c 33 (by decide), e c 35 (by decide), e c 43 (by decide), e c 44 (by decide)]
    exact h7
/-- the class's minute -/
def cmin (c : St) (v : Int32) : St := s_X5_letDepart (if (s_X5_letArrive (st c 1 0 v)) 1 0 - (s_X5_letArrive (st c 1 0 v)) 1 0 / 1440 * 1440 = 300 then s_X5_decideTheDay (s_X5_letArrive (st c 1 0 v)) else s_X5_letArrive (st c 1 0 v))
theorem dec_none {N : Nat → Nat} {m0 : St} : ∀ (n i : Nat) (m : St), ¬ m 1 0 - m 1 0 / 1440 * 1440 = 300 → lf_passes_63 m0 n i m = m := by
  intro n
  cases n with
  | zero => intro i m _; rfl
  | succ n =>
    intro i m h
    simp only [lf_passes_63]
    split
    · rfl
    · first | rfl | rw [if_neg h]
theorem min_both {N : Nat → Nat} {c m : St} {t : Nat} (h : RB N c m) (hm : m 1 0 + 1 = nI t) (hF : ∀ n, n < N 6 → c 22 n = 0 → ¬ c 26 n < nI t) : RF N t (cmin c (nI t)) (s_passes m) := by
  have h0 := RB_now (v := nI t) h hF
  unfold s_passes
  rw [hm]
  obtain ⟨a1, a2⟩ := arr_loop (c0 := st c 1 0 (nI t)) (m0 := m) 61 0 _ _ (by omega) h0
  have an : s_X5_letArrive (st c 1 0 (nI t)) 1 = st c 1 0 (nI t) 1 := a2 1 (Or.inl rfl)
  have an0 : s_X5_letArrive (st c 1 0 (nI t)) 1 0 = nI t := by rw [an, st_self]
  have a26 : s_X5_letArrive (st c 1 0 (nI t)) 26 = c 26 := (a2 26 (Or.inr rfl)).trans (st_nf _ _ _ (by decide))
  have hmn : lf_passes_12 m 61 0 (st m 1 0 (nI t)) 1 0 = nI t := by rw [← a1.1 1 rfl]; exact an0
  have hdec : ∃ X, X = (if (s_X5_letArrive (st c 1 0 (nI t))) 1 0 - (s_X5_letArrive (st c 1 0 (nI t))) 1 0 / 1440 * 1440 = 300 then s_X5_decideTheDay (s_X5_letArrive (st c 1 0 (nI t))) else s_X5_letArrive (st c 1 0 (nI t))) ∧ RB N X (lf_passes_63 m 61 0 (lf_passes_12 m 61 0 (st m 1 0 (nI t)))) ∧ X 26 = c 26 ∧ X 1 0 = nI t := by
    refine ⟨_, rfl, ?_⟩
    rw [an0]
    by_cases e : nI t - nI t / 1440 * 1440 = 300
    · rw [if_pos e]
      obtain ⟨b1, b2, b3⟩ := dec_loop (c0 := s_X5_letArrive (st c 1 0 (nI t))) (m0 := m) 61 0 _ _ (by omega) a1 (by rw [hmn]; exact e)
      exact ⟨b1, b2.trans a26, by rw [show s_X5_decideTheDay (s_X5_letArrive (st c 1 0 (nI t))) 1 = s_X5_letArrive (st c 1 0 (nI t)) 1 from b3]; exact an0⟩
    · rw [if_neg e, dec_none (N := N) 61 0 _ (by rw [hmn]; exact e)]
      exact ⟨a1, a26, an0⟩
  obtain ⟨X, eX, b1, b2, b3⟩ := hdec
  unfold cmin
  rw [← eX]
  obtain ⟨d1, d2, d3, d4, d5⟩ := dep_loop (c0 := X) (m0 := m) 61 0 _ _ (by omega) b1
  have e26 : s_X5_letDepart X 26 = X 26 := d2
  have e1 : s_X5_letDepart X 1 = X 1 := d3
  refine ⟨d1, fun n hn hz => ?_, by rw [e1]; exact b3⟩
  have hne := d5 n (Nat.zero_le _) hn hz
  have hx : X 22 n = 0 := Classical.byContradiction fun w => d4 n w hz
  have hlt := b1.2.2.2.2.2.1 n hn hx
  rw [e26, e1]
  rw [i_lt] at hlt ⊢
  intro w
  exact hne ((fa_eq _ _).mpr (by rw [fa_le] at hlt w; omega))
/-- a minute in which nothing happens -/
theorem quiet {N : Nat → Nat} {c m : St} {t : Nat} (h : RB N c m) (hm : m 1 0 + 1 = nI t) (ht : ¬ nI t - nI t / 1440 * 1440 = 300) (hq : ∀ k, k < N 6 → ¬ (if c 22 k = 0 then c 26 k else c 26 k + c 27 k) = nI t) : s_passes m = st m 1 0 (nI t) := by
  have hc := h.2.1
  have h60 := hc.2.2.2.2.1
  have k12 : ∀ (n i : Nat), i + n = 61 → lf_passes_12 m n i (st m 1 0 (nI t)) = st m 1 0 (nI t) := by
    intro n
    induction n with
    | zero => intro i _; rfl
    | succ n ih =>
      intro i hi
      simp only [lf_passes_12]
      rw [st_nf _ _ _ (show (21 : Nat) ≠ 1 by decide), hc.2.1.2.2.1]
      split
      · rfl
      · next e0 =>
        have hiM : i < N 6 := m_lt rfl e0 (by omega) (by omega)
        have hqi := hq i hiM
        rw [st_nf _ _ _ (show (22 : Nat) ≠ 1 by decide), st_nf _ _ _ (show (26 : Nat) ≠ 1 by decide), st_nf _ _ _ (show (27 : Nat) ≠ 1 by decide), st_self, nI_clamp (by omega), ← h.1 22 rfl, ← h.1 26 rfl, ← h.1 27 rfl]
        by_cases e1 : c 22 i = 1
        · rw [if_pos e1]
          rw [if_neg (by rw [e1]; decide)] at hqi
          rw [if_neg hqi]; exact ih (i + 1) (by omega)
        · rw [if_neg e1]; exact ih (i + 1) (by omega)
  have k98 : ∀ (n i : Nat), i + n = 61 → lf_passes_98 m n i (st m 1 0 (nI t)) = st m 1 0 (nI t) := by
    intro n
    induction n with
    | zero => intro i _; rfl
    | succ n ih =>
      intro i hi
      simp only [lf_passes_98]
      rw [st_nf _ _ _ (show (21 : Nat) ≠ 1 by decide), hc.2.1.2.2.1]
      split
      · rfl
      · next e0 =>
        have hiM : i < N 6 := m_lt rfl e0 (by omega) (by omega)
        have hqi := hq i hiM
        rw [st_nf _ _ _ (show (22 : Nat) ≠ 1 by decide), st_nf _ _ _ (show (26 : Nat) ≠ 1 by decide), st_self, nI_clamp (by omega), ← h.1 22 rfl, ← h.1 26 rfl]
        by_cases e1 : c 22 i = 0
        · rw [if_pos e1]
          rw [if_pos e1] at hqi
          rw [if_neg hqi]; exact ih (i + 1) (by omega)
        · rw [if_neg e1]; exact ih (i + 1) (by omega)
  unfold s_passes
  rw [hm, k12 61 0 (by omega), dec_none (N := N) 61 0 _ (by rw [st_self]; exact ht), k98 61 0 (by omega)]
def iter (n : Nat) (m : St) : St := match n with
  | 0 => m
  | n + 1 => iter n (s_passes m)
theorem iter_s : ∀ (n : Nat) (m : St), iter (n + 1) m = s_passes (iter n m) := by
  intro n
  induction n with
  | zero => intro m; rfl
  | succ n ih => intro m; show iter (n + 1) (s_passes m) = _; rw [ih]; rfl
theorem st_st {a : St} {f j : Nat} {v w : Int32} : st (st a f j v) f j w = st a f j w := by
  funext g k
  rw [st_at, st_at, st_at]
  by_cases e : g = f ∧ k = j
  · rw [if_pos e, if_pos e]
  · rw [if_neg e, if_neg e, if_neg e]
/-- some quiet minutes -/
theorem quiets {N : Nat → Nat} {c m : St} {t d : Nat} (h : RB N c m) (hm : m 1 0 = nI t) (hq : ∀ j, 1 ≤ j → j ≤ d → ¬ nI (t + j) - nI (t + j) / 1440 * 1440 = 300 ∧ ∀ k, k < N 6 → ¬ (if c 22 k = 0 then c 26 k else c 26 k + c 27 k) = nI (t + j)) (hF : ∀ j, j ≤ d → ∀ n, n < N 6 → c 22 n = 0 → ¬ c 26 n < nI (t + j)) : iter d m = st m 1 0 (nI (t + d)) := by
  induction d with
  | zero => show m = _; rw [Nat.add_zero, ← hm, st_id]
  | succ d ih =>
    rw [iter_s, ih (fun j a b => hq j a (by omega)) (fun j b => hF j (by omega))]
    obtain ⟨q1, q2⟩ := hq (d + 1) (by omega) (Nat.le_refl _)
    have h1 := RB_now (v := nI (t + d)) h (hF d (by omega))
    rw [quiet (N := N) (c := st c 1 0 (nI (t + d))) (t := t + (d + 1)) h1 (by rw [st_self, nI_1]; rfl) q1 (fun k hk => by rw [st_nf _ _ _ (by decide), st_nf _ _ _ (by decide), st_nf _ _ _ (by decide)]; exact q2 k hk), st_st]
theorem rem_300 {t : Nat} (h : t < 2 ^ 31) : (nI t - nI t / 1440 * 1440 = 300) ↔ t % 1440 = 300 := by
  rw [show (1440 : Int32) = nI 1440 from rfl, pk_rem h (by decide) (by decide), show (300 : Int32) = nI 300 from rfl, nI_eq (by omega) (by decide)]
def due (c : St) (k : Nat) : Int32 := if c 22 k = 0 then c 26 k else c 26 k + c 27 k
theorem next_loop {N : Nat → Nat} {c c0 : St} {t : Nat} {last : Int32} (hn : c 54 2 = nI (N 6)) (h60 : N 6 ≤ 60) (ht : c 1 0 = nI t) : ∀ (n i d : Nat), i + n = 61 → 1 ≤ d → t + d < 2 ^ 31 → ∃ d', 1 ≤ d' ∧ d' ≤ d ∧ lf_X5_nextMinuteOfNote_41 c last n i (nI (t + d)) = nI (t + d') ∧ ∀ k, i ≤ k → k < N 6 → ∀ j, 1 ≤ j → j < d' → ¬ due c k = nI (t + j) := by
  intro n
  induction n with
  | zero => intro i d hi h1 h2; exact ⟨d, h1, Nat.le_refl _, rfl, fun k a b => absurd b (by omega)⟩
  | succ n ih =>
    intro i d hi h1 h2
    simp only [lf_X5_nextMinuteOfNote_41]
    rw [hn]
    by_cases e0 : nI (N 6) ≤ nI i
    · rw [if_pos e0]
      have hiM : N 6 ≤ i := (nI_leI (by omega) (by omega)).mp e0
      exact ⟨d, h1, Nat.le_refl _, rfl, fun k a b => absurd b (by omega)⟩
    · rw [if_neg e0]
      have hiM : i < N 6 := m_lt rfl e0 (by omega) (by omega)
      have ed : (if c 22 (nI i).toNatClampNeg = 0 then c 26 (nI i).toNatClampNeg else q_X3_arrival c (nI i)) = due c i := by
        unfold due q_X3_arrival; rw [nI_clamp (by omega)]
      rw [ed, ht]
      by_cases e1 : due c i ≤ nI t
      · rw [if_pos e1]
        obtain ⟨d', a1, a2, a3, a4⟩ := ih (i + 1) d (by omega) h1 h2
        refine ⟨d', a1, a2, a3, fun k b1 b2 j j1 j2 => ?_⟩
        by_cases e : k = i
        · rw [e]; intro z; rw [z] at e1
          have := (nI_leI (by omega) (by omega)).mp e1
          omega
        · exact a4 k (by omega) b2 j j1 j2
      · rw [if_neg e1]
        by_cases e2 : nI (t + d) ≤ due c i
        · rw [if_pos e2]
          obtain ⟨d', a1, a2, a3, a4⟩ := ih (i + 1) d (by omega) h1 h2
          refine ⟨d', a1, a2, a3, fun k b1 b2 j j1 j2 => ?_⟩
          by_cases e : k = i
          · rw [e]; intro z; rw [z] at e2
            have := (nI_leI (by omega) (by omega)).mp e2
            omega
          · exact a4 k (by omega) b2 j j1 j2
        · rw [if_neg e2]
          have hneg : ¬ due c i < 0 := fun z => e1 (by
            rw [fa_lt, show (0 : Int32).toInt = 0 from rfl] at z
            rw [fa_le, nI_toInt (by omega)]; omega)
          obtain ⟨x, hx, ex⟩ := nI_of hneg
          rw [ex] at e1 e2 ⊢
          have x1 : t < x := Nat.lt_of_not_le fun z => e1 (nI_le z (by omega))
          have x2 : x < t + d := Nat.lt_of_not_le fun z => e2 (nI_le z hx)
          obtain ⟨d', a1, a2, a3, a4⟩ := ih (i + 1) (x - t) (by omega) (by omega) (by omega)
          rw [show t + (x - t) = x by omega] at a3
          refine ⟨d', a1, by omega, a3, fun k b1 b2 j j1 j2 => ?_⟩
          by_cases e : k = i
          · rw [e, ex]; intro z
            have := (nI_eq hx (by omega)).mp z
            omega
          · exact a4 k (by omega) b2 j j1 j2
theorem next_note {N : Nat → Nat} {c : St} {t r : Nat} (hn : c 54 2 = nI (N 6)) (h60 : N 6 ≤ 60) (ht : c 1 0 = nI t) (h1 : 1 ≤ r) (h2 : t + r < 2 ^ 30) : ∃ d, 1 ≤ d ∧ d ≤ r ∧ q_X5_nextMinuteOfNote c (nI (t + r)) = nI (t + d) ∧ ∀ j, 1 ≤ j → j < d → ¬ nI (t + j) - nI (t + j) / 1440 * 1440 = 300 ∧ ∀ k, k < N 6 → ¬ due c k = nI (t + j) := by
  have hk : ∃ d0, 1 ≤ d0 ∧ d0 ≤ 1440 ∧ k32l2_X5_nextMinuteOfNote c (nI (t + r)) = nI (t + d0) ∧ ∀ j, 1 ≤ j → j < d0 → ¬ (t + j) % 1440 = 300 := by
    unfold k32l2_X5_nextMinuteOfNote
    rw [ht, show (1440 : Int32) = nI 1440 from rfl, show (300 : Int32) = nI 300 from rfl, pk_rem (by omega) (by decide) (by decide), pk_sub (Nat.mod_le _ _), nI_add, nI_add]
    by_cases e : t < t - t % 1440 + 300
    · rw [if_pos ((nI_ltI (by omega) (by omega)).mpr e)]
      exact ⟨t - t % 1440 + 300 - t, by omega, by omega, by rw [show t + (t - t % 1440 + 300 - t) = t - t % 1440 + 300 by omega], fun j a b => by omega⟩
    · rw [if_neg (fun z => e ((nI_ltI (by omega) (by omega)).mp z))]
      exact ⟨t - t % 1440 + 300 + 1440 - t, by omega, by omega, by rw [show t + (t - t % 1440 + 300 + 1440 - t) = t - t % 1440 + 300 + 1440 by omega], fun j a b => by omega⟩
  obtain ⟨d0, k1, k2, k3, k4⟩ := hk
  unfold q_X5_nextMinuteOfNote
  rw [k3]
  have hx : ∃ d1, 1 ≤ d1 ∧ d1 ≤ r ∧ d1 ≤ d0 ∧ (if nI (t + d0) < nI (t + r) then nI (t + d0) else nI (t + r)) = nI (t + d1) := by
    by_cases e : d0 < r
    · rw [if_pos ((nI_ltI (by omega) (by omega)).mpr (by omega))]; exact ⟨d0, k1, by omega, Nat.le_refl _, rfl⟩
    · rw [if_neg (fun z => absurd ((nI_ltI (by omega) (by omega)).mp z) (by omega))]; exact ⟨r, h1, Nat.le_refl _, by omega, rfl⟩
  obtain ⟨d1, x1, x2, x3, x4⟩ := hx
  rw [x4]
  obtain ⟨d, a1, a2, a3, a4⟩ := next_loop (c0 := c) (last := nI (t + r)) hn h60 ht 61 0 d1 (by omega) x1 (by omega)
  exact ⟨d, a1, by omega, a3, fun j j1 j2 => ⟨fun z => k4 j j1 (by omega) ((rem_300 (by omega)).mp z), fun k hk => a4 k (Nat.zero_le _) hk j j1 j2⟩⟩
theorem pass_un {m0 : St} {M : Nat} (hM : M ≤ 1500) : ∀ (d n i : Nat) (m : St), i + d ≤ M → n + i = 1501 → lf_pass_27 m0 (nI M) n i m = lf_pass_27 m0 (nI M) (n - d) (i + d) (iter d m) := by
  intro d
  induction d with
  | zero => intro n i m _ _; rfl
  | succ d ih =>
    intro n i m h1 h2
    obtain ⟨n', rfl⟩ : ∃ n', n = n' + 1 := ⟨n - 1, by omega⟩
    simp only [lf_pass_27]
    rw [if_neg (fun z => absurd ((nI_leI (by omega) (by omega)).mp z) (by omega)), ih n' (i + 1) _ (by omega) (by omega), show n' + 1 - (d + 1) = n' - d by omega, show i + 1 + d = i + (d + 1) by omega]
    rfl
theorem pass_loop {N : Nat → Nat} {c0 m0 : St} {t0 M : Nat} (hM : M ≤ 1500) (ht0 : t0 + M < 2 ^ 30) (h0 : c0 1 0 = nI t0) : ∀ (r n i : Nat) (c m : St), r ≤ M → i + r ≤ M → r < n → RF N (t0 + M - r) c m → RF N (t0 + M) (lf_X5_pass_17 c0 (nI M) n i c) (lf_pass_27 m0 (nI M) (1501 - (M - r)) (M - r) m) := by
  intro r
  induction r using Nat.strongRecOn with
  | ind r ih =>
  intro n i c m hr hi hn h
  obtain ⟨n', rfl⟩ : ∃ n', n = n' + 1 := ⟨n - 1, by omega⟩
  have ht := h.2.2
  have hc := h.1.2.1
  simp only [lf_X5_pass_17]
  rw [h0, nI_add, ht]
  by_cases er : r = 0
  · subst er
    rw [if_pos (show nI (t0 + M) ≤ nI (t0 + M - 0) from Int32.le_refl _)]
    have e1 : lf_pass_27 m0 (nI M) (1501 - (M - 0)) (M - 0) m = m := by
      obtain ⟨n2, e2⟩ : ∃ n2, 1501 - (M - 0) = n2 + 1 := ⟨1500 - M, by omega⟩
      rw [e2]
      simp only [lf_pass_27]
      rw [if_pos (show nI M ≤ nI (M - 0) from Int32.le_refl _)]
    rw [e1]
    split
    · exact h
    · exact h
  · rw [if_neg (fun z => absurd ((nI_leI (by omega) (by omega)).mp z) (by omega)), if_neg (fun z => absurd ((nI_leI (by omega) (by omega)).mp z) (by omega))]
    obtain ⟨d, d1, d2, d3, d4⟩ := next_note (N := N) (c := c) (t := t0 + M - r) (r := r) hc.1.2.2.1 hc.2.2.2.2.1 ht (by omega) (by omega)
    rw [show t0 + M - r + r = t0 + M by omega] at d3
    have key := h.2.1
    have hF : ∀ j, j ≤ d → ∀ k, k < N 6 → c 22 k = 0 → ¬ c 26 k < nI (t0 + M - r + j) := fun j hj k hk k0 z => by
      have k1 := key k hk k0
      rw [ht] at k1
      have hneg : ¬ c 26 k < 0 := fun w => by
        rw [fa_lt, nI_toInt (by omega)] at k1
        rw [fa_lt, show (0 : Int32).toInt = 0 from rfl] at w; omega
      obtain ⟨x, hx, ex⟩ := nI_of hneg
      rw [ex] at k1 z
      have x1 := (nI_ltI (by omega) hx).mp k1
      have x2 := (nI_ltI hx (by omega)).mp z
      refine (d4 (x - (t0 + M - r)) (by omega) (by omega)).2 k hk ?_
      unfold due
      rw [if_pos k0, ex, show t0 + M - r + (x - (t0 + M - r)) = x by omega]
    have hmt : m 1 0 = nI (t0 + M - r) := by rw [← h.1.1 1 rfl]; exact ht
    have hqs := quiets (d := d - 1) h.1 hmt (fun j a b => d4 j a (by omega)) (fun j b => hF j (by omega))
    rw [pass_un (m0 := m0) hM d (1501 - (M - r)) (M - r) m (by omega) (by omega)]
    have hit : iter d m = s_passes (st m 1 0 (nI (t0 + M - r + (d - 1)))) := by
      rw [← hqs, ← iter_s, show d - 1 + 1 = d by omega]
    have hb := RB_now (v := nI (t0 + M - r + (d - 1))) h.1 (hF (d - 1) (by omega))
    have hmin := min_both (t := t0 + M - r + d) hb (by rw [st_self, nI_1, show t0 + M - r + (d - 1) + 1 = t0 + M - r + d by omega]) (fun k hk k0 => by
      rw [st_nf _ _ _ (by decide)] at k0 ⊢
      exact hF d (Nat.le_refl _) k hk k0)
    have ec : cmin (st c 1 0 (nI (t0 + M - r + (d - 1)))) (nI (t0 + M - r + d)) = cmin c (nI (t0 + M - r + d)) := by
      unfold cmin; rw [st_st]
    rw [ec, ← hit] at hmin
    have := ih (r - d) (by omega) n' (i + 1) _ _ (by omega) (by omega) (by omega) (by rw [show t0 + M - (r - d) = t0 + M - r + d by omega]; exact hmin)
    rw [show M - (r - d) = M - r + d by omega, show 1501 - (M - r + d) = 1501 - (M - r) - d by omega] at this
    rw [d3]
    exact this
