/-! who is first in line, who is refused, who comes aboard: both sides alike -/
theorem Q_ite {Q : Int32 → Prop} {P : Prop} {d : Decidable P} {a b : Int32} (ha : Q a) (hb : Q b) : Q (if P then a else b) := by
  by_cases p : P
  · rw [if_pos p]; exact ha
  · rw [if_neg p]; exact hb
theorem e_first {N : Nat → Nat} {c m : St} (h : RB N c m) {s : Nat} (hs : ∀ k, k < N 8 → c 35 k = 0 → c 36 k = nI s → m 47 k = 0) : ∀ (n i : Nat) (x : Int32), i + n ≤ 101 → (x = -1 ∨ ∃ j, j < N 8 ∧ x = nI j) → lf_X5_firstInLine_4 c (nI s) n i x = lf_nextOf_4 m (nI s) n i x := by
  have hc := h.2.1
  have h8 := hc.2.2.2.2.2
  have h55 := h.2.2.2.2.1.2.2.1
  intro n
  induction n with
  | zero => intro i x _ _; rfl
  | succ n ih =>
    intro i x hi hx
    simp only [lf_X5_firstInLine_4, lf_nextOf_4]
    rw [hc.1.2.2.2, hc.2.1.2.2.2]
    by_cases e0 : nI (N 8) ≤ nI i
    · rw [if_pos e0, if_pos e0]
    · rw [if_neg e0, if_neg e0]
      have hiM : i < N 8 := m_lt rfl e0 (by omega) (by omega)
      have hi55 : c 55 (nI i).toNatClampNeg = nI i := by rw [nI_clamp (by omega)]; exact h55 i hiM
      rw [e_waits h.1, nI_clamp (by omega)]
      have hin : (if (if m 35 i = 0 then (if m 36 i = nI s then (1 : Int32) else 0) else 0) = 0 then x else (if x = -1 then nI i else (if q_X1_isAheadOf c (nI i) x = 0 then x else nI i))) = (if (if m 36 i = nI s then (if m 35 i = 0 then (if m 47 i = 0 then (1 : Int32) else 0) else 0) else 0) = 0 then x else (if x = -1 then nI i else (if q_isAhead m (nI i) x = 0 then x else nI i))) := by
        by_cases e1 : m 35 i = 0
        · by_cases e2 : m 36 i = nI s
          · have e3 : m 47 i = 0 := hs i hiM (by rw [h.1 35 rfl]; exact e1) (by rw [h.1 36 rfl]; exact e2)
            rw [if_pos e1, if_pos e2, if_pos e2, if_pos e1, if_pos e3]
            rcases hx with rfl | ⟨j, hj, rfl⟩
            · rfl
            · rw [e_ahead h.1 hi55 (by rw [nI_clamp (by omega)]; exact h55 j hj)]
          · rw [if_pos e1, if_neg e2, if_neg e2, if_pos rfl, if_pos rfl]
        · rw [if_neg e1]
          by_cases e2 : m 36 i = nI s
          · rw [if_pos e2, if_neg e1, if_pos rfl, if_pos rfl]
          · rw [if_neg e2, if_pos rfl, if_pos rfl]
      rw [hin]
      refine ih _ _ (by omega) ?_
      have h2 : (nI i = -1 ∨ ∃ j, j < N 8 ∧ nI i = nI j) := Or.inr ⟨i, hiM, rfl⟩
      exact Q_ite (Q := fun z => z = -1 ∨ ∃ j, j < N 8 ∧ z = nI j) hx (Q_ite (Q := fun z => z = -1 ∨ ∃ j, j < N 8 ∧ z = nI j) h2 (Q_ite (Q := fun z => z = -1 ∨ ∃ j, j < N 8 ∧ z = nI j) hx h2))
theorem first_pl {N : Nat → Nat} {c m : St} (h : RB N c m) {s : Nat} : ∀ (n i : Nat) (x : Int32), i + n ≤ 101 → (x = -1 ∨ ∃ j, j < N 8 ∧ x = nI j ∧ c 35 j = 0 ∧ c 36 j = nI s) → (lf_X5_firstInLine_4 c (nI s) n i x = -1 ∨ ∃ j, j < N 8 ∧ lf_X5_firstInLine_4 c (nI s) n i x = nI j ∧ c 35 j = 0 ∧ c 36 j = nI s) := by
  have hc := h.2.1
  have h8 := hc.2.2.2.2.2
  intro n
  induction n with
  | zero => intro i x _ hx; exact hx
  | succ n ih =>
    intro i x hi hx
    simp only [lf_X5_firstInLine_4]
    rw [hc.1.2.2.2]
    by_cases e0 : nI (N 8) ≤ nI i
    · rw [if_pos e0]; exact hx
    · rw [if_neg e0]
      have hiM : i < N 8 := m_lt rfl e0 (by omega) (by omega)
      refine ih _ _ (by omega) ?_
      unfold q_X1_waitsFor
      rw [nI_clamp (by omega)]
      by_cases e1 : c 35 i = 0
      · by_cases e2 : c 36 i = nI s
        · rw [if_pos e1, if_pos e2, if_neg (by decide)]
          split
          · exact Or.inr ⟨i, hiM, rfl, e1, e2⟩
          · split
            · exact hx
            · exact Or.inr ⟨i, hiM, rfl, e1, e2⟩
        · rw [if_pos e1, if_neg e2, if_pos rfl]; exact hx
      · rw [if_neg e1, if_pos rfl]; exact hx
theorem why_loop {N : Nat → Nat} {m : St} (hn : m 34 0 = nI (N 8)) (h8 : N 8 ≤ 100) (s b : Int32) : ∀ (n i : Nat) (x : Int32), i + n = 101 → (lf_whyNot_5 m s b n i x = 0 ↔ x = 0 ∧ ∀ k, i ≤ k → k < N 8 → ¬ (m 36 k = s ∧ m 35 k = 1 ∧ ¬ m 40 k ≤ 0 ∧ ¬ m 40 k = m 40 b.toNatClampNeg)) := by
  intro n
  induction n with
  | zero => intro i x hi; exact ⟨fun z => ⟨z, fun k a b => absurd b (by omega)⟩, fun z => z.1⟩
  | succ n ih =>
    intro i x hi
    simp only [lf_whyNot_5]
    rw [hn]
    by_cases e0 : nI (N 8) ≤ nI i
    · rw [if_pos e0]
      have hiM : N 8 ≤ i := (nI_leI (by omega) (by omega)).mp e0
      exact ⟨fun z => ⟨z, fun k a b => absurd b (by omega)⟩, fun z => z.1⟩
    · rw [if_neg e0]
      have hiM : i < N 8 := m_lt rfl e0 (by omega) (by omega)
      rw [ih _ _ (by omega), nI_clamp (by omega)]
      have hin : (if x = 0 then (if m 36 i = s then (if m 35 i = 1 then (if m 40 i ≤ 0 then (0 : Int32) else (if m 40 i = m 40 b.toNatClampNeg then (0 : Int32) else 1)) else 0) else 0) else 1) = 0 ↔ x = 0 ∧ ¬ (m 36 i = s ∧ m 35 i = 1 ∧ ¬ m 40 i ≤ 0 ∧ ¬ m 40 i = m 40 b.toNatClampNeg) := by
        by_cases e1 : x = 0 <;> by_cases e2 : m 36 i = s <;> by_cases e3 : m 35 i = 1 <;> by_cases e4 : m 40 i ≤ 0 <;> by_cases e5 : m 40 i = m 40 b.toNatClampNeg <;> simp [e1, e2, e3, e4, e5]
      rw [hin]
      constructor
      · rintro ⟨⟨a1, a2⟩, a3⟩
        refine ⟨a1, fun k b1 b2 => ?_⟩
        by_cases e : k = i
        · rw [e]; exact a2
        · exact a3 k (by omega) b2
      · rintro ⟨a1, a2⟩
        exact ⟨⟨a1, a2 i (Nat.le_refl _) hiM⟩, fun k b1 b2 => a2 k (by omega) b2⟩
theorem e_refusal {c m : St} (h : EQ c m) (s b : Int32) (hd : ¬ c 40 b.toNatClampNeg < 0) (hw : ¬ c 40 b.toNatClampNeg = 0 → (lf_whyNot_5 m s b 101 0 0 = 0 ↔ (c 51 s.toNatClampNeg = 0 ∨ c 51 s.toNatClampNeg = c 40 b.toNatClampNeg))) : q_X3_refusal c s b = q_whyNot m s b := by
  unfold q_X3_refusal q_whyNot k182t0_whyNot
  rw [e_len0 h, e_len1 h, e_can0 h, e_can1 h, h 32 rfl, h 39 rfl, h 15 rfl, h 23 rfl]
  generalize (if m 32 (2 * s).toNatClampNeg + m 32 (2 * s + 1).toNatClampNeg + m 39 b.toNatClampNeg ≤ m 15 (m 23 s.toNatClampNeg).toNatClampNeg then (if q_hasLength m s 0 b = 0 then (if q_hasLength m s 1 b = 0 then (3 : Int32) else (if q_canBe m s 0 b = 0 then (if q_canBe m s 1 b = 0 then (4 : Int32) else 0) else 0)) else (if q_canBe m s 0 b = 0 then (if q_canBe m s 1 b = 0 then (4 : Int32) else 0) else 0)) else (2 : Int32)) = T
  rw [← h 40 rfl]
  by_cases e : c 40 b.toNatClampNeg = 0
  · rw [if_pos e, if_pos (show c 40 b.toNatClampNeg ≤ 0 by rw [e]; decide)]
  · have hle : ¬ c 40 b.toNatClampNeg ≤ 0 := fun z => by
      rw [fa_lt] at hd; rw [fa_le] at z; rw [fa_eq] at e; rw [show (0 : Int32).toInt = 0 from rfl] at *; omega
    rw [if_neg e, if_neg hle]
    by_cases e1 : lf_whyNot_5 m s b 101 0 0 = 0
    · rw [if_pos e1]
      by_cases e2 : c 51 s.toNatClampNeg = 0
      · rw [if_pos e2]
      · rw [if_neg e2, if_pos (((hw e).mp e1).resolve_left e2)]
    · rw [if_neg e1, if_neg (fun z => e1 ((hw e).mpr (Or.inl z))), if_neg (fun z => e1 ((hw e).mpr (Or.inr z)))]
theorem why_both {N : Nat → Nat} {c m : St} (h : RB N c m) {s b : Nat} (hs : s < N 6) (h1 : c 22 s = 1) (hb : b < N 8) : q_X3_refusal c (nI s) (nI b) = q_whyNot m (nI s) (nI b) := by
  obtain ⟨hE, hc, h3, h4, h5, h6, h7⟩ := id h
  have h8 := hc.2.2.2.2.2
  have h60 := hc.2.2.2.2.1
  have hst : (nI s).toNatClampNeg = s := nI_clamp (by omega)
  have hbt : (nI b).toNatClampNeg = b := nI_clamp (by omega)
  have hD := (h3 s hs).2
  refine e_refusal hE _ _ (h5.2.2.2 _) (fun hne => ?_)
  rw [why_loop (N := N) hc.2.1.2.2.2 h8 (nI s) (nI b) 101 0 0 (by omega), hst, hbt]
  rw [hbt] at hne
  have hpos : ∀ k, ¬ c 40 k = 0 → ¬ c 40 k ≤ 0 := fun k e => by
    have hd := h5.2.2.2 k
    rw [i_lt] at hd; rw [fa_le] at hd ⊢; rw [fa_eq] at e; rw [show (0 : Int32).toInt = 0 from rfl] at *; omega
  constructor
  · rintro ⟨-, a⟩
    rcases hD.2 with d | ⟨k, hk, d⟩
    · exact Or.inl d
    · by_cases e0 : c 51 s = 0
      · exact Or.inl e0
      · refine Or.inr ?_
        have hk1 : c 35 k = 1 := hk.2.2.elim id (fun z => by
          have := (h4 k hk.1).2 z
          rw [hk.2.1, hst, h1] at this
          exact absurd this (by decide))
        have := a k (Nat.zero_le _) hk.1
        rw [← hE 36 rfl, ← hE 35 rfl, ← hE 40 rfl] at this
        rw [← d]
        exact Classical.byContradiction fun w => this ⟨hk.2.1, hk1, hpos k (by rw [d]; exact e0), w⟩
  · intro a
    refine ⟨rfl, fun k _ hk => ?_⟩
    rw [← hE 36 rfl, ← hE 35 rfl, ← hE 40 rfl]
    rintro ⟨b1, b2, b3, b4⟩
    rcases hD.1 k ⟨hk, b1, Or.inl b2⟩ with d | d
    · exact b3 (by rw [d]; decide)
    · rcases a with a | a
      · exact b3 (by rw [d, a]; decide)
      · exact b4 (by rw [d, a])
theorem e_side {c m : St} (h : EQ c m) (s b : Int32) : ∃ w : Nat, w < 2 ∧ k47t0_X3_takeAboard c s b = 2 * s + nI w ∧ k44t0_comes m s b = nI w := by
  unfold k47t0_X3_takeAboard k28t0_X3_takeAboard k44t0_comes
  rw [h 32 rfl]
  by_cases e : m 32 (2 * s).toNatClampNeg ≤ m 32 (2 * s + 1).toNatClampNeg
  · simp only [if_pos e]
    rw [e_can0 h, opp0]
    by_cases e1 : q_canBe m s 0 b = 0
    · rw [if_pos e1, if_pos e1]; exact ⟨1, by decide, rfl, by decide⟩
    · rw [if_neg e1, if_neg e1]; exact ⟨0, by decide, (Int32.add_zero _).symm, rfl⟩
  · simp only [if_neg e]
    rw [e_can1 h, opp1]
    by_cases e1 : q_canBe m s 1 b = 0
    · rw [if_pos e1, if_pos e1]; exact ⟨0, by decide, (Int32.add_zero _).symm, by decide⟩
    · rw [if_neg e1, if_neg e1]; exact ⟨1, by decide, rfl, rfl⟩
theorem sh_lt {f : Nat} (h : sh f = true) : f < 49 := by
  unfold sh at h
  rw [Bool.and_eq_true] at h
  exact of_decide_eq_true h.1
theorem EQ_sadd {c m : St} (h : EQ c m) {q I : Nat} {b : Int32} : EQ (sadd c q I b) m := fun f hf => by
  have := sh_lt hf
  rw [sadd_o (by omega)]; exact h f hf
theorem EQ_put {c m : St} (h : EQ c m) {s b : Int32} : EQ (s_X3_putFirstOff c s b) m := by
  unfold s_X3_putFirstOff k51s_X3_putFirstOff
  split
  · exact EQ_sadd h
  · exact EQ_l (EQ_sadd h) rfl
theorem st_comm {a : St} {f j f' j' : Nat} {v v' : Int32} (h : f ≠ f') : st (st a f j v) f' j' v' = st (st a f' j' v') f j v := by
  funext g
  by_cases e : g = f
  · subst e
    rw [st_nf _ _ _ h]
    show (if g = g then upd (a g) j v else a g) = (if g = g then upd (st a f' j' v' g) j v else st a f' j' v' g)
    rw [st_nf _ _ _ h]
  · by_cases e' : g = f'
    · subst e'
      rw [st_nf (st a g j' v') j v e]
      show (if g = g then upd (st a f j v g) j' v' else _) = (if g = g then upd (a g) j' v' else a g)
      rw [st_nf _ _ _ e]
    · rw [st_nf _ _ _ e', st_nf _ _ _ e, st_nf _ _ _ e, st_nf _ _ _ e']
theorem EQ_take {c m : St} (h : EQ c m) {s b : Nat} (hs : s < 60) : EQ (s_X3_takeAboard c (nI s) (nI b)) (s_comes m (nI s) (nI b)) := by
  obtain ⟨w, hw, e1, e2⟩ := e_side h (nI s) (nI b)
  unfold s_X3_takeAboard s_comes
  rw [e1, e2]
  have hK : (2 * nI s + nI w).toNatClampNeg = 2 * s + w := by
    rw [show (2 : Int32) = nI 2 from rfl, pk_mul, nI_add, nI_clamp (by omega)]
  rw [hK, show (2 * s + w) % 2 = w by omega]
  refine EQ_put (EQ_sadd ?_)
  refine EQ_r ?_ rfl
  have k0 : EQ (st (st c 32 (2 * s + w) (c 32 (2 * s + w) + c 39 (nI b).toNatClampNeg)) 33 (2 * s + w) (c 33 (2 * s + w) + c 38 (nI b).toNatClampNeg)) (st (st m 32 (2 * s + w) (m 32 (2 * s + w) + m 39 (nI b).toNatClampNeg)) 33 (2 * s + w) (m 33 (2 * s + w) + m 38 (nI b).toNatClampNeg)) := by
    rw [h 32 rfl, h 33 rfl, h 38 rfl, h 39 rfl]
    exact EQ_st (EQ_st h)
  have k1 : EQ (k89s_X3_takeAboard c (nI s) (nI b)) (st (st m 32 (2 * s + w) (m 32 (2 * s + w) + m 39 (nI b).toNatClampNeg)) 33 (2 * s + w) (m 33 (2 * s + w) + m 38 (nI b).toNatClampNeg)) := by
    unfold k89s_X3_takeAboard
    rw [e1, hK]
    split
    · exact k0
    · exact EQ_l k0 rfl
  have k2 := EQ_st (f := 45) (j := (nI b).toNatClampNeg) (v := nI w) (EQ_st (f := 35) (j := (nI b).toNatClampNeg) (v := 1) k1)
  refine EQ_tr k2 ?_
  rw [st_comm (f := 46) (f' := 32) (by decide), st_comm (f := 46) (f' := 33) (by decide)]
  refine EQ_r ?_ rfl
  rw [st_comm (f := 45) (f' := 32) (by decide), st_comm (f := 45) (f' := 33) (by decide), st_comm (f := 35) (f' := 32) (by decide), st_comm (f := 35) (f' := 33) (by decide)]
  exact EQ_rf
