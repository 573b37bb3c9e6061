/-! THE TWO STATES SIDE BY SIDE: the fields that both keep are the same functions; what only reads answers alike -/
def sh (f : Nat) : Bool := decide (f < 49) && !(([0, 2, 12, 21, 30, 34, 46, 47] : List Nat).contains f)
def EQ (c m : St) : Prop := ∀ f, sh f = true → c f = m f
theorem EQ_rf {c : St} : EQ c c := fun _ _ => rfl
theorem EQ_sy {c m : St} (h : EQ c m) : EQ m c := fun f hf => (h f hf).symm
theorem EQ_tr {a b c : St} (h : EQ a b) (k : EQ b c) : EQ a c := fun f hf => (h f hf).trans (k f hf)
theorem EQ_st {c m : St} (h : EQ c m) {f j : Nat} {v : Int32} : EQ (st c f j v) (st m f j v) := fun g hg => by
  by_cases e : g = f
  · subst e
    show (if g = g then upd (c g) j v else c g) = (if g = g then upd (m g) j v else m g)
    rw [h g hg]
  · rw [st_nf c j v e, st_nf m j v e]; exact h g hg
theorem EQ_l {c m : St} (h : EQ c m) {f j : Nat} {v : Int32} (hf : sh f = false) : EQ (st c f j v) m := fun g hg => by
  rw [st_nf c j v (fun z => by rw [z, hf] at hg; cases hg)]; exact h g hg
theorem EQ_r {c m : St} (h : EQ c m) {f j : Nat} {v : Int32} (hf : sh f = false) : EQ c (st m f j v) := EQ_sy (EQ_l (EQ_sy h) hf)
theorem EQ_if {P : Prop} {d : Decidable P} {c c' m m' : St} (h : P → EQ c m) (k : ¬ P → EQ c' m') : EQ (if P then c else c') (if P then m else m') := by
  by_cases p : P
  · rw [if_pos p, if_pos p]; exact h p
  · rw [if_neg p, if_neg p]; exact k p
theorem st_id {c : St} {f j : Nat} : st c f j (c f j) = c := by
  funext g k
  rw [st_at]
  by_cases e : g = f ∧ k = j
  · rw [if_pos e, e.1, e.2]
  · rw [if_neg e]
theorem i0s (x : Int32) : 0 - x = -x := by
  rw [Int32.sub_eq_add_neg, Int32.zero_add]
theorem i_lt (a b : Int32) : a < b ↔ ¬ b ≤ a := ⟨fun h => (fa_of_lt h).2.1, fun h => fa_of_nle h⟩
theorem in12 (a : Int32) : q_in a 1 2 = if a = 1 then 1 else if a = 2 then 1 else 0 := by
  by_cases h1 : a = 1
  · subst h1; decide
  · by_cases h2 : a = 2
    · subst h2; decide
    · rw [if_neg h1, if_neg h2]
      unfold q_in
      rw [fa_eq] at h1 h2
      have e1 : (1 : Int32).toInt = 1 := rfl
      have e2 : (2 : Int32).toInt = 2 := rfl
      rw [e1] at h1
      rw [e2] at h2
      by_cases h3 : a < 1
      · rw [if_pos h3]
      · rw [if_neg h3, if_pos]
        rw [fa_lt, e1] at h3
        rw [fa_lt, e2]; omega
theorem e_tide {c m : St} (h : EQ c m) (p t : Int32) : q_X2_tideAt c p t = q_tideOf m p t := by
  unfold q_X2_tideAt q_tideOf k33t0_tideOf
  rw [h 4 rfl, h 5 rfl, i0s]
theorem e_crew {c m : St} (h : EQ c m) (hn : c 54 2 = m 21 0) (boat day : Int32) : ∀ (n i : Nat) (x : Int32), lf_X5_crewMinutes_5 c boat day n i x = lf_hoursOf_5 m boat day n i x := by
  intro n
  induction n with
  | zero => intro i x; rfl
  | succ n ih =>
    intro i x
    simp only [lf_X5_crewMinutes_5, lf_hoursOf_5, in12]
    rw [hn, h 22 rfl, h 23 rfl, h 26 rfl, h 27 rfl]
    by_cases e0 : m 21 0 ≤ nI i
    · rw [if_pos e0, if_pos e0]
    · rw [if_neg e0, if_neg e0, ih]
      congr 1
      by_cases e1 : m 22 (nI i).toNatClampNeg = 1 <;> by_cases e2 : m 22 (nI i).toNatClampNeg = 2 <;> by_cases e3 : m 23 (nI i).toNatClampNeg = boat <;> by_cases e4 : m 26 (nI i).toNatClampNeg / 1440 = day <;> simp [e1, e2, e3, e4]
theorem e_hours {c m : St} (h : EQ c m) (hn : c 54 2 = m 21 0) (boat day : Int32) : q_X5_crewMinutes c boat day = q_hoursOf m boat day := e_crew h hn boat day 61 0 0
theorem and1 (A B : Int32) : (A &&& B) &&& 1 = (A &&& 1) &&& (B &&& 1) := by
  rw [Int32.and_assoc A 1, Int32.and_comm 1 (B &&& 1), Int32.and_assoc B 1 1, Int32.and_self, Int32.and_assoc]
theorem bit1 (A : Int32) : A &&& 1 = 0 ∨ A &&& 1 = 1 := by
  obtain ⟨j, hj, e⟩ := pk_andE A (m := 1) 1 (by decide)
  have hj2 : j = 0 ∨ j = 1 := by omega
  rcases hj2 with rfl | rfl
  · exact Or.inl e
  · exact Or.inr e
theorem e_barred {c m : St} (h : EQ c m) (b f t : Int32) : (c 20 b.toNatClampNeg = 0 ∧ c 19 b.toNatClampNeg = f ∧ ¬ q_X0_fits c b f = 0 ∧ ¬ q_X0_fits c b t = 0) ↔ q_isBarred m b f t = 0 := by
  unfold q_isBarred k46t0_isBarred q_X0_fits
  rw [h 20 rfl, h 19 rfl, h 18 rfl, and1]
  by_cases e1 : m 20 b.toNatClampNeg = 0
  · by_cases e2 : m 19 b.toNatClampNeg = f
    · rcases bit1 (m 18 b.toNatClampNeg >>> (f &&& 31)) with e3 | e3 <;> rcases bit1 (m 18 b.toNatClampNeg >>> (t &&& 31)) with e4 | e4 <;> rw [e3, e4] <;> simp [e1, e2]
    · simp [e1, e2]
  · simp [e1]
theorem e_rough {c m : St} (h : EQ c m) (s : Int32) : (if c 17 (c 23 s.toNatClampNeg).toNatClampNeg < c 7 (c 24 s.toNatClampNeg).toNatClampNeg then (5 : Int32) else (if c 7 (c 25 s.toNatClampNeg).toNatClampNeg ≤ c 17 (c 23 s.toNatClampNeg).toNatClampNeg then (0 : Int32) else (5 : Int32))) = if q_isRough m s = 0 then (0 : Int32) else (5 : Int32) := by
  unfold q_isRough k50t0_isRough
  rw [h 17 rfl, h 23 rfl, h 7 rfl, h 24 rfl, h 25 rfl]
  generalize m 17 (m 23 s.toNatClampNeg).toNatClampNeg = x
  generalize m 7 (m 24 s.toNatClampNeg).toNatClampNeg = y
  generalize m 7 (m 25 s.toNatClampNeg).toNatClampNeg = z
  by_cases a1 : y ≤ z
  · rw [if_pos a1]
    by_cases a2 : z ≤ x
    · rw [if_pos a2, if_pos a2, if_neg (by rw [fa_lt]; rw [fa_le] at a1 a2; omega)]; rfl
    · rw [if_neg a2, if_neg a2]
      by_cases a3 : x < y
      · rw [if_pos a3]; rfl
      · rw [if_neg a3]; rfl
  · rw [if_neg a1]
    by_cases a2 : y ≤ x
    · rw [if_pos a2, if_neg (by rw [fa_lt]; rw [fa_le] at a2; omega), if_pos (by rw [fa_le]; rw [fa_le] at a1 a2; omega)]; rfl
    · rw [if_neg a2, if_pos (by rw [fa_lt]; rw [fa_le] at a2; omega)]; rfl
theorem e_night {c m : St} (h : EQ c m) (s t : Int32) : q_X5_reasonOfNightOrSwell c s t = if q_isDark m s t = 0 then (if q_isRough m s = 0 then (0 : Int32) else (5 : Int32)) else (4 : Int32) := by
  unfold q_X5_reasonOfNightOrSwell
  rw [e_rough h]
  unfold q_isDark k39t0_isDark q_X5_isNight k25t0_X5_isNight
  rw [h 6 rfl, h 25 rfl]
  by_cases a1 : m 6 (m 25 s.toNatClampNeg).toNatClampNeg = 0
  · rw [if_pos a1, if_pos a1]
  · rw [if_neg a1, if_neg a1]; rfl
theorem e_water {c m : St} (h : EQ c m) (b p t : Int32) : (c 13 b.toNatClampNeg ≤ q_X2_waterAt c p t) ↔ q_isShallow m b p t = 0 := by
  unfold q_X2_waterAt q_isShallow
  rw [h 13 rfl, h 3 rfl, e_tide h]
  by_cases a1 : m 13 b.toNatClampNeg ≤ m 3 p.toNatClampNeg + q_tideOf m p t <;> simp [a1]
theorem e_reason {c m : St} (h : EQ c m) (hn : c 54 2 = m 21 0) (s t : Int32) : q_X5_reasonAtDeparture c s t = q_reasonOf m s t := by
  have b1 := e_barred h (c 23 s.toNatClampNeg) (c 24 s.toNatClampNeg) (c 25 s.toNatClampNeg)
  have w1 := e_water h (c 23 s.toNatClampNeg) (c 24 s.toNatClampNeg) t
  have w2 := e_water h (c 23 s.toNatClampNeg) (c 25 s.toNatClampNeg) (t + c 27 s.toNatClampNeg)
  have hh := e_hours h hn (c 23 s.toNatClampNeg) (t / 1440)
  unfold q_X5_reasonAtDeparture q_reasonOf k124t0_reasonOf
  rw [e_night h, ← h 23 rfl, ← h 24 rfl, ← h 25 rfl, ← h 27 rfl, hh]
  simp only [i_lt]
  by_cases a1 : q_isBarred m (c 23 s.toNatClampNeg) (c 24 s.toNatClampNeg) (c 25 s.toNatClampNeg) = 0
  · obtain ⟨p1, p2, p3, p4⟩ := b1.mpr a1
    rw [if_pos p1, if_pos p2, if_neg p3, if_neg p4, if_pos a1]
    by_cases a0 : q_hoursOf m (c 23 s.toNatClampNeg) (t / 1440) + c 27 s.toNatClampNeg ≤ 720
    case neg => rw [if_neg a0, if_neg a0]
    rw [if_pos a0, if_pos a0]
    by_cases a2 : q_isShallow m (c 23 s.toNatClampNeg) (c 24 s.toNatClampNeg) t = 0
    · rw [if_neg (fun z => z (w1.mpr a2)), if_pos a2]
      by_cases a3 : q_isShallow m (c 23 s.toNatClampNeg) (c 25 s.toNatClampNeg) (t + c 27 s.toNatClampNeg) = 0
      · rw [if_pos (w2.mpr a3), if_pos a3]
      · rw [if_neg (fun z => a3 (w2.mp z)), if_neg a3]
    · rw [if_pos (fun z => a2 (w1.mp z)), if_neg a2]
  · rw [if_neg a1]
    by_cases p1 : c 20 (c 23 s.toNatClampNeg).toNatClampNeg = 0
    · rw [if_pos p1]
      by_cases p2 : c 19 (c 23 s.toNatClampNeg).toNatClampNeg = c 24 s.toNatClampNeg
      · rw [if_pos p2]
        by_cases p3 : q_X0_fits c (c 23 s.toNatClampNeg) (c 24 s.toNatClampNeg) = 0
        · rw [if_pos p3]
        · rw [if_neg p3]
          by_cases p4 : q_X0_fits c (c 23 s.toNatClampNeg) (c 25 s.toNatClampNeg) = 0
          · rw [if_pos p4]
          · exact absurd (b1.mp ⟨p1, p2, p3, p4⟩) a1
      · rw [if_neg p2]
    · rw [if_neg p1]
theorem e_decide {c m : St} (h : EQ c m) (s : Int32) : q_X5_reasonAtDecision c s = k96t0_decide m s := by
  unfold q_X5_reasonAtDecision k96t0_decide q_X3_arrival
  rw [e_night h, h 20 rfl, h 23 rfl, h 26 rfl, h 27 rfl]
theorem e_cap (x : Int32) : (if 5000 < x then (5000 : Int32) else x) = if x ≤ 5000 then x else 5000 := by
  by_cases a : x ≤ 5000
  · rw [if_pos a, if_neg (fun z => (fa_of_lt z).2.1 a)]
  · rw [if_neg a, if_pos (fa_of_nle a)]
theorem e_fare {c m : St} (h : EQ c m) (hk : ∀ j, vp_in (m 37 j) 3) (b : Int32) : q_X5_fare c b = q_fareOf m b := by
  have hk1 := hk b.toNatClampNeg
  obtain ⟨j, hj, e⟩ := vp_in_of hk1 (by decide)
  have e1 : ¬ m 37 b.toNatClampNeg < 0 := fun z => hk1 (Or.inl z)
  have e2 : m 37 b.toNatClampNeg < 3 := by rw [e]; exact nI_lt hj (by decide)
  have e3 : k68t0_X5_fare c b = k35t0_fareOf m b := by
    unfold k68t0_X5_fare k35t0_fareOf
    rw [h 37 rfl, h 38 rfl, h 48 rfl]
  unfold q_X5_fare q_fareOf k68t0_fareOf
  rw [in12, h 35 rfl, h 37 rfl, if_neg e1, if_pos e2, e3, e_cap]
  by_cases a1 : m 35 b.toNatClampNeg = 1
  · rw [if_pos a1, if_pos a1]; exact (if_neg (by decide)).symm
  · rw [if_neg a1, if_neg a1]
    by_cases a2 : m 35 b.toNatClampNeg = 2
    · rw [if_pos a2, if_pos a2]; exact (if_neg (by decide)).symm
    · rw [if_neg a2, if_neg a2]; rfl
theorem e_ahead {c m : St} (h : EQ c m) {a b : Int32} (h1 : c 55 a.toNatClampNeg = a) (h2 : c 55 b.toNatClampNeg = b) : q_X1_isAheadOf c a b = q_isAhead m a b := by
  unfold q_X1_isAheadOf q_isAhead k90t0_X1_isAheadOf k106t0_isAhead
  rw [h 41 rfl, h 37 rfl, h 43 rfl, h1, h2]
theorem e_waits {c m : St} (h : EQ c m) (a s : Int32) : q_X1_waitsFor c a s = if m 35 a.toNatClampNeg = 0 then (if m 36 a.toNatClampNeg = s then 1 else 0) else 0 := by
  unfold q_X1_waitsFor
  rw [h 35 rfl, h 36 rfl]
theorem e_len0 {c m : St} (h : EQ c m) (s b : Int32) : q_X3_hasLength c s (2 * s) b = q_hasLength m s 0 b := by
  unfold q_X3_hasLength q_hasLength k36t0_hasLength
  rw [h 14 rfl, h 23 rfl, h 33 rfl, h 38 rfl, Int32.add_zero]
theorem e_len1 {c m : St} (h : EQ c m) (s b : Int32) : q_X3_hasLength c s (2 * s + 1) b = q_hasLength m s 1 b := by
  unfold q_X3_hasLength q_hasLength k36t0_hasLength
  rw [h 14 rfl, h 23 rfl, h 33 rfl, h 38 rfl]
theorem i_ne1 (x : Int32) : ¬ x + 1 = x := fun h => by
  have := congrArg (fun z => z - x) h
  simp only [Int32.sub_self] at this
  rw [Int32.add_comm, Int32.add_sub_cancel] at this
  exact absurd this (by decide)
theorem opp0 (c : St) (s : Int32) : q_X3_opposite c s (2 * s) = 2 * s + 1 := if_pos rfl
theorem opp1 (c : St) (s : Int32) : q_X3_opposite c s (2 * s + 1) = 2 * s := if_neg (i_ne1 _)
theorem e_can0 {c m : St} (h : EQ c m) (s b : Int32) : q_X3_canTake c s (2 * s) b = q_canBe m s 0 b := by
  unfold q_X3_canTake k47t0_X3_canTake q_canBe k74t0_canBe k55t0_canBe
  rw [e_len0 h, opp0, h 16 rfl, h 23 rfl, h 32 rfl, h 39 rfl, i0s, Int32.add_zero, Int32.sub_zero]
theorem e_can1 {c m : St} (h : EQ c m) (s b : Int32) : q_X3_canTake c s (2 * s + 1) b = q_canBe m s 1 b := by
  unfold q_X3_canTake k47t0_X3_canTake q_canBe k74t0_canBe k55t0_canBe
  rw [e_len1 h, opp1, h 16 rfl, h 23 rfl, h 32 rfl, h 39 rfl, i0s, Int32.add_sub_cancel]
