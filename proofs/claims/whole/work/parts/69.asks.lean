/-! what state a sailing is in -/
def VS (c : St) : Prop := ∀ n, c 22 n = 0 ∨ c 22 n = 1 ∨ c 22 n = 2 ∨ c 22 n = 3
theorem VS_22 {c : St} (h : VS c) {j : Nat} {v : Int32} (hv : v = 0 ∨ v = 1 ∨ v = 2 ∨ v = 3) : VS (st c 22 j v) := fun n => by
  rw [st_at]
  by_cases e : 22 = 22 ∧ n = j
  · rw [if_pos e]; exact hv
  · rw [if_neg e]; exact h n
theorem VS_of {c c' : St} (h : VS c) (e : c' 22 = c 22) : VS c' := fun n => by rw [e]; exact h n
theorem VS_ite {P : Prop} {d : Decidable P} {a b : St} (ha : VS a) (hb : VS b) : VS (if P then a else b) := by
  by_cases p : P
  · rw [if_pos p]; exact ha
  · rw [if_neg p]; exact hb
theorem land_22 {c : St} {o : Int32} : s_X3_land c o 22 = c 22 := by
  have key : ∀ (n i : Nat) (d : St), lf_X3_land_2 c o n i d 22 = d 22 := by
    intro n
    induction n with
    | zero => intro i d; rfl
    | succ n ih =>
      intro i d
      simp only [lf_X3_land_2]
      split
      · rfl
      · rw [ih, st_nf _ _ _ (by decide)]
  exact key 101 0 c
theorem endGap_22 {c : St} {o t : Int32} : s_X2_endGap c o t 22 = c 22 := by
  unfold s_X2_endGap
  rw [st_nf _ _ _ (by decide), st_nf _ _ _ (by decide), st_nf _ _ _ (by decide), st_nf _ _ _ (by decide)]
theorem VS_cancel {c : St} (h : VS c) {s w : Int32} : VS (s_X5_cancel c s w) := by
  have key : ∀ (n i : Nat) (d : St), lf_X5_cancel_20 c s w n i d 22 = d 22 := by
    intro n
    induction n with
    | zero => intro i d; rfl
    | succ n ih =>
      intro i d
      simp only [lf_X5_cancel_20]
      split
      · rfl
      · rw [ih]
        split
        · rfl
        · rw [leave_f (by decide)]
  refine VS_of (c := st c 22 s.toNatClampNeg 3) (VS_22 h (by decide)) ?_
  unfold s_X5_cancel
  rw [key, tell_f (by decide), st_nf _ _ _ (by decide)]
theorem VS_sail {c : St} (h : VS c) {s : Int32} : VS (s_X5_sail c s) := by
  have key : ∀ (n i : Nat) (d : St), lf_X5_sail_15 c s n i d 22 = d 22 := by
    intro n
    induction n with
    | zero => intro i d; rfl
    | succ n ih =>
      intro i d
      simp only [lf_X5_sail_15]
      split
      · rfl
      · split
        · rfl
        · rw [ih]
          split
          · rw [take_f (by decide)]
          · rw [leave_f (by decide), st_nf _ _ _ (by decide)]
  refine VS_of (c := st c 22 s.toNatClampNeg 1) (VS_22 h (by decide)) ?_
  unfold s_X5_sail
  rw [key, st_nf _ _ _ (by decide)]
theorem VS_pass {c : St} (h : VS c) (k : Int32) : VS (s_X5_pass c k) := by
  have arr : ∀ (n i : Nat) (c0 d : St), VS d → VS (lf_X5_letArrive_2 c0 n i d) := by
    intro n
    induction n with
    | zero => intro i c0 d hd; exact hd
    | succ n ih =>
      intro i c0 d hd
      simp only [lf_X5_letArrive_2]
      refine VS_ite hd (ih _ _ _ (VS_ite (VS_ite ?_ hd) hd))
      exact VS_of (VS_of (VS_of (VS_22 hd (v := 2) (by decide)) (st_nf _ _ _ (by decide))) endGap_22) land_22
  have dec : ∀ (n i : Nat) (c0 d : St), VS d → VS (lf_X5_decideTheDay_2 c0 n i d) := by
    intro n
    induction n with
    | zero => intro i c0 d hd; exact hd
    | succ n ih =>
      intro i c0 d hd
      simp only [lf_X5_decideTheDay_2]
      exact VS_ite hd (ih _ _ _ (VS_ite (VS_ite (VS_ite hd (VS_cancel hd)) hd) hd))
  have dep : ∀ (n i : Nat) (c0 d : St), VS d → VS (lf_X5_letDepart_2 c0 n i d) := by
    intro n
    induction n with
    | zero => intro i c0 d hd; exact hd
    | succ n ih =>
      intro i c0 d hd
      simp only [lf_X5_letDepart_2]
      exact VS_ite hd (ih _ _ _ (VS_ite (VS_ite (VS_ite (VS_sail hd) (VS_cancel hd)) hd) hd))
  have key : ∀ (n i : Nat) (d : St), VS d → VS (lf_X5_pass_17 c k n i d) := by
    intro n
    induction n with
    | zero => intro i d hd; exact hd
    | succ n ih =>
      intro i d hd
      simp only [lf_X5_pass_17]
      refine VS_ite hd (VS_ite hd (ih _ _ (dep 61 0 _ _ ?_)))
      have h1 : VS (s_X5_letArrive (st d 1 0 (q_X5_nextMinuteOfNote d (c 1 0 + k)))) := arr 61 0 _ _ (VS_of hd (st_nf _ _ _ (by decide)))
      exact VS_ite (dec 61 0 _ _ h1) h1
  exact key 1501 0 c h
/-! the calls that ask, and those that tell no object: both sides alike -/
theorem w2 {P Q : Prop} {dP : Decidable P} {dQ : Decidable Q} : (if (if P then (1 : Int32) else 0) = 0 then (1 : Int32) else (if (if Q then (1 : Int32) else 0) = 0 then (2 : Int32) else 0)) = kA (if P then (if Q then (0 : Int32) else 1) else 3) := by
  by_cases p : P <;> by_cases q : Q <;> simp [p, q, kA]
theorem t2 {P Q : Prop} {dP : Decidable P} {dQ : Decidable Q} (h : (if P then (if Q then (0 : Int32) else 1) else 3) = 0) : P ∧ Q := by
  by_cases p : P
  · rw [if_pos p] at h
    by_cases q : Q
    · exact ⟨p, q⟩
    · rw [if_neg q] at h; exact absurd h (by decide)
  · rw [if_neg p] at h; exact absurd h (by decide)
theorem w2z {P Q : Prop} {dP : Decidable P} {dQ : Decidable Q} (p : P) (q : Q) : (if (if P then (1 : Int32) else 0) = 0 then (1 : Int32) else (if (if Q then (1 : Int32) else 0) = 0 then (2 : Int32) else 0)) = 0 := by
  rw [if_pos p, if_pos q]; rfl
theorem EQ_w {c m : St} (h : EQ c m) {w : Int32} : EQ c (s_refused m w) := EQ_r h rfl
theorem w3 {P Q : Prop} {dP : Decidable P} {dQ : Decidable Q} : (if (if P then (1 : Int32) else 0) = 0 then (1 : Int32) else (if Q then (0 : Int32) else 2)) = kB (if P then (if Q then (0 : Int32) else 2) else 3) := by
  by_cases p : P <;> by_cases q : Q <;> simp [p, q, kB]
theorem w4 {P Q R : Prop} {dP : Decidable P} {dQ : Decidable Q} {dR : Decidable R} : (if (if (if P then (1 : Int32) else 0) = 0 then (0 : Int32) else (if (if Q then (1 : Int32) else 0) = 0 then (0 : Int32) else 1)) = 0 then (1 : Int32) else (if R then (2 : Int32) else 0)) = kA (if P then (if Q then (if R then (1 : Int32) else 0) else 3) else 3) := by
  by_cases p : P <;> by_cases q : Q <;> by_cases r : R <;> simp [p, q, r, kA]
theorem t2n {P Q : Prop} {dP : Decidable P} {dQ : Decidable Q} {a b : St} (h : ¬ (if P then (if Q then (0 : Int32) else 1) else 3) = 0) : (if P then (if Q then a else b) else b) = b := by
  by_cases p : P
  · rw [if_pos p] at h ⊢
    by_cases q : Q
    · rw [if_pos q] at h; exact absurd rfl h
    · rw [if_neg q]
  · rw [if_neg p]
theorem t3n {P Q R : Prop} {dP : Decidable P} {dQ : Decidable Q} {dR : Decidable R} {a b : St} (h : ¬ (if P then (if Q then (if R then (1 : Int32) else 0) else 3) else 3) = 0) : (if P then (if Q then (if R then b else a) else b) else b) = b := by
  by_cases p : P
  · rw [if_pos p] at h ⊢
    by_cases q : Q
    · rw [if_pos q] at h ⊢
      by_cases r : R
      · rw [if_pos r]
      · rw [if_neg r] at h; exact absurd rfl h
    · rw [if_neg q]
  · rw [if_neg p]
theorem goes_0 {m : St} {b w : Int32} : s_goesOver m b w 0 = m 0 := by
  unfold s_goesOver
  split
  · rw [st_nf _ _ _ (by decide), st_nf _ _ _ (by decide), st_nf _ _ _ (by decide)]
  · rw [st_nf _ _ _ (by decide), st_nf _ _ _ (by decide), st_nf _ _ _ (by decide)]
theorem comes_0 {m : St} {s b : Int32} : s_comes m s b 0 = m 0 := by
  unfold s_comes
  rw [st_nf _ _ _ (by decide), st_nf _ _ _ (by decide), st_nf _ _ _ (by decide), st_nf _ _ _ (by decide), st_nf _ _ _ (by decide), st_nf _ _ _ (by decide)]
theorem mcancel_0 {m : St} {s w : Int32} : s_cancel m s w 0 = m 0 := by
  have key : ∀ (n i : Nat) (d : St), lf_cancel_56 m s w n i d 0 = d 0 := by
    intro n
    induction n with
    | zero => intro i d; rfl
    | succ n ih =>
      intro i d
      simp only [lf_cancel_56]
      split
      · rfl
      · rw [ih]
        split
        · split
          · exact goes_0
          · rfl
        · rfl
  unfold s_cancel
  rw [key, st_nf _ _ _ (by decide), st_nf _ _ _ (by decide), st_nf _ _ _ (by decide)]
theorem arrive_0 {m : St} {s : Int32} : s_arrive m s 0 = m 0 := by
  have key : ∀ (n i : Nat) (d : St), lf_arrive_28 m s n i d 0 = d 0 := by
    intro n
    induction n with
    | zero => intro i d; rfl
    | succ n ih =>
      intro i d
      simp only [lf_arrive_28]
      split
      · rfl
      · rw [ih, st_nf _ _ _ (by decide)]
  unfold s_arrive
  rw [st_nf _ _ _ (by decide), st_nf _ _ _ (by decide)]
  split
  · rw [key, st_nf _ _ _ (by decide), st_nf _ _ _ (by decide)]
  · rw [st_nf _ _ _ (by decide), st_nf _ _ _ (by decide), key, st_nf _ _ _ (by decide), st_nf _ _ _ (by decide)]
theorem depart_0 {m : St} {s : Int32} : s_depart m s 0 = m 0 := by
  have k1 : ∀ (n i : Nat) (d : St), lf_depart_42 m s n i d 0 = d 0 := by
    intro n
    induction n with
    | zero => intro i d; rfl
    | succ n ih =>
      intro i d
      simp only [lf_depart_42]
      split
      · rfl
      · rw [ih, st_nf _ _ _ (by decide)]
  have k2 : ∀ (n : Nat) (x : Int32) (d : St), (lf_depart_69 m s n x d).2 0 = d 0 := by
    intro n
    induction n with
    | zero => intro x d; rfl
    | succ n ih =>
      intro x d
      simp only [lf_depart_69]
      split
      · rfl
      · rw [ih]
        split
        · rw [comes_0, st_nf _ _ _ (by decide)]
        · rw [goes_0, st_nf _ _ _ (by decide), st_nf _ _ _ (by decide)]
  unfold s_depart
  split
  · rw [k2, k1, st_nf _ _ _ (by decide), st_nf _ _ _ (by decide)]
  · exact mcancel_0
theorem decide_0 {d : St} {s : Int32} : s_decide d s 0 = d 0 := by
  unfold s_decide
  by_cases a : d 22 s.toNatClampNeg = 0
  · rw [if_pos a]
    by_cases b : d 26 s.toNatClampNeg / 1440 = d 1 0 / 1440
    · rw [if_pos b, if_neg (show ¬ (1 : Int32) = 0 by decide)]
      by_cases e : k96t0_decide d s ≤ 0
      · rw [if_pos e]
      · rw [if_neg e]; exact mcancel_0
    · rw [if_neg b, if_pos rfl]
  · rw [if_neg a]
theorem passes_0 {m : St} : s_passes m 0 = m 0 := by
  have k1 : ∀ (n i : Nat) (d : St), lf_passes_12 m n i d 0 = d 0 := by
    intro n
    induction n with
    | zero => intro i d; rfl
    | succ n ih =>
      intro i d
      simp only [lf_passes_12]
      split
      · rfl
      · rw [ih]
        split
        · split
          · exact arrive_0
          · rfl
        · rfl
  have k2 : ∀ (n i : Nat) (d : St), lf_passes_63 m n i d 0 = d 0 := by
    intro n
    induction n with
    | zero => intro i d; rfl
    | succ n ih =>
      intro i d
      simp only [lf_passes_63]
      split
      · rfl
      · split
        · rw [ih, decide_0]
        · rfl
  have k3 : ∀ (n i : Nat) (d : St), lf_passes_98 m n i d 0 = d 0 := by
    intro n
    induction n with
    | zero => intro i d; rfl
    | succ n ih =>
      intro i d
      simp only [lf_passes_98]
      split
      · rfl
      · rw [ih]
        split
        · split
          · exact depart_0
          · rfl
        · rfl
  unfold s_passes
  rw [k3, k2, k1, st_nf _ _ _ (by decide)]
theorem RF_rf {N : Nat → Nat} {t : Nat} {c m : St} (h : RF N t c m) (w : Int32) : RF N t c (s_refused m w) := ⟨RB_m h.1 (Or.inl rfl), h.2⟩
theorem RF_st {N : Nat → Nat} {t : Nat} {c m : St} (h : RF N t c m) {f j : Nat} {v : Int32} (hf : f ∉ [1, 2, 12, 21, 34, 54, 36, 35, 50, 42, 46, 30, 40, 51, 22, 23, 24, 25, 26, 55]) (h100 : f < 100) (hd : (7 ≤ f ∧ f ≤ 11 → j < N 4) ∧ (f = 20 → j < N 5) ∧ (f = 29 ∨ f = 31 → j < N 6) ∧ (f = 32 ∨ f = 33 → j < 2 * N 6) ∧ (f = 43 ∨ f = 44 → j < N 8)) : RF N t (st c f j v) (st m f j v) := by
  have hf2 := hf
  simp only [List.mem_cons, List.not_mem_nil, or_false, not_or] at hf2
  refine ⟨RB_st h.1 hf h100 hd, fun n hn => ?_, ?_⟩
  · rw [st_nf _ _ _ (show (22 : Nat) ≠ f by omega), st_nf _ _ _ (show (26 : Nat) ≠ f by omega), st_nf _ _ _ (show (1 : Nat) ≠ f by omega)]; exact h.2.1 n hn
  · rw [st_nf _ _ _ (show (1 : Nat) ≠ f by omega)]; exact h.2.2
theorem isP {N : Nat → Nat} {c m : St} (h : CT N c m) (p : Int32) : q_isPier m p = if ¬ p < 0 ∧ p < c 54 0 then 1 else 0 := by
  unfold q_isPier
  rw [h.2.1.1, h.1.1, in_no _ (by have := h.2.2.1; omega)]
theorem isBo {N : Nat → Nat} {c m : St} (h : CT N c m) (p : Int32) : q_isBoat m p = if ¬ p < 0 ∧ p < c 54 1 then 1 else 0 := by
  unfold q_isBoat
  rw [h.2.1.2.1, h.1.2.1, in_no _ (by have := h.2.2.2.1; omega)]
theorem isS {N : Nat → Nat} {c m : St} (h : CT N c m) (p : Int32) : q_isSailing m p = if ¬ p < 0 ∧ p < c 54 2 then 1 else 0 := by
  unfold q_isSailing
  rw [h.2.1.2.2.1, h.1.2.2.1, in_no _ (by have := h.2.2.2.2.1; omega)]
theorem isK {N : Nat → Nat} {c m : St} (h : CT N c m) (p : Int32) : q_in p 0 (m 34 0 - 1) = if ¬ p < 0 ∧ p < c 54 3 then 1 else 0 := by
  rw [h.2.1.2.2.2, h.1.2.2.2, in_no _ (by have := h.2.2.2.2.2; omega)]
theorem both_tide {N : Nat → Nat} {t : Nat} {c m : St} (h : RF N t c m) (p x : Int32) : s_tide m p x 0 0 = kA (t_X5_tide c p x) ∧ (t_X5_tide c p x = 0 → q_tide m p x = q_X5_tide c p x) ∧ RF N t c (s_tide m p x) := by
  have hc := h.1.2.1
  refine ⟨?_, fun h0 => ?_, RF_rf h _⟩
  · unfold s_tide s_refused t_X5_tide
    rw [st_self, isP hc, in_iff2]; exact w2
  · unfold t_X5_tide at h0
    obtain ⟨p1, p2⟩ := t2 h0
    unfold q_tide k44t0_tide q_X5_tide
    simp only [rf_if]
    rw [← e_tide (EQ_w h.1.1) p x, isP hc, in_iff2, if_pos (w2z p1 p2), if_pos p1, if_pos p2]
theorem both_gap {N : Nat → Nat} {t : Nat} {c m : St} (h : RF N t c m) (p x : Int32) : s_gap m p x 0 0 = kA (t_X5_gap c p x) ∧ (t_X5_gap c p x = 0 → q_gap m p x = q_X5_gap c p x) ∧ RF N t c (s_gap m p x) := by
  have hc := h.1.2.1
  have es : s_gap m p x = s_refused m (if q_isPier m p = 0 then 1 else (if q_in x 0 2 = 0 then 2 else 0)) := by unfold s_gap; simp only [ite_self]
  refine ⟨?_, fun h0 => ?_, by rw [es]; exact RF_rf h _⟩
  · rw [es]
    unfold s_refused t_X5_gap
    simp only [ite_self]
    rw [st_self, isP hc, in_iff2]; exact w2
  · unfold t_X5_gap at h0
    simp only [ite_self] at h0
    obtain ⟨p1, p2⟩ := t2 h0
    unfold q_gap k115t0_gap q_X5_gap q_X2_longestGapAt q_X2_longestCauseAt q_X2_gapAt
    simp only [rf_if, i_lt]
    rw [isP hc, in_iff2, if_pos (w2z p1 p2), h.1.1 1 rfl, h.1.1 8 rfl, h.1.1 9 rfl, h.1.1 10 rfl, h.1.1 11 rfl]
    have p1' : ¬ p < 0 ∧ p < c 54 0 := p1
    rw [if_pos (show ¬ ¬ 0 ≤ p ∧ ¬ c 54 0 ≤ p from ⟨fun z => p1.1 ((i_lt _ _).mpr z), (i_lt _ _).mp p1.2⟩), if_pos (show ¬ ¬ 0 ≤ x ∧ x ≤ 2 from ⟨fun z => p2.1 ((i_lt _ _).mpr z), p2.2⟩)]
    by_cases e1 : x = 0
    · rw [if_pos e1, if_pos e1]
    · rw [if_neg e1, if_neg e1]
      by_cases e2 : x = 1
      · rw [if_pos e2, if_pos e2]
        by_cases e3 : m 1 0 - m 8 p.toNatClampNeg ≤ m 10 p.toNatClampNeg
        · simp [e3]
        · simp [e3]
      · rw [if_neg e2, if_neg e2]
        by_cases e3 : m 1 0 - m 8 p.toNatClampNeg ≤ m 10 p.toNatClampNeg
        · simp [e3]
        · simp [e3]
theorem both_boatOf {N : Nat → Nat} {t : Nat} {c m : St} (h : RF N t c m) (p x : Int32) : s_boatOf m p x 0 0 = kA (t_X5_boatOf c p x) ∧ (t_X5_boatOf c p x = 0 → q_boatOf m p x = q_X5_boatOf c p x) ∧ RF N t c (s_boatOf m p x) := by
  have hc := h.1.2.1
  have es : s_boatOf m p x = s_refused m (if q_isBoat m p = 0 then 1 else (if q_in x 0 2 = 0 then 2 else 0)) := by unfold s_boatOf; simp only [ite_self]
  refine ⟨?_, fun h0 => ?_, by rw [es]; exact RF_rf h _⟩
  · rw [es]
    unfold s_refused t_X5_boatOf
    simp only [ite_self]
    rw [st_self, isBo hc, in_iff2]; exact w2
  · unfold t_X5_boatOf at h0
    simp only [ite_self] at h0
    obtain ⟨p1, p2⟩ := t2 h0
    have hh : q_hoursOf (s_refused m (if q_isBoat m p = 0 then 1 else (if q_in x 0 2 = 0 then 2 else 0))) p (m 1 0 / 1440) = q_X5_crewMinutes c p (m 1 0 / 1440) := (e_hours (EQ_w h.1.1) (by unfold s_refused; rw [st_nf _ _ _ (by decide), hc.1.2.2.1, hc.2.1.2.2.1]) p _).symm
    unfold q_boatOf k83t0_boatOf q_X5_boatOf
    simp only [rf_if]
    rw [hh, isBo hc, in_iff2, if_pos (w2z p1 p2), if_pos p1, if_pos p2, h.1.1 1 rfl, h.1.1 19 rfl, h.1.1 20 rfl]
theorem both_sailingOf {N : Nat → Nat} {t : Nat} {c m : St} (h : RF N t c m) (p x : Int32) : s_sailingOf m p x 0 0 = kA (t_X5_sailingOf c p x) ∧ (t_X5_sailingOf c p x = 0 → q_sailingOf m p x = q_X5_sailingOf c p x) ∧ RF N t c (s_sailingOf m p x) := by
  have hc := h.1.2.1
  have es : s_sailingOf m p x = s_refused m (if q_isSailing m p = 0 then 1 else (if q_in x 0 6 = 0 then 2 else 0)) := by unfold s_sailingOf; simp only [ite_self]
  refine ⟨?_, fun h0 => ?_, by rw [es]; exact RF_rf h _⟩
  · rw [es]
    unfold s_refused t_X5_sailingOf
    simp only [ite_self]
    rw [st_self, isS hc, in_iff2]; exact w2
  · unfold t_X5_sailingOf at h0
    simp only [ite_self] at h0
    obtain ⟨p1, p2⟩ := t2 h0
    obtain ⟨j, hj, ej⟩ := vp_in_of (num_in p1 hc.1.2.2.1 (by have := hc.2.2.2.2.1; omega)) (by have := hc.2.2.2.2.1; omega)
    have h60 := hc.2.2.2.2.1
    obtain ⟨L, hL⟩ := (h.1.2.2.1 j hj).1
    have e3 : c 54 (2 * p + 4).toNatClampNeg = m 30 p.toNatClampNeg := by
      rw [ej, q4n (by omega), nI_clamp (by omega), hL.2.2.1.1, hL.2.2.1.2.2.1]
    unfold q_sailingOf q_X5_sailingOf
    simp only [rf_if]
    rw [isS hc, in_iff2, if_pos (w2z p1 p2), if_pos p1, if_pos p2, e3, h.1.1 22 rfl, h.1.1 29 rfl, h.1.1 23 rfl, h.1.1 32 rfl, h.1.1 31 rfl]
theorem both_bookingOf {N : Nat → Nat} {t : Nat} {c m : St} (h : RF N t c m) (hM : MI m) (p x : Int32) : s_bookingOf m p x 0 0 = kA (t_X5_bookingOf c p x) ∧ (t_X5_bookingOf c p x = 0 → q_bookingOf m p x = q_X5_bookingOf c p x) ∧ RF N t c (s_bookingOf m p x) := by
  have hc := h.1.2.1
  have es : s_bookingOf m p x = s_refused m (k33t0_bookingOf m p x) := by unfold s_bookingOf; simp only [ite_self]
  refine ⟨?_, fun h0 => ?_, by rw [es]; exact RF_rf h _⟩
  · rw [es]
    unfold s_refused t_X5_bookingOf k33t0_bookingOf
    simp only [ite_self]
    rw [st_self, isK hc, in_iff2]; exact w2
  · unfold t_X5_bookingOf at h0
    simp only [ite_self] at h0
    obtain ⟨p1, p2⟩ := t2 h0
    have hf : q_fareOf (s_refused m (k33t0_bookingOf m p x)) p = q_X5_fare c p := (e_fare (EQ_w h.1.1) (MI_kd (MI_rf hM)) p).symm
    unfold q_bookingOf q_X5_bookingOf
    simp only [rf_if]
    rw [hf]
    unfold k33t0_bookingOf
    rw [isK hc, in_iff2, if_pos (w2z p1 p2), if_pos p1, if_pos p2, h.1.1 35 rfl, h.1.1 36 rfl, h.1.1 44 rfl, h.1.1 43 rfl, h.1.1 45 rfl]
theorem both_against {N : Nat → Nat} {t : Nat} {c m : St} (h : RF N t c m) (p : Int32) : s_against m p 0 0 = kB (t_X5_against c p) ∧ (t_X5_against c p = 0 → q_against m p = q_X5_against c p) ∧ RF N t c (s_against m p) := by
  have hc := h.1.2.1
  refine ⟨?_, fun h0 => ?_, RF_rf h _⟩
  · unfold s_against s_refused t_X5_against
    rw [st_self, isS hc, h.1.1 22 rfl]
    exact w3
  · unfold t_X5_against at h0
    have p1 : ¬ p < 0 ∧ p < c 54 2 := Classical.byContradiction fun z => by rw [if_neg z] at h0; exact absurd h0 (by decide)
    rw [if_pos p1] at h0
    have p2 : c 22 p.toNatClampNeg = 0 := Classical.byContradiction fun z => by rw [if_neg z] at h0; exact absurd h0 (by decide)
    have p2' : m 22 p.toNatClampNeg = 0 := by rw [← h.1.1 22 rfl]; exact p2
    have ew : (if q_isSailing m p = 0 then (1 : Int32) else (if m 22 p.toNatClampNeg = 0 then 0 else 2)) = 0 := by rw [isS hc, if_pos p1, if_pos p2']; rfl
    have hh : q_reasonOf (s_refused m (if q_isSailing m p = 0 then (1 : Int32) else (if m 22 p.toNatClampNeg = 0 then 0 else 2))) p (m 1 0) = q_X5_reasonAtDeparture c p (m 1 0) := (e_reason (EQ_w h.1.1) (by unfold s_refused; rw [st_nf _ _ _ (by decide), hc.1.2.2.1, hc.2.1.2.2.1]) p _).symm
    unfold q_against k48t0_against q_X5_against
    simp only [rf_if]
    rw [hh, if_pos ew, if_pos p1, if_pos p2, h.1.1 1 rfl]
theorem both_rate {N : Nat → Nat} {t : Nat} {c m : St} (h : RF N t c m) (p x : Int32) : s_rate m p x 0 0 = kA (t_X5_rate c p x) ∧ (t_X5_rate c p x = 0 → q_rate m p x = q_X5_rate c p x) ∧ RF N t (s_X5_rate c p x) (s_rate m p x) := by
  have ew : k30t0_rate m p x = kA (t_X5_rate c p x) := by
    unfold k30t0_rate t_X5_rate
    rw [in_02, in_iff2]; exact w2
  by_cases h0 : t_X5_rate c p x = 0
  · have ew0 : k30t0_rate m p x = 0 := by rw [ew, h0]; rfl
    unfold t_X5_rate at h0
    obtain ⟨p1, p2⟩ := t2 h0
    have es : s_rate m p x = st (s_refused m 0) 48 p.toNatClampNeg x := by
      unfold s_rate; simp only [rf_if]; rw [ew0, if_pos rfl]
    refine ⟨?_, fun _ => ?_, ?_⟩
    · rw [← ew, ew0, es, st_nf _ _ _ (by decide)]; exact st_self _ _ _ _
    · unfold q_rate q_X5_rate
      simp only [rf_if]
      rw [if_pos ew0, if_pos p1, if_pos p2, h.1.1 48 rfl]
    · rw [es]
      unfold s_X5_rate
      rw [if_pos p1, if_pos p2]
      exact RF_st (RF_rf h 0) (by decide) (by decide) ⟨by omega, by omega, by omega, by omega, by omega⟩
  · have es : s_rate m p x = s_refused m (k30t0_rate m p x) := by
      unfold s_rate; simp only [rf_if]
      rw [if_neg]
      intro z; rw [ew] at z; unfold kA at z; rw [if_neg h0] at z; split at z
      · exact absurd z (by decide)
      · split at z <;> exact absurd z (by decide)
    have ec : s_X5_rate c p x = c := by
      unfold s_X5_rate
      unfold t_X5_rate at h0
      exact t2n h0
    refine ⟨?_, fun z => absurd z h0, ?_⟩
    · rw [es, ← ew]; exact st_self _ _ _ _
    · rw [es, ec]; exact RF_rf h _
theorem kA_ne {t : Int32} (h : ¬ t = 0) : ¬ kA t = 0 := fun z => by
  unfold kA at z; rw [if_neg h] at z
  split at z
  · exact absurd z (by decide)
  · split at z <;> exact absurd z (by decide)
theorem both_swell {N : Nat → Nat} {t : Nat} {c m : St} (h : RF N t c m) (p x : Int32) : s_swell m p x 0 0 = kA (t_X5_swell c p x) ∧ (t_X5_swell c p x = 0 → q_swell m p x = q_X5_swell c p x) ∧ RF N t (s_X5_swell c p x) (s_swell m p x) := by
  have hc := h.1.2.1
  have ew : (if q_isPier m p = 0 then (1 : Int32) else (if q_in x 0 9 = 0 then 2 else 0)) = kA (t_X5_swell c p x) := by
    unfold t_X5_swell
    rw [isP hc, in_iff2]; exact w2
  by_cases h0 : t_X5_swell c p x = 0
  · have ew0 : (if q_isPier m p = 0 then (1 : Int32) else (if q_in x 0 9 = 0 then 2 else 0)) = 0 := by rw [ew, h0]; rfl
    unfold t_X5_swell at h0
    obtain ⟨p1, p2⟩ := t2 h0
    have es : s_swell m p x = st (s_refused m 0) 7 p.toNatClampNeg x := by
      unfold s_swell; simp only [rf_if]; rw [ew0, if_pos rfl]
    refine ⟨?_, fun _ => ?_, ?_⟩
    · rw [← ew, ew0, es, st_nf _ _ _ (by decide)]; exact st_self _ _ _ _
    · unfold q_swell q_X5_swell
      simp only [rf_if]
      rw [if_pos ew0, if_pos p1, if_pos p2, h.1.1 7 rfl]
    · rw [es]
      unfold s_X5_swell
      rw [if_pos p1, if_pos p2]
      have hp : p.toNatClampNeg < N 4 := vp_lt (num_in p1 hc.1.1 (by have := hc.2.2.1; omega))
      exact RF_st (RF_rf h 0) (by decide) (by decide) ⟨fun _ => hp, by omega, by omega, by omega, by omega⟩
  · have es : s_swell m p x = s_refused m (if q_isPier m p = 0 then (1 : Int32) else (if q_in x 0 9 = 0 then 2 else 0)) := by
      unfold s_swell; simp only [rf_if]
      rw [if_neg]
      rw [ew]; exact kA_ne h0
    have ec : s_X5_swell c p x = c := by
      unfold s_X5_swell
      unfold t_X5_swell at h0
      exact t2n h0
    refine ⟨?_, fun z => absurd z h0, ?_⟩
    · rw [es, ← ew]; exact st_self _ _ _ _
    · rw [es, ec]; exact RF_rf h _
theorem both_breakDown {N : Nat → Nat} {t : Nat} {c m : St} (h : RF N t c m) (p : Int32) : s_breakDown m p 0 0 = kA (t_X5_breakDown c p) ∧ (t_X5_breakDown c p = 0 → q_breakDown m p = q_X5_breakDown c p) ∧ RF N t (s_X5_breakDown c p) (s_breakDown m p) := by
  have hc := h.1.2.1
  have en : vp_nar .boolean (if m 20 p.toNatClampNeg = 0 then (1 : Int32) else 0) = if m 20 p.toNatClampNeg = 0 then (1 : Int32) else 0 := nar_B (isB_if isB1 isB0)
  by_cases p1 : ¬ p < 0 ∧ p < c 54 1
  · have ew0 : (if q_isBoat m p = 0 then (1 : Int32) else 0) = 0 := by rw [isBo hc, if_pos p1]; rfl
    have es : s_breakDown m p = st (s_refused m 0) 20 p.toNatClampNeg (if m 20 p.toNatClampNeg = 0 then (1 : Int32) else 0) := by
      unfold s_breakDown; simp only [rf_if]; rw [ew0, if_pos rfl, en]
    refine ⟨?_, fun _ => ?_, ?_⟩
    · rw [es, st_nf _ _ _ (by decide)]
      unfold t_X5_breakDown
      rw [if_pos p1]; exact st_self _ _ _ _
    · unfold q_breakDown q_X5_breakDown
      simp only [rf_if]
      rw [if_pos ew0, if_pos p1, st_self, st_self, en, h.1.1 20 rfl]
    · rw [es]
      unfold s_X5_breakDown
      rw [if_pos p1, h.1.1 20 rfl]
      have hp : p.toNatClampNeg < N 5 := vp_lt (num_in p1 hc.1.2.1 (by have := hc.2.2.2.1; omega))
      exact RF_st (RF_rf h 0) (by decide) (by decide) ⟨by omega, fun _ => hp, by omega, by omega, by omega⟩
  · have ew1 : (if q_isBoat m p = 0 then (1 : Int32) else 0) = 1 := by rw [isBo hc, if_neg p1]; rfl
    have es : s_breakDown m p = s_refused m 1 := by
      unfold s_breakDown; simp only [rf_if]; rw [ew1, if_neg (by decide)]
    refine ⟨?_, fun z => ?_, ?_⟩
    · rw [es]
      unfold t_X5_breakDown
      rw [if_neg p1]; exact st_self _ _ _ _
    · unfold t_X5_breakDown at z
      rw [if_neg p1] at z; exact absurd z (by decide)
    · rw [es]
      unfold s_X5_breakDown
      rw [if_neg p1]; exact RF_rf h _
theorem perf_loop {N : Nat → Nat} {c m : St} (h : RB N c m) (hV : VS c) : ∀ (n i : Nat) (x y : Int32), lf_X5_performance_6 c n i x y = lf_share_6 m n i x y := by
  have hc := h.2.1
  intro n
  induction n with
  | zero => intro i x y; rfl
  | succ n ih =>
    intro i x y
    simp only [lf_X5_performance_6, lf_share_6, in12]
    rw [hc.1.2.2.1, hc.2.1.2.2.1, ← h.1 22 rfl, ← h.1 28 rfl]
    split
    · rfl
    · rw [ih]
      have hv := hV (nI i).toNatClampNeg
      have e1 : (if c 28 (nI i).toNatClampNeg = 0 then x else (if c 22 (nI i).toNatClampNeg = 0 then x else x + 1)) = x + (if c 28 (nI i).toNatClampNeg = 0 then 0 else (if c 22 (nI i).toNatClampNeg = 0 then 0 else 1)) := by
        by_cases a : c 28 (nI i).toNatClampNeg = 0 <;> by_cases b : c 22 (nI i).toNatClampNeg = 0 <;> simp [a, b]
      have e2 : (if c 28 (nI i).toNatClampNeg = 0 then y else (if c 22 (nI i).toNatClampNeg = 0 then y else y + (if c 22 (nI i).toNatClampNeg = 3 then 0 else 1))) = y + (if c 28 (nI i).toNatClampNeg = 0 then 0 else (if (if c 22 (nI i).toNatClampNeg = 1 then (1 : Int32) else (if c 22 (nI i).toNatClampNeg = 2 then 1 else 0)) = 0 then 0 else 1)) := by
        by_cases a : c 28 (nI i).toNatClampNeg = 0
        · simp [a]
        · rcases hv with b | b | b | b <;> simp [a, b]
      rw [e1, e2]
theorem both_perf {N : Nat → Nat} {t : Nat} {c m : St} (h : RF N t c m) (hV : VS c) : q_performance m = q_X5_performance c ∧ q_penalty m = q_X5_penalty c ∧ RF N t c (s_performance m) ∧ RF N t c (s_penalty m) := by
  have h1 : RB N c (st m 0 0 0) := RB_m h.1 (Or.inl rfl)
  have e : q_share (st m 0 0 0) = q_X5_performance c := by
    unfold q_share q_X5_performance
    rw [perf_loop h1 hV]
  refine ⟨e, ?_, RF_rf h 0, RF_rf h 0⟩
  unfold q_penalty q_X5_penalty
  rw [e]
theorem RB_23 {N : Nat → Nat} {c m : St} (h : RB N c m) {j : Nat} {v : Int32} (hv : vp_in v (N 5)) : RB N (st c 23 j v) (st m 23 j v) := by
  obtain ⟨h1, h2, h3, h4, h5, h6, h7⟩ := h
  have e : ∀ (a : St) (g : Nat), g ≠ 23 → st a 23 j v g = a g := fun a g hg => st_nf a j v hg
  refine ⟨EQ_st h1, ?_, fun n hn => ?_, ?_, ?_, ?_, ?_⟩
  · unfold CT
    rw [e c 54 (by decide), e m 2 (by decide), e m 12 (by decide), e m 21 (by decide), e m 34 (by decide)]; exact h2
  · obtain ⟨⟨L, hL⟩, hD⟩ := h3 n hn
    have hm := mb_to (N := N) (n := n) (e c 35 (by decide)) (e c 36 (by decide))
    exact ⟨⟨L, LQ_to hL hm (by rw [e c 54 (by decide)]) (by rw [e c 54 (by decide)]) (by rw [e c 50 (by decide)]) (e c 42 (by decide)) (e c _ (by omega)) (e c _ (by omega)) (by rw [e m 30 (by decide)]) (fun b _ => by rw [e m 46 (by decide)])⟩, DQ_to hD hm (e c 40 (by decide)) (by rw [e c 51 (by decide)])⟩
  · unfold SQ
    rw [e c 35 (by decide), e c 36 (by decide), e c 22 (by decide)]; exact h4
  · obtain ⟨r1, r2, r3, r4⟩ := h5
    unfold RQ
    rw [e c 36 (by decide), e c 24 (by decide), e c 25 (by decide), e c 55 (by decide), e c 40 (by decide)]
    refine ⟨r1, fun n hn => ⟨?_, (r2 n hn).2⟩, r3, r4⟩
    rw [st_at]
    by_cases k : 23 = 23 ∧ n = j
    · rw [if_pos k]; exact hv
    · rw [if_neg k]; exact (r2 n hn).1
  · unfold FQ
    rw [e c 22 (by decide), e c 26 (by decide), e c 1 (by decide)]; exact h6
  · unfold DF
    rw [e c 7 (by decide), e c 8 (by decide), e c 9 (by decide), e c 10 (by decide), e c 11 (by decide), e c 20 (by decide), e c 22 (by decide), e c 29 (by decide), e c 31 (by decide), e m 30 (by decide), e c 32 (by decide), e c 33 (by decide), e c 35 (by decide), e c 43 (by decide), e c 44 (by decide)]
    exact h7
theorem RF_23 {N : Nat → Nat} {t : Nat} {c m : St} (h : RF N t c m) {j : Nat} {v : Int32} (hv : vp_in v (N 5)) : RF N t (st c 23 j v) (st m 23 j v) := by
  refine ⟨RB_23 h.1 hv, fun n hn => ?_, ?_⟩
  · rw [st_nf _ _ _ (show (22 : Nat) ≠ 23 by decide), st_nf _ _ _ (show (26 : Nat) ≠ 23 by decide), st_nf _ _ _ (show (1 : Nat) ≠ 23 by decide)]; exact h.2.1 n hn
  · rw [st_nf _ _ _ (show (1 : Nat) ≠ 23 by decide)]; exact h.2.2
theorem rel_loop {N : Nat → Nat} {t : Nat} {c0 m0 : St} {b o : Int32} (ho : vp_in o (N 5)) : ∀ (n i : Nat) (x : Int32) (c m : St), RF N t c m → (lf_X5_relieve_68 c0 b o n i x c).1 = (lf_relieve_55 m0 b o n i x m).1 ∧ RF N t (lf_X5_relieve_68 c0 b o n i x c).2 (lf_relieve_55 m0 b o n i x m).2 ∧ (lf_X5_relieve_68 c0 b o n i x c).2 22 = c 22 := by
  intro n
  induction n with
  | zero => intro i x c m h; exact ⟨rfl, h, rfl⟩
  | succ n ih =>
    intro i x c m h
    have hc := h.1.2.1
    simp only [lf_X5_relieve_68, lf_relieve_55]
    rw [hc.1.2.2.1, hc.2.1.2.2.1, ← h.1.1 22 rfl, h.1.1 23 rfl]
    by_cases e0 : nI (N 6) ≤ nI i
    · rw [if_pos e0, if_pos e0]; exact ⟨rfl, h, rfl⟩
    · rw [if_neg e0, if_neg e0]
      by_cases e1 : c 22 (nI i).toNatClampNeg = 0
      · by_cases e2 : m 23 (nI i).toNatClampNeg = b
        · simp only [if_pos e1, if_pos e2, if_neg (show ¬ (1 : Int32) = 0 by decide)]
          obtain ⟨a1, a2, a3⟩ := ih (i + 1) (x + 1) _ _ (RF_23 (j := (nI i).toNatClampNeg) h ho)
          exact ⟨a1, a2, a3.trans (st_nf _ _ _ (by decide))⟩
        · simp only [if_pos e1, if_neg e2, if_true, Int32.add_zero, st_id]
          exact ih (i + 1) x _ _ h
      · simp only [if_neg e1, if_true, Int32.add_zero, st_id]
        exact ih (i + 1) x _ _ h
theorem both_relieve {N : Nat → Nat} {t : Nat} {c m : St} (h : RF N t c m) (b o : Int32) : s_relieve m b o 0 0 = kA (t_X5_relieve c b o) ∧ (t_X5_relieve c b o = 0 → q_relieve m b o = q_X5_relieve c b o) ∧ RF N t (s_X5_relieve c b o) (s_relieve m b o) ∧ s_X5_relieve c b o 22 = c 22 := by
  have hc := h.1.2.1
  have ew : k41t0_relieve m b o = kA (t_X5_relieve c b o) := by
    unfold k41t0_relieve t_X5_relieve
    rw [isBo hc, isBo hc]
    exact w4
  by_cases h0 : t_X5_relieve c b o = 0
  · have ew0 : k41t0_relieve m b o = 0 := by rw [ew, h0]; rfl
    unfold t_X5_relieve at h0
    have p1 : ¬ b < 0 ∧ b < c 54 1 := Classical.byContradiction fun z => by rw [if_neg z] at h0; exact absurd h0 (by decide)
    rw [if_pos p1] at h0
    have p2 : ¬ o < 0 ∧ o < c 54 1 := Classical.byContradiction fun z => by rw [if_neg z] at h0; exact absurd h0 (by decide)
    rw [if_pos p2] at h0
    have p3 : ¬ b = o := fun z => by rw [if_pos z] at h0; exact absurd h0 (by decide)
    have ho : vp_in o (N 5) := num_in p2 hc.1.2.1 (by have := hc.2.2.2.1; omega)
    obtain ⟨a1, a2, a3⟩ := rel_loop (c0 := c) (m0 := m) (b := b) ho 61 0 0 _ _ (RF_rf h 0)
    have es : s_relieve m b o = (lf_relieve_55 m b o 61 0 0 (s_refused m 0)).2 := by
      unfold s_relieve; simp only [rf_if]; rw [ew0, if_pos rfl]
    have ec : s_X5_relieve c b o = (lf_X5_relieve_68 c b o 61 0 0 c).2 := by
      unfold s_X5_relieve; rw [if_pos p1, if_pos p2, if_neg p3]
    have k0 : ∀ (n i : Nat) (x : Int32) (τ : St), (lf_relieve_55 m b o n i x τ).2 0 = τ 0 := by
      intro n
      induction n with
      | zero => intro i x τ; rfl
      | succ n ih =>
        intro i x τ
        simp only [lf_relieve_55]
        split
        · rfl
        · rw [ih, st_nf _ _ _ (by decide)]
    refine ⟨?_, fun _ => ?_, by rw [es, ec]; exact a2, by rw [ec]; exact a3⟩
    · rw [← ew, ew0, es, k0]; exact st_self _ _ _ _
    · unfold q_relieve q_X5_relieve
      simp only [rf_if]
      rw [ew0, if_pos rfl, if_pos p1, if_pos p2, if_neg p3, a1]
  · have es : s_relieve m b o = s_refused m (k41t0_relieve m b o) := by
      unfold s_relieve; simp only [rf_if]
      rw [if_neg]
      rw [ew]; exact kA_ne h0
    have ec : s_X5_relieve c b o = c := by
      unfold s_X5_relieve
      unfold t_X5_relieve at h0
      exact t3n h0
    refine ⟨?_, fun z => absurd z h0, ?_, by rw [ec]⟩
    · rw [es, ← ew]; exact st_self _ _ _ _
    · rw [es, ec]; exact RF_rf h _
theorem both_pass {N : Nat → Nat} {t : Nat} {c m : St} (h : RF N t c m) (ht : t + 1500 < 2 ^ 30) (k : Int32) : s_pass m k 0 0 = (if ¬ k < 1 ∧ k ≤ 1500 then 0 else 1) ∧ ((¬ k < 1 ∧ k ≤ 1500) → q_pass m k = q_X5_pass c k ∧ ∃ M, M ≤ 1500 ∧ RF N (t + M) (s_X5_pass c k) (s_pass m k)) ∧ (¬ (¬ k < 1 ∧ k ≤ 1500) → RF N t c (s_pass m k)) := by
  by_cases p : ¬ k < 1 ∧ k ≤ 1500
  · have ew0 : (if q_in k 1 1500 = 0 then (1 : Int32) else 0) = 0 := by rw [in_iff2, if_pos p]; rfl
    obtain ⟨M, hM, eM⟩ := nI_of2 (x := k) (M := 1500) (n := 1500) rfl (fun z => p.1 (by rw [fa_lt] at z ⊢; rw [show (0 : Int32).toInt = 0 from rfl] at z; rw [show (1 : Int32).toInt = 1 from rfl]; omega)) p.2
    have es : s_pass m k = lf_pass_27 m k 1501 0 (s_refused m 0) := by
      unfold s_pass; simp only [rf_if]; rw [ew0, if_pos rfl]
    have key := pass_loop (N := N) (c0 := c) (m0 := m) (t0 := t) (M := M) hM (by omega) h.2.2 M 1501 0 c (s_refused m 0) (Nat.le_refl _) (by omega) (by omega) (by rw [show t + M - M = t by omega]; exact RF_rf h 0)
    rw [Nat.sub_self, Nat.sub_zero, ← eM] at key
    have k0 : ∀ (n i : Nat) (τ : St), lf_pass_27 m k n i τ 0 = τ 0 := by
      intro n
      induction n with
      | zero => intro i τ; rfl
      | succ n ih =>
        intro i τ
        simp only [lf_pass_27]
        split
        · rfl
        · rw [ih, passes_0]
    refine ⟨?_, fun _ => ⟨?_, M, hM, by rw [es]; exact key⟩, fun z => absurd p z⟩
    · rw [es, k0, if_pos p]; exact st_self _ _ _ _
    · have : q_pass m k = lf_pass_27 m k 1501 0 (s_refused m 0) 1 0 := by
        unfold q_pass; simp only [rf_if]; rw [ew0, if_pos rfl]
      rw [this, ← key.1.1 1 rfl]; rfl
  · have ew1 : (if q_in k 1 1500 = 0 then (1 : Int32) else 0) = 1 := by rw [in_iff2, if_neg p]; rfl
    have es : s_pass m k = s_refused m 1 := by
      unfold s_pass; simp only [rf_if]; rw [ew1, if_neg (by decide)]
    refine ⟨?_, fun z => absurd z p, fun _ => by rw [es]; exact RF_rf h 1⟩
    rw [es, if_neg p]; exact st_self _ _ _ _
