/-! arrivals, and a whole minute: both sides alike -/
def s35 (X : St) (g : Nat → Int32) : St := fun f => if f = 35 then g else X f
theorem s35_35 {X : St} {g : Nat → Int32} : s35 X g 35 = g := if_pos rfl
theorem s35_o {X : St} {g : Nat → Int32} {f : Nat} (h : f ≠ 35) : s35 X g f = X f := if_neg h
theorem s35_st {X : St} {g : Nat → Int32} {f j : Nat} {v : Int32} (h : f ≠ 35) : s35 (st X f j v) g = st (s35 X g) f j v := by
  funext a
  by_cases e : a = 35
  · subst e
    rw [s35_35, st_nf _ _ _ (Ne.symm h), s35_35]
  · rw [s35_o e]
    by_cases e2 : a = f
    · subst e2
      show (if a = a then upd (X a) j v else X a) = (if a = a then upd (s35 X g a) j v else s35 X g a)
      rw [s35_o e]
    · rw [st_nf _ _ _ e2, st_nf _ _ _ e2, s35_o e]
theorem s35_id {X : St} : s35 X (X 35) = X := by
  funext a
  by_cases e : a = 35
  · subst e; exact s35_35
  · exact s35_o e
theorem land_form {c0 X : St} {s : Nat} {O : List Nat} (hs : s < 60) (hO : X 54 (2 * s + 5) = nI O.length) (h100 : O.length ≤ 100) (hc : ∀ i b, O[i]? = some b → X (100 + (2 * s + 5)) i = nI b ∧ b < 100) : ∀ (n i : Nat) (τ : St), i + n = 101 → (∀ f, f ≠ 35 → τ f = X f) → lf_X3_land_2 c0 (nI s) n i τ = s35 τ (fun b => if b ∈ O.drop i then 2 else τ 35 b) := by
  intro n
  induction n with
  | zero =>
    intro i τ hi _
    rw [List.drop_of_length_le (by omega)]
    have : (fun b => if b ∈ ([] : List Nat) then (2 : Int32) else τ 35 b) = τ 35 := by funext b; rw [if_neg List.not_mem_nil]
    rw [this, s35_id]; rfl
  | succ n ih =>
    intro i τ hi hx
    simp only [lf_X3_land_2]
    rw [q5n hs, hx 54 (by decide), hO]
    by_cases e0 : nI O.length ≤ nI i
    · rw [if_pos e0]
      have hiM : O.length ≤ i := (nI_leI (by omega) (by omega)).mp e0
      rw [List.drop_of_length_le hiM]
      have : (fun b => if b ∈ ([] : List Nat) then (2 : Int32) else τ 35 b) = τ 35 := by funext b; rw [if_neg List.not_mem_nil]
      rw [this, s35_id]
    · rw [if_neg e0]
      have hiM : i < O.length := m_lt rfl e0 (by omega) (by omega)
      obtain ⟨c1, c2⟩ := hc i O[i] (List.getElem?_eq_getElem hiM)
      rw [nI_clamp (by omega), hx _ (by omega), c1, nI_clamp (by omega), ih (i + 1) _ (by omega) (fun f hf => by rw [st_nf _ _ _ hf]; exact hx f hf)]
      funext a
      by_cases e : a = 35
      · subst e
        rw [s35_35, s35_35]
        funext b
        have hmem : b ∈ O.drop i ↔ b = O[i] ∨ b ∈ O.drop (i + 1) := by rw [List.drop_eq_getElem_cons hiM, List.mem_cons]
        by_cases e1 : b ∈ O.drop (i + 1)
        · rw [if_pos e1, if_pos (hmem.mpr (Or.inr e1))]
        · rw [if_neg e1]
          by_cases e2 : b = O[i]
          · rw [if_pos (hmem.mpr (Or.inl e2)), e2, st_self]
          · rw [if_neg (fun z => (hmem.mp z).elim e2 e1), st_nj _ _ _ e2]
      · rw [s35_o e, s35_o e, st_nf _ _ _ e]
theorem arr_form {N : Nat → Nat} {m0 X : St} {s : Nat} (hn : X 34 0 = nI (N 8)) (h8 : N 8 ≤ 100) : ∀ (n i : Nat) (τ : St), i + n = 101 → (∀ f, f ≠ 35 → τ f = X f) → lf_arrive_28 m0 (nI s) n i τ = s35 τ (fun b => if i ≤ b ∧ b < N 8 ∧ X 36 b = nI s ∧ τ 35 b = 1 then 2 else τ 35 b) := by
  intro n
  induction n with
  | zero =>
    intro i τ hi _
    have : (fun b => if i ≤ b ∧ b < N 8 ∧ X 36 b = nI s ∧ τ 35 b = 1 then (2 : Int32) else τ 35 b) = τ 35 := by funext b; rw [if_neg (fun z => absurd z.2.1 (by omega))]
    rw [this, s35_id]; rfl
  | succ n ih =>
    intro i τ hi hx
    simp only [lf_arrive_28]
    rw [hx 34 (by decide), hn]
    by_cases e0 : nI (N 8) ≤ nI i
    · rw [if_pos e0]
      have hiM : N 8 ≤ i := (nI_leI (by omega) (by omega)).mp e0
      have : (fun b => if i ≤ b ∧ b < N 8 ∧ X 36 b = nI s ∧ τ 35 b = 1 then (2 : Int32) else τ 35 b) = τ 35 := by funext b; rw [if_neg (fun z => absurd z.2.1 (by omega))]
      rw [this, s35_id]
    · rw [if_neg e0]
      have hiM : i < N 8 := m_lt rfl e0 (by omega) (by omega)
      rw [nI_clamp (by omega), ih (i + 1) _ (by omega) (fun f hf => by rw [st_nf _ _ _ hf]; exact hx f hf), hx 36 (by decide)]
      funext a
      by_cases e : a = 35
      · subst e
        rw [s35_35, s35_35]
        funext b
        by_cases e1 : b = i
        · subst e1
          rw [if_neg (fun z => absurd z.1 (by omega)), st_self]
          by_cases e2 : X 36 b = nI s
          · by_cases e3 : τ 35 b = 1
            · rw [if_pos e2, if_pos e3, if_pos ⟨Nat.le_refl _, hiM, e2, e3⟩]
            · rw [if_pos e2, if_neg e3, if_neg (fun z => e3 z.2.2.2)]
          · rw [if_neg e2, if_neg (fun z => e2 z.2.2.1)]
        · rw [st_nj _ _ _ e1]
          by_cases e2 : i ≤ b ∧ b < N 8 ∧ X 36 b = nI s ∧ τ 35 b = 1
          · rw [if_pos e2, if_pos ⟨by omega, e2.2⟩]
          · rw [if_neg e2, if_neg (fun z => e2 ⟨by omega, z.2⟩)]
      · rw [s35_o e, s35_o e, st_nf _ _ _ e]
/-- all aboard a sailing land -/
theorem RB_arr {N : Nat → Nat} {c m : St} (h : RB N c m) {s : Nat} {O : List Nat} (hs : s < N 6) (hO : ∀ b, b ∈ O ↔ mb N c s b) : RB N (s35 (st c 22 s 2) (fun b => if b ∈ O then 2 else c 35 b)) (s35 (st m 22 s 2) (fun b => if b ∈ O then 2 else c 35 b)) := by
  obtain ⟨h1, h2, h3, h4, h5, h6, h7⟩ := h
  have h60 := h2.2.2.2.2.1
  have e : ∀ (a : St) (g : Nat), g ≠ 22 → g ≠ 35 → s35 (st a 22 s 2) (fun b => if b ∈ O then 2 else c 35 b) g = a g := fun a g k1 k2 => by rw [s35_o k2, st_nf _ _ _ k1]
  have e22 : s35 (st c 22 s 2) (fun b => if b ∈ O then 2 else c 35 b) 22 = st c 22 s 2 22 := s35_o (by decide)
  have hm : ∀ n b, mb N (s35 (st c 22 s 2) (fun b => if b ∈ O then 2 else c 35 b)) n b ↔ mb N c n b := fun n b => by
    unfold mb
    rw [e c 36 (by decide) (by decide), s35_35]
    by_cases k : b ∈ O
    · rw [if_pos k]
      have := ((hO b).mp k).2.2
      exact ⟨fun z => ⟨z.1, z.2.1, this⟩, fun z => ⟨z.1, z.2.1, Or.inr rfl⟩⟩
    · rw [if_neg k]
  refine ⟨fun f hf => ?_, ?_, fun n hn => ?_, fun b hb => ?_, ?_, fun n hn => ?_, ?_⟩
  · by_cases k : f = 35
    · subst k; rw [s35_35, s35_35]
    · rw [s35_o k, s35_o k]; exact EQ_st h1 f hf
  · unfold CT
    rw [e c 54 (by decide) (by decide), e m 2 (by decide) (by decide), e m 12 (by decide) (by decide), e m 21 (by decide) (by decide), e m 34 (by decide) (by decide)]; exact h2
  · obtain ⟨⟨L, hL⟩, hD⟩ := h3 n hn
    exact ⟨⟨L, LQ_to hL (hm n) (by rw [e c 54 (by decide) (by decide)]) (by rw [e c 54 (by decide) (by decide)]) (by rw [e c 50 (by decide) (by decide)]) (e c 42 (by decide) (by decide)) (e c _ (by omega) (by omega)) (e c _ (by omega) (by omega)) (by rw [e m 30 (by decide) (by decide)]) (fun b _ => by rw [e m 46 (by decide) (by decide)])⟩, DQ_to hD (hm n) (e c 40 (by decide) (by decide)) (by rw [e c 51 (by decide) (by decide)])⟩
  · rw [e c 36 (by decide) (by decide), e22, s35_35]
    obtain ⟨i, hi, hx⟩ := vp_in_of (h5.1 b hb) (by omega)
    have hit : (c 36 b).toNatClampNeg = i := by rw [hx, nI_clamp (by omega)]
    rw [hit]
    have h4b := h4 b hb
    rw [hit] at h4b
    by_cases k : b ∈ O
    · rw [if_pos k]
      have hi2 : i = s := (nI_eq (by omega) (by omega)).mp (hx.symm.trans ((hO b).mp k).2.1)
      rw [hi2, st_self]
      exact ⟨fun z => absurd z (by decide), fun _ => rfl⟩
    · rw [if_neg k]
      by_cases hi2 : i = s
      · subst hi2
        exact ⟨fun z => absurd ((hO b).mpr ⟨hb, hx, Or.inl z⟩) k, fun z => absurd ((hO b).mpr ⟨hb, hx, Or.inr z⟩) k⟩
      · rw [st_nj _ _ _ hi2]; exact h4b
  · unfold RQ
    rw [e c 36 (by decide) (by decide), e c 23 (by decide) (by decide), e c 24 (by decide) (by decide), e c 25 (by decide) (by decide), e c 55 (by decide) (by decide), e c 40 (by decide) (by decide)]; exact h5
  · rw [e c 26 (by decide) (by decide), e c 1 (by decide) (by decide), e22]
    by_cases k : n = s
    · subst k; rw [st_self]; exact fun z => absurd z (by decide)
    · rw [st_nj _ _ _ k]; exact h6 n hn
  · obtain ⟨d1, d2, d3, d4, d5⟩ := h7
    unfold DF
    rw [e c 7 (by decide) (by decide), e c 8 (by decide) (by decide), e c 9 (by decide) (by decide), e c 10 (by decide) (by decide), e c 11 (by decide) (by decide), e c 20 (by decide) (by decide), e c 29 (by decide) (by decide), e c 31 (by decide) (by decide), e m 30 (by decide) (by decide), e c 32 (by decide) (by decide), e c 33 (by decide) (by decide), e c 43 (by decide) (by decide), e c 44 (by decide) (by decide), e22, s35_35]
    refine ⟨d1, d2, fun n hn => ⟨by rw [st_nj _ _ _ (by omega)]; exact (d3 n hn).1, (d3 n hn).2⟩, d4, fun n hn => ⟨?_, (d5 n hn).2⟩⟩
    rw [if_neg (fun z => absurd ((hO n).mp z).1 (by omega))]; exact (d5 n hn).1
theorem endGap_s35 {X : St} {g : Nat → Int32} {o t : Int32} : s35 (s_X2_endGap X o t) g = s_X2_endGap (s35 X g) o t := by
  unfold s_X2_endGap q_X2_longestGapAt q_X2_longestCauseAt q_X2_gapAt
  rw [s35_st (by decide), s35_st (by decide), s35_st (by decide), s35_st (by decide), s35_o (f := 8) (by decide), s35_o (f := 9) (by decide), s35_o (f := 10) (by decide), s35_o (f := 11) (by decide)]
theorem RB_endGap {N : Nat → Nat} {c m : St} (h : RB N c m) {p t : Int32} (hp : p.toNatClampNeg < N 4) : RB N (s_X2_endGap c p t) (st (st (if t - m 8 p.toNatClampNeg ≤ m 10 p.toNatClampNeg then m else st (st m 10 p.toNatClampNeg (t - m 8 p.toNatClampNeg)) 11 p.toNatClampNeg (m 9 p.toNatClampNeg)) 8 p.toNatClampNeg t) 9 p.toNatClampNeg 0) := by
  have hd : ∀ f, 7 ≤ f ∧ f ≤ 11 → (7 ≤ f ∧ f ≤ 11 → p.toNatClampNeg < N 4) ∧ (f = 20 → p.toNatClampNeg < N 5) ∧ (f = 29 ∨ f = 31 → p.toNatClampNeg < N 6) ∧ (f = 32 ∨ f = 33 → p.toNatClampNeg < 2 * N 6) ∧ (f = 43 ∨ f = 44 → p.toNatClampNeg < N 8) := fun f hf => ⟨fun _ => hp, by omega, by omega, by omega, by omega⟩
  unfold s_X2_endGap q_X2_longestGapAt q_X2_longestCauseAt q_X2_gapAt
  rw [← h.1 8 rfl, ← h.1 9 rfl, ← h.1 10 rfl]
  simp only [i_lt]
  refine RB_st (RB_st ?_ (by decide) (by decide) (hd 8 (by decide))) (by decide) (by decide) (hd 9 (by decide))
  by_cases e : t - c 8 p.toNatClampNeg ≤ c 10 p.toNatClampNeg
  · rw [if_neg (fun z => z e), if_pos e, if_pos e, st_id, st_id]; exact h
  · rw [if_pos e, if_neg e, if_neg e]
    exact RB_st (RB_st h (by decide) (by decide) (hd 10 (by decide))) (by decide) (by decide) (hd 11 (by decide))
theorem RB_arrive {N : Nat → Nat} {c m : St} (h : RB N c m) {s : Nat} (hs : s < N 6) : RB N (s_X3_land (s_X2_endGap (st (st c 22 s 2) 19 (c 23 s).toNatClampNeg (c 25 s)) (c 25 s) (c 1 0)) (nI s)) (s_arrive m (nI s)) ∧ (∀ f, f ∉ [8, 9, 10, 11, 19, 22, 35] → s_X3_land (s_X2_endGap (st (st c 22 s 2) 19 (c 23 s).toNatClampNeg (c 25 s)) (c 25 s) (c 1 0)) (nI s) f = c f) := by
  obtain ⟨hE, hc, h3, h4, h5, h6, h7⟩ := id h
  have h8 := hc.2.2.2.2.2
  have h60 := hc.2.2.2.2.1
  have h48 := hc.2.2.1
  have hst : (nI s).toNatClampNeg = s := nI_clamp (by omega)
  obtain ⟨⟨L, hL⟩, -⟩ := h3 s hs
  obtain ⟨l1, l2, ⟨l4, l5, l30, l50⟩, lc, lo⟩ := id hL
  have hto := (h5.2.1 s hs).2.2
  have hlenO := off_len (lor c) L
  have hLn : L.length ≤ N 8 := nodup_len l2 (fun x hx => ((l1 x).mp hx).1)
  have hO : ∀ b, b ∈ offL (lor c) L ↔ mb N c s b := fun b => (off_perm (lor c) L b).trans (l1 b)
  have gap_f : ∀ f, f ∉ [8, 9, 10, 11, 19, 22, 35] → s_X2_endGap (st (st c 22 s 2) 19 (c 23 s).toNatClampNeg (c 25 s)) (c 25 s) (c 1 0) f = c f := fun f hf => by
    simp only [List.mem_cons, List.not_mem_nil, or_false, not_or] at hf
    unfold s_X2_endGap
    rw [st_nf _ _ _ (by omega), st_nf _ _ _ (by omega), st_nf _ _ _ (by omega), st_nf _ _ _ (by omega), st_nf _ _ _ (by omega), st_nf _ _ _ (by omega)]
  have gap_35 : s_X2_endGap (st (st c 22 s 2) 19 (c 23 s).toNatClampNeg (c 25 s)) (c 25 s) (c 1 0) 35 = c 35 := by
    unfold s_X2_endGap
    rw [st_nf _ _ _ (by decide), st_nf _ _ _ (by decide), st_nf _ _ _ (by decide), st_nf _ _ _ (by decide), st_nf _ _ _ (by decide), st_nf _ _ _ (by decide)]
  have eland : s_X3_land (s_X2_endGap (st (st c 22 s 2) 19 (c 23 s).toNatClampNeg (c 25 s)) (c 25 s) (c 1 0)) (nI s) = s35 (s_X2_endGap (st (st c 22 s 2) 19 (c 23 s).toNatClampNeg (c 25 s)) (c 25 s) (c 1 0)) (fun b => if b ∈ offL (lor c) L then 2 else c 35 b) := by
    unfold s_X3_land
    rw [land_form (X := s_X2_endGap (st (st c 22 s 2) 19 (c 23 s).toNatClampNeg (c 25 s)) (c 25 s) (c 1 0)) (O := offL (lor c) L) (by omega) (by rw [gap_f 54 (by decide), hlenO]; exact l5) (by omega) (fun i b hib => ⟨by rw [gap_f _ (by simp; omega)]; exact lo i b hib, Nat.lt_of_lt_of_le ((hO b).mp (List.mem_of_getElem? hib)).1 h8⟩) 101 0 _ (by omega) (fun _ _ => rfl), gap_35]
    rfl
  have k0 := RB_arr h hs hO
  have k19 := RB_st (f := 19) (j := (c 23 s).toNatClampNeg) (v := c 25 s) k0 (by decide) (by decide) ⟨by omega, by omega, by omega, by omega, by omega⟩
  refine ⟨?_, fun f hf => ?_⟩
  · rw [eland, endGap_s35, s35_st (by decide)]
    have k := RB_endGap (p := c 25 s) (t := c 1 0) k19 (vp_lt hto)
    have eref : lf_arrive_28 m (nI s) 101 0 (st (st m 22 s 2) 19 (m 23 s).toNatClampNeg (m 25 s)) = st (s35 (st m 22 s 2) (fun b => if b ∈ offL (lor c) L then 2 else c 35 b)) 19 (c 23 s).toNatClampNeg (c 25 s) := by
      rw [arr_form (N := N) (X := st (st m 22 s 2) 19 (m 23 s).toNatClampNeg (m 25 s)) (by rw [st_nf _ _ _ (by decide), st_nf _ _ _ (by decide)]; exact hc.2.1.2.2.2) h8 101 0 _ (by omega) (fun _ _ => rfl), s35_st (by decide), hE 23 rfl, hE 25 rfl]
      refine congrArg (fun z => st (s35 (st m 22 s 2) z) 19 (m 23 s).toNatClampNeg (m 25 s)) ?_
      funext b
      rw [st_nf _ _ _ (by decide), st_nf _ _ _ (by decide), st_nf _ _ _ (by decide), st_nf _ _ _ (by decide), ← hE 35 rfl, ← hE 36 rfl]
      by_cases e1 : b ∈ offL (lor c) L
      · rw [if_pos e1]
        have hb := (hO b).mp e1
        by_cases e2 : c 35 b = 1
        · rw [if_pos ⟨Nat.zero_le _, hb.1, hb.2.1, e2⟩]
        · rw [if_neg (fun z => e2 z.2.2.2)]
          exact (hb.2.2.resolve_left e2)
      · rw [if_neg e1, if_neg (fun z => e1 ((hO b).mpr ⟨z.2.1, z.2.2.1, Or.inl z.2.2.2⟩))]
    unfold s_arrive
    rw [hst, eref, ← hE 25 rfl]
    generalize st (s35 (st m 22 s 2) (fun b => if b ∈ offL (lor c) L then 2 else c 35 b)) 19 (c 23 s).toNatClampNeg (c 25 s) = Y at k eref ⊢
    have en : Y 1 0 = c 1 0 := by
      have := k19.1 1 rfl
      rw [← eref, arr_form (N := N) (X := st (st m 22 s 2) 19 (m 23 s).toNatClampNeg (m 25 s)) (by rw [st_nf _ _ _ (by decide), st_nf _ _ _ (by decide)]; exact hc.2.1.2.2.2) h8 101 0 _ (by omega) (fun _ _ => rfl), s35_o (by decide), st_nf _ _ _ (by decide), st_nf _ _ _ (by decide), hE 1 rfl]
    have en2 : (if Y 1 0 - Y 8 (c 25 s).toNatClampNeg ≤ Y 10 (c 25 s).toNatClampNeg then Y else st (st Y 10 (c 25 s).toNatClampNeg (Y 1 0 - Y 8 (c 25 s).toNatClampNeg)) 11 (c 25 s).toNatClampNeg (Y 9 (c 25 s).toNatClampNeg)) 1 0 = c 1 0 := by
      split
      · exact en
      · rw [st_nf _ _ _ (by decide), st_nf _ _ _ (by decide)]; exact en
    rw [en2, en]
    exact k
  · rw [eland, s35_o (by simp only [List.mem_cons, List.not_mem_nil, or_false, not_or] at hf; omega), gap_f f hf]
theorem arr_loop {N : Nat → Nat} {c0 m0 : St} : ∀ (n i : Nat) (c m : St), i + n = 61 → RB N c m → RB N (lf_X5_letArrive_2 c0 n i c) (lf_passes_12 m0 n i m) ∧ (∀ f, f = 1 ∨ f = 26 → lf_X5_letArrive_2 c0 n i c f = c f) := by
  intro n
  induction n with
  | zero => intro i c m hi h; exact ⟨h, fun _ _ => rfl⟩
  | succ n ih =>
    intro i c m hi h
    have hc := h.2.1
    have h60 := hc.2.2.2.2.1
    simp only [lf_X5_letArrive_2, lf_passes_12]
    rw [hc.1.2.2.1, hc.2.1.2.2.1]
    by_cases e0 : nI (N 6) ≤ nI i
    · rw [if_pos e0, if_pos e0]; exact ⟨h, fun _ _ => rfl⟩
    · rw [if_neg e0, if_neg e0]
      have hiM : i < N 6 := m_lt rfl e0 (by omega) (by omega)
      unfold q_X3_arrival
      rw [nI_clamp (by omega), ← h.1 22 rfl, ← h.1 26 rfl, ← h.1 27 rfl, ← h.1 1 rfl]
      by_cases e1 : c 22 i = 1
      · rw [if_pos e1, if_pos e1]
        by_cases e2 : c 26 i + c 27 i = c 1 0
        · rw [if_pos e2, if_pos e2]
          obtain ⟨k1, k2⟩ := RB_arrive h hiM
          obtain ⟨j1, j2⟩ := ih (i + 1) _ _ (by omega) k1
          exact ⟨j1, fun f hf => (j2 f hf).trans (k2 f (by rcases hf with rfl | rfl <;> decide))⟩
        · rw [if_neg e2, if_neg e2]; exact ih (i + 1) _ _ (by omega) h
      · rw [if_neg e1, if_neg e1]; exact ih (i + 1) _ _ (by omega) h
