/-! the order aboard and the order off: both sides alike -/
theorem same_len : ∀ (l1 l2 : List Nat), l1.Nodup → l2.Nodup → (∀ a, a ∈ l1 ↔ a ∈ l2) → l1.length = l2.length := by
  intro l1
  induction l1 with
  | nil =>
    intro l2 _ _ h
    cases l2 with
    | nil => rfl
    | cons a l => exact absurd ((h a).mpr List.mem_cons_self) List.not_mem_nil
  | cons a l1 ih =>
    intro l2 h1 h2 h
    have ha : a ∈ l2 := (h a).mp List.mem_cons_self
    have hn := List.nodup_cons.mp h1
    have e := ih (l2.erase a) hn.2 (h2.erase a) (fun b => by
      rw [h2.mem_erase_iff]
      constructor
      · intro hb
        exact ⟨fun z => hn.1 (by rw [← z]; exact hb), (h b).mp (List.mem_cons_of_mem _ hb)⟩
      · rintro ⟨b1, b2⟩
        rcases List.mem_cons.mp ((h b).mpr b2) with w | w
        · exact absurd w b1
        · exact w)
    rw [List.length_erase_of_mem ha] at e
    have : 0 < l2.length := List.length_pos_of_mem ha
    rw [List.length_cons]; omega
theorem fb_filter (p : Nat → Bool) : ∀ n, fb_ct p n = ((List.range n).filter p).length := by
  intro n
  induction n with
  | zero => rfl
  | succ n ih =>
    rw [List.range_succ, List.filter_append, List.length_append, fb_ct_succ, ih]
    by_cases e : p n = true
    · rw [if_pos e, List.filter_cons_of_pos e]; rfl
    · rw [if_neg e, List.filter_cons_of_neg e]; rfl
/-- who goes off ahead of whom -/
def gA (m : St) (a b : Nat) : Prop := if m 42 a = m 42 b then m 46 b < m 46 a else ¬ m 42 a = 0
theorem gA_irr {m : St} {a : Nat} : ¬ gA m a a := fun h => by
  unfold gA at h
  rw [if_pos rfl, fa_lt] at h; omega
theorem gA_asym {m : St} (hB : ∀ j, isB (m 42 j)) {a b : Nat} (h : gA m a b) : ¬ gA m b a := fun k => by
  unfold gA at h k
  by_cases e : m 42 a = m 42 b
  · rw [if_pos e] at h
    rw [if_pos e.symm] at k
    rw [fa_lt] at h k; omega
  · rw [if_neg e] at h
    rw [if_neg (fun z => e z.symm)] at k
    rcases hB a with w | w
    · exact h w
    · rcases hB b with v | v
      · exact k v
      · exact e (w.trans v.symm)
theorem off_pair {N : Nat → Nat} {c m : St} {n : Nat} {L : List Nat} (hE : EQ c m) (hB : ∀ j, isB (m 42 j)) (h8 : N 8 ≤ 100) (hL : LQ N c m n L) : (offL (lor c) L).Pairwise (gA m) := by
  obtain ⟨l1, l2, ⟨l4, l5, l30, l50⟩, lc, lo⟩ := hL
  have hlen := nodup_len l2 (M := N 8) (fun x hx => ((l1 x).mp hx).1)
  have p0 : L.Pairwise (fun a b => m 46 a < m 46 b) := by
    rw [List.pairwise_iff_getElem]
    intro i j hi hj hij
    rw [(lc i _ (List.getElem?_eq_getElem hi)).2, (lc j _ (List.getElem?_eq_getElem hj)).2]
    exact nI_lt hij (by omega)
  unfold offL
  rw [List.pairwise_append]
  have hlt : ∀ b, lor c b = true ↔ ¬ m 42 b = 0 := fun b => by
    unfold lor
    rw [hE 42 rfl]
    by_cases e : m 42 b = 0
    · simp [e]
    · simp [e]
  refine ⟨?_, ?_, fun a ha b hb => ?_⟩
  · rw [List.pairwise_reverse]
    refine List.Pairwise.imp_of_mem (fun {a b} ha hb h => ?_) (p0.filter _)
    have a1 := (hlt a).mp (List.mem_filter.mp ha).2
    have b1 := (hlt b).mp (List.mem_filter.mp hb).2
    unfold gA
    rw [if_pos (((hB b).resolve_left b1).trans ((hB a).resolve_left a1).symm)]; exact h
  · rw [List.pairwise_reverse]
    refine List.Pairwise.imp_of_mem (fun {a b} ha hb h => ?_) (p0.filter _)
    have a1 : m 42 a = 0 := Classical.byContradiction fun z => by
      have := (List.mem_filter.mp ha).2
      rw [(hlt a).mpr z] at this; exact absurd this (by decide)
    have b1 : m 42 b = 0 := Classical.byContradiction fun z => by
      have := (List.mem_filter.mp hb).2
      rw [(hlt b).mpr z] at this; exact absurd this (by decide)
    unfold gA
    rw [if_pos (b1.trans a1.symm)]; exact h
  · have a1 := (hlt a).mp (List.mem_filter.mp (List.mem_reverse.mp ha)).2
    have b1 : m 42 b = 0 := Classical.byContradiction fun z => by
      have := (List.mem_filter.mp (List.mem_reverse.mp hb)).2
      rw [(hlt b).mpr z] at this; exact absurd this (by decide)
    unfold gA
    rw [if_neg (fun z => a1 (z.trans b1))]; exact a1
theorem off_nodup {m : St} {O : List Nat} (h : O.Pairwise (gA m)) : O.Nodup :=
  List.Pairwise.imp (fun {a b} hab => fun z => by rw [z] at hab; exact gA_irr hab) h
/-- how many go off ahead: the place in the row -/
theorem off_idx {m : St} {M k : Nat} {O : List Nat} {on : Nat → Prop} (hB : ∀ j, isB (m 42 j)) (hO : O.Pairwise (gA m)) (hm : ∀ b, b ∈ O ↔ on b) (hM : ∀ b, on b → b < M) {p : Nat → Bool} (hp : ∀ b, b < M → (p b = true ↔ on b ∧ gA m b k)) {i : Nat} (hi : O[i]? = some k) : fb_ct p M = i := by
  rw [fb_filter]
  have hiO : i < O.length := (List.getElem?_eq_some_iff.mp hi).1
  have hk : O[i] = k := (List.getElem?_eq_some_iff.mp hi).2
  have e := same_len ((List.range M).filter p) (O.take i) (List.Pairwise.filter _ (l := List.range M) List.nodup_range) ((off_nodup hO).sublist (List.take_sublist _ _)) (fun b => by
    rw [List.mem_filter, List.mem_range, List.mem_iff_getElem?]
    rw [List.pairwise_iff_getElem] at hO
    constructor
    · rintro ⟨b1, b2⟩
      obtain ⟨c1, c2⟩ := (hp b b1).mp b2
      obtain ⟨j, hj⟩ := List.mem_iff_getElem?.mp ((hm b).mpr c1)
      have hjO : j < O.length := (List.getElem?_eq_some_iff.mp hj).1
      have hjb : O[j] = b := (List.getElem?_eq_some_iff.mp hj).2
      refine ⟨j, ?_⟩
      have hlt : j < i := by
        rcases Nat.lt_trichotomy j i with w | w | w
        · exact w
        · subst w
          rw [← hjb, ← hk] at c2
          exact absurd c2 gA_irr
        · have := hO i j hiO hjO w
          rw [hk, hjb] at this
          exact absurd c2 (gA_asym hB this)
      rw [List.getElem?_take, if_pos hlt]; exact hj
    · rintro ⟨j, hj⟩
      rw [List.getElem?_take] at hj
      by_cases hlt : j < i
      · rw [if_pos hlt] at hj
        have hjO : j < O.length := (List.getElem?_eq_some_iff.mp hj).1
        have hjb : O[j] = b := (List.getElem?_eq_some_iff.mp hj).2
        have hon := (hm b).mp (List.mem_of_getElem? hj)
        have := hO j i hjO hiO hlt
        rw [hk, hjb] at this
        exact ⟨hM b hon, (hp b (hM b hon)).mpr ⟨hon, this⟩⟩
      · rw [if_neg hlt] at hj; cases hj)
  rw [e, List.length_take]; omega
theorem isOn_iff {N : Nat → Nat} {c m : St} (hE : EQ c m) {n b : Nat} (hb : b < N 8) (hbt : b < 2 ^ 31) : ¬ q_isOn m (nI b) (nI n) = 0 ↔ mb N c n b := by
  unfold q_isOn k29t0_isOn mb
  rw [in12, nI_clamp hbt, hE 35 rfl, hE 36 rfl]
  by_cases e1 : m 36 b = nI n <;> by_cases e2 : m 35 b = 1 <;> by_cases e3 : m 35 b = 2 <;> simp [e1, e2, e3, hb]
theorem ahead_ct {N : Nat → Nat} {m : St} (hn : m 34 0 = nI (N 8)) (h8 : N 8 ≤ 100) {s k : Int32} {p : Nat → Bool} (hp : ∀ b, b < N 8 → ((if q_isOn m (nI b) s = 0 then (0 : Int32) else (if (if m 42 b = m 42 k.toNatClampNeg then (if m 46 b ≤ m 46 k.toNatClampNeg then (0 : Int32) else 1) else m 42 b) = 0 then 0 else 1)) = if p b = true then 1 else 0)) : ∀ (n i : Nat), i + n = 101 → i ≤ N 8 → lf_offAhead_5 m s k n i (nI (fb_ct p i)) = nI (fb_ct p (N 8)) := by
  intro n
  induction n with
  | zero => intro i hi hl; omega
  | succ n ih =>
    intro i hi hl
    simp only [lf_offAhead_5]
    rw [hn]
    by_cases e0 : nI (N 8) ≤ nI i
    · rw [if_pos e0]
      have hiM : N 8 ≤ i := (nI_leI (by omega) (by omega)).mp e0
      rw [show i = N 8 by omega]
    · rw [if_neg e0]
      have hiM : i < N 8 := m_lt rfl e0 (by omega) (by omega)
      have := hp i hiM
      rw [nI_clamp (by omega), this]
      have e : nI (fb_ct p i) + (if p i = true then (1 : Int32) else 0) = nI (fb_ct p (i + 1)) := by
        rw [fb_ct_succ]
        by_cases w : p i = true
        · rw [if_pos w, if_pos w, nI_1]
        · rw [if_neg w, if_neg w, Int32.add_zero]; rfl
      rw [e]
      exact ih (i + 1) (by omega) (by omega)
theorem plan_loop {N : Nat → Nat} {c m : St} {s a : Nat} {w : Int32} {isOff : Int32} {M : List Nat} (hE : EQ c m) (hn : m 34 0 = nI (N 8)) (h8 : N 8 ≤ 100) (ha : a < 2 ^ 31) (hm : ∀ b, b ∈ M ↔ mb N c s b) (hlen : M.length ≤ 100) (hrf : s_refused m (if q_isSailing m (nI s) = 0 then 1 else (if nI a < 0 then 1 else 0)) = s_refused m w) (hkey : ∀ i b, M[i]? = some b → (if isOff = 0 then m 46 b else q_offAhead (s_refused m w) (nI s) (nI b)) = nI i) : ∀ (n i : Nat) (x : Int32), i + n = 101 → lf_plan_32 m (nI s) (nI a) isOff n i x = (match M[a]? with | some k => if i ≤ k then nI k else x | none => x) := by
  intro n
  induction n with
  | zero =>
    intro i x hi
    cases hk : M[a]? with
    | none => rfl
    | some k =>
      have := ((hm k).mp (List.mem_of_getElem? hk)).1
      show x = if i ≤ k then nI k else x
      rw [if_neg (by omega)]
  | succ n ih =>
    intro i x hi
    simp only [lf_plan_32]
    rw [hn, hrf]
    by_cases e0 : nI (N 8) ≤ nI i
    · rw [if_pos e0]
      have hiM : N 8 ≤ i := (nI_leI (by omega) (by omega)).mp e0
      cases hk : M[a]? with
      | none => rfl
      | some k =>
        have := ((hm k).mp (List.mem_of_getElem? hk)).1
        show x = if i ≤ k then nI k else x
        rw [if_neg (by omega)]
    · rw [if_neg e0, ih _ _ (by omega)]
      have hiM : i < N 8 := m_lt rfl e0 (by omega) (by omega)
      have hon : ¬ q_isOn (s_refused m w) (nI i) (nI s) = 0 ↔ mb N c s i := isOn_iff (EQ_w hE) hiM (by omega)
      rw [nI_clamp (by omega)]
      cases hk : M[a]? with
      | none =>
        show (if q_isOn (s_refused m w) (nI i) (nI s) = 0 then x else _) = x
        by_cases e1 : q_isOn (s_refused m w) (nI i) (nI s) = 0
        · rw [if_pos e1]
        · rw [if_neg e1]
          obtain ⟨j, hj⟩ := List.mem_iff_getElem?.mp ((hm i).mpr (hon.mp e1))
          rw [hkey j i hj, if_neg]
          intro z
          have hjl : j < M.length := (List.getElem?_eq_some_iff.mp hj).1
          have := (nI_eq (by omega) ha).mp z
          rw [← this, hj] at hk; cases hk
      | some k =>
        show (if i + 1 ≤ k then nI k else (if q_isOn (s_refused m w) (nI i) (nI s) = 0 then x else _)) = if i ≤ k then nI k else x
        by_cases e2 : i + 1 ≤ k
        · rw [if_pos e2, if_pos (show i ≤ k by omega)]
        · rw [if_neg e2]
          by_cases e3 : i = k
          · rw [if_pos (show i ≤ k by omega)]
            have e1 : ¬ q_isOn (s_refused m w) (nI i) (nI s) = 0 := hon.mpr ((hm i).mp (by rw [e3]; exact List.mem_of_getElem? hk))
            rw [if_neg e1, hkey a i (by rw [e3]; exact hk), if_pos rfl, e3]
          · rw [if_neg (show ¬ i ≤ k by omega)]
            by_cases e1 : q_isOn (s_refused m w) (nI i) (nI s) = 0
            · rw [if_pos e1]
            · rw [if_neg e1]
              obtain ⟨j, hj⟩ := List.mem_iff_getElem?.mp ((hm i).mpr (hon.mp e1))
              rw [hkey j i hj, if_neg]
              intro z
              have hjl : j < M.length := (List.getElem?_eq_some_iff.mp hj).1
              have := (nI_eq (by omega) ha).mp z
              rw [← this, hj] at hk
              exact e3 (Option.some.inj hk)
theorem ct01 {A B : Prop} {dA : Decidable A} {dB : Decidable B} : (if A then (0 : Int32) else (if B then 0 else 1)) = if decide (¬ (if A then (0 : Int32) else (if B then 0 else 1)) = 0) = true then 1 else 0 := by
  by_cases a : A <;> by_cases b : B <;> simp [a, b]
theorem w5 {P Q : Prop} {dP : Decidable P} {dQ : Decidable Q} : (if (if P then (1 : Int32) else 0) = 0 then (1 : Int32) else (if Q then (1 : Int32) else 0)) = if P then (if Q then 1 else 0) else 1 := by
  by_cases p : P <;> by_cases q : Q <;> simp [p, q]
theorem both_plan {N : Nat → Nat} {t : Nat} {c m : St} (h : RF N t c m) (hM : MI m) (s x o : Int32) : s_plan m s x o 0 0 = kA (t_X5_plan c s x o) ∧ (t_X5_plan c s x o = 0 → q_plan m s x o = q_X5_plan c s x o) ∧ RF N t c (s_plan m s x o) := by
  have hc := h.1.2.1
  have h8 := hc.2.2.2.2.2
  have h60 := hc.2.2.2.2.1
  have es : s_plan m s x o = s_refused m (if q_isSailing m s = 0 then 1 else (if x < 0 then 1 else 0)) := by unfold s_plan; simp only [ite_self]
  have eP := isS hc s
  refine ⟨?_, fun h0 => ?_, by rw [es]; exact RF_rf h _⟩
  · rw [es, eP, w5]
    have st : s_refused m (if ¬ s < 0 ∧ s < c 54 2 then (if x < 0 then 1 else 0) else 1) 0 0 = (if ¬ s < 0 ∧ s < c 54 2 then (if x < 0 then (1 : Int32) else 0) else 1) := st_self _ _ _ _
    rw [st]
    unfold t_X5_plan
    by_cases p1 : ¬ s < 0 ∧ s < c 54 2
    · rw [if_pos p1, if_pos p1]
      by_cases p2 : x < 0
      · rw [if_pos p2, if_neg ((i_lt _ _).mp p2)]; rfl
      · rw [if_neg p2, if_pos (fa_of_nlt p2)]; rfl
    · rw [if_neg p1, if_neg p1]; rfl
  · unfold t_X5_plan at h0
    have p1 : ¬ s < 0 ∧ s < c 54 2 := Classical.byContradiction fun z => by rw [if_neg z] at h0; exact absurd h0 (by decide)
    rw [if_pos p1] at h0
    have p2 : 0 ≤ x := Classical.byContradiction fun z => by rw [if_neg z] at h0; exact absurd h0 (by decide)
    have p2' : ¬ x < 0 := fun z => (i_lt _ _).mp z p2
    obtain ⟨j, hj, ej⟩ := vp_in_of (num_in p1 hc.1.2.2.1 (by omega)) (by omega)
    obtain ⟨a, ha, ea⟩ := nI_of p2'
    have ew : (if q_isSailing m s = 0 then (1 : Int32) else (if x < 0 then 1 else 0)) = 0 := by rw [eP, if_pos p1, if_neg p2']; rfl
    obtain ⟨L, hL⟩ := (h.1.2.2.1 j hj).1
    obtain ⟨l1, l2, ⟨l4, l5, l30, l50⟩, lc, lo⟩ := id hL
    have hlen := nodup_len l2 (M := N 8) (fun x hx => ((l1 x).mp hx).1)
    have h55 := h.1.2.2.2.2.1.2.2.1
    have hq : q_plan m s x o = lf_plan_32 m s x o 101 0 (-1) := by
      unfold q_plan; simp only [rf_if]; rw [if_pos ew]
    have hX : q_X5_plan c s x o = k82t0_X5_plan c s x o := by
      unfold q_X5_plan; rw [if_pos p1, if_pos p2]
    rw [hq, hX, ej, ea]
    unfold k82t0_X5_plan
    rw [q4n (by omega), q5n (by omega), nI_clamp ha]
    rw [ej, ea] at ew
    have fin : ∀ (q : Nat) (M : List Nat), c 54 q = nI M.length → M.length ≤ 100 → (∀ i b, M[i]? = some b → c (100 + q) i = nI b) → (∀ b, b ∈ M ↔ mb N c j b) → (match M[a]? with | some k => if 0 ≤ k then nI k else (-1 : Int32) | none => -1) = if c 54 q ≤ nI a then -1 else c 55 (c (100 + q) a).toNatClampNeg := by
      intro q M hq hl hcc hmm
      rw [hq]
      by_cases e : nI M.length ≤ nI a
      · rw [if_pos e, List.getElem?_eq_none ((nI_leI (by omega) ha).mp e)]
      · have hal : a < M.length := Nat.lt_of_not_le fun z => e (nI_le z ha)
        rw [if_neg e, List.getElem?_eq_getElem hal, hcc a _ (List.getElem?_eq_getElem hal)]
        have hb := ((hmm M[a]).mp (List.getElem_mem hal)).1
        show (if 0 ≤ M[a] then nI M[a] else -1) = _
        rw [if_pos (Nat.zero_le _), nI_clamp (by omega), h55 _ hb]
    by_cases eo : o = 0
    · rw [if_pos eo]
      rw [plan_loop (N := N) (c := c) (w := 0) (M := L) h.1.1 hc.2.1.2.2.2 h8 ha l1 (by omega) (by rw [ew]) (fun i b hb => by rw [if_pos eo]; exact (lc i b hb).2) 101 0 (-1) (by omega)]
      exact fin (2 * j + 4) L l4 (by omega) (fun i b hb => (lc i b hb).1) l1
    · rw [if_neg eo]
      have hB := MI_z42 hM
      have hpw := off_pair (N := N) h.1.1 hB h8 hL
      have hmO : ∀ b, b ∈ offL (lor c) L ↔ mb N c j b := fun b => (off_perm (lor c) L b).trans (l1 b)
      have hlO := off_len (lor c) L
      rw [plan_loop (N := N) (c := c) (w := 0) (M := offL (lor c) L) h.1.1 hc.2.1.2.2.2 h8 ha hmO (by omega) (by rw [ew]) (fun i b hb => by
        rw [if_neg eo]
        have hb8 := ((hmO b).mp (List.mem_of_getElem? hb)).1
        have hbt : (nI b).toNatClampNeg = b := nI_clamp (by omega)
        have hcond : ∀ x, x < N 8 → ((if q_isOn (s_refused m 0) (nI x) (nI j) = 0 then (0 : Int32) else (if (if s_refused m 0 42 x = s_refused m 0 42 (nI b).toNatClampNeg then (if s_refused m 0 46 x ≤ s_refused m 0 46 (nI b).toNatClampNeg then (0 : Int32) else 1) else s_refused m 0 42 x) = 0 then 0 else 1)) = if decide (¬ (if q_isOn (s_refused m 0) (nI x) (nI j) = 0 then (0 : Int32) else (if (if s_refused m 0 42 x = s_refused m 0 42 (nI b).toNatClampNeg then (if s_refused m 0 46 x ≤ s_refused m 0 46 (nI b).toNatClampNeg then (0 : Int32) else 1) else s_refused m 0 42 x) = 0 then 0 else 1)) = 0) = true then 1 else 0) := fun x _ => ct01
        have key := ahead_ct (N := N) (m := s_refused m 0) (by unfold s_refused; rw [st_nf _ _ _ (by decide)]; exact hc.2.1.2.2.2) h8 (s := nI j) (k := nI b) hcond 101 0 (by omega) (Nat.zero_le _)
        have e0 : q_offAhead (s_refused m 0) (nI j) (nI b) = lf_offAhead_5 (s_refused m 0) (nI j) (nI b) 101 0 (nI 0) := rfl
        rw [e0]
        refine key.trans (congrArg nI ?_)
        refine off_idx (m := m) (k := b) (O := offL (lor c) L) (on := mb N c j) hB hpw hmO (fun x hx => hx.1) (fun x hx => ?_) hb
        have hon : ¬ q_isOn (s_refused m 0) (nI x) (nI j) = 0 ↔ mb N c j x := isOn_iff (EQ_w h.1.1) hx (by omega)
        rw [decide_eq_true_iff, hbt]
        have e42 : s_refused m 0 42 = m 42 := st_nf _ _ _ (by decide)
        have e46 : s_refused m 0 46 = m 46 := st_nf _ _ _ (by decide)
        rw [e42, e46, ← hon]
        unfold gA
        by_cases e1 : q_isOn (s_refused m 0) (nI x) (nI j) = 0
        · simp [e1]
        · rw [if_neg e1]
          by_cases e2 : m 42 x = m 42 b
          · rw [if_pos e2, if_pos e2, i_lt]
            by_cases e3 : m 46 x ≤ m 46 b
            · simp [e1, e3]
            · simp [e1, e3]
          · rw [if_neg e2, if_neg e2]
            by_cases e3 : m 42 x = 0
            · simp [e1, e3]
            · simp [e1, e3]) 101 0 (-1) (by omega)]
      exact fin (2 * j + 5) (offL (lor c) L) (by rw [hlO]; exact l5) (by omega) lo hmO
