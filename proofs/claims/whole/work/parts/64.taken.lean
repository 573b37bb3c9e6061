/-! one more aboard: the lists of a sailing, and all else -/
theorem k89_f {c : St} {s b : Int32} {f : Nat} (h : f ≠ 32 ∧ f ≠ 33 ∧ f ≠ 51) : k89s_X3_takeAboard c s b f = c f := by
  unfold k89s_X3_takeAboard
  split
  · rw [st_nf _ _ _ h.2.1, st_nf _ _ _ h.1]
  · rw [st_nf _ _ _ h.2.2, st_nf _ _ _ h.2.1, st_nf _ _ _ h.1]
theorem st_col {a b : St} {f j : Nat} {v : Int32} (h : a f = b f) : st a f j v f = st b f j v f := by
  show (if f = f then upd (a f) j v else a f) = (if f = f then upd (b f) j v else b f)
  rw [h]
theorem k89_51 {c : St} {s b : Int32} : k89s_X3_takeAboard c s b 51 = if c 40 b.toNatClampNeg = 0 then c 51 else st c 51 s.toNatClampNeg (c 40 b.toNatClampNeg) 51 := by
  unfold k89s_X3_takeAboard
  split
  · rw [st_nf _ _ _ (by decide), st_nf _ _ _ (by decide)]
  · exact st_col (by rw [st_nf _ _ _ (by decide), st_nf _ _ _ (by decide)])
theorem put_f {c : St} {s b : Int32} {f : Nat} (h : f ≠ 50 ∧ f ≠ 52 ∧ f ≠ 54 ∧ f < 100) : s_X3_putFirstOff c s b f = c f := by
  unfold s_X3_putFirstOff k51s_X3_putFirstOff
  split
  · rw [sadd_o ⟨h.2.1, h.2.2.1, h.2.2.2⟩]
  · rw [st_nf _ _ _ h.1, sadd_o ⟨h.2.1, h.2.2.1, h.2.2.2⟩]
/-- the row of who goes off, one more in it -/
theorem put_off {Y : St} {s b C l : Nat} (hs : s < 60) (hb : b < 100) (h5 : Y 54 (2 * s + 5) = nI C) (hl : Y 50 s = nI l) (hlC : l ≤ C) (hC : C ≤ 99) : let Z := s_X3_putFirstOff Y (nI s) (nI b); Z 54 (2 * s + 5) = nI (C + 1) ∧ (∀ q, q ≠ 2 * s + 5 → Z 54 q = Y 54 q) ∧ (∀ q, q ≠ 2 * s + 5 → Z (100 + q) = Y (100 + q)) ∧ (∀ i, Z (100 + (2 * s + 5)) i = if i < (if lor Y b then 0 else l) then Y (100 + (2 * s + 5)) i else if i = (if lor Y b then 0 else l) then nI b else Y (100 + (2 * s + 5)) (i - 1)) ∧ Z 50 s = nI (if lor Y b then l + 1 else l) ∧ (∀ n, n ≠ s → Z 50 n = Y 50 n) := by
  have hst : (nI s).toNatClampNeg = s := nI_clamp (by omega)
  have hbt : (nI b).toNatClampNeg = b := nI_clamp (by omega)
  intro Z
  have eZ : Z = if Y 42 b = 0 then sadd Y (2 * s + 5) l (nI b) else st (sadd Y (2 * s + 5) 0 (nI b)) 50 s (Y 50 s + 1) := by
    show s_X3_putFirstOff Y (nI s) (nI b) = _
    unfold s_X3_putFirstOff k51s_X3_putFirstOff
    rw [hbt, q5n hs, hst, hl, nI_clamp (by omega), sadd_o (f := 50) (by decide), hl]
  rw [eZ]
  unfold lor
  by_cases e : Y 42 b = 0
  · rw [if_pos e, decide_eq_true e]
    refine ⟨by rw [sadd_54, h5, nI_1], fun q hq => sadd_54n hq, fun q hq => sadd_100 (by omega) (by omega), fun i => by rw [sadd_c]; rfl, ?_, fun n _ => ?_⟩
    · rw [sadd_o (by decide)]; exact hl
    · rw [sadd_o (by decide)]
  · rw [if_neg e, decide_eq_false e]
    refine ⟨?_, fun q hq => ?_, fun q hq => ?_, fun i => ?_, ?_, fun n hn => ?_⟩
    · rw [st_nf _ _ _ (by decide), sadd_54, h5, nI_1]
    · rw [st_nf _ _ _ (by decide), sadd_54n hq]
    · rw [st_nf _ _ _ (by omega), sadd_100 (by omega) (by omega)]
    · rw [st_nf _ _ _ (by omega), sadd_c]; rfl
    · rw [st_self, hl, nI_1]; rfl
    · rw [st_nj _ _ _ hn, sadd_o (by decide)]
theorem off_in (p : Nat → Bool) (L : List Nat) (b : Nat) : offL p (L ++ [b]) = if p b then b :: offL p L else (L.filter p).reverse ++ b :: (L.filter (fun x => !p x)).reverse := by
  unfold offL
  rw [List.filter_append, List.filter_append]
  by_cases e : p b = true
  · simp [e]
  · simp [e]
theorem get_ins (A B : List Nat) (b i : Nat) : (A ++ b :: B)[i]? = if i < A.length then (A ++ B)[i]? else if i = A.length then some b else (A ++ B)[i - 1]? := by
  by_cases h1 : i < A.length
  · rw [if_pos h1, List.getElem?_append_left h1, List.getElem?_append_left h1]
  · rw [if_neg h1, List.getElem?_append_right (by omega)]
    by_cases h2 : i = A.length
    · rw [if_pos h2, h2, Nat.sub_self]; rfl
    · rw [if_neg h2, List.getElem?_append_right (by omega), show i - A.length = (i - 1 - A.length) + 1 by omega, List.getElem?_cons_succ]
theorem off_len (p : Nat → Bool) (L : List Nat) : (offL p L).length = L.length := by
  unfold offL
  rw [List.length_append, List.length_reverse, List.length_reverse]
  induction L with
  | nil => rfl
  | cons a L ih =>
    by_cases e : p a = true
    · rw [List.filter_cons_of_pos e, List.filter_cons_of_neg (by rw [e]; decide), List.length_cons, List.length_cons]; omega
    · have e2 : p a = false := by cases h : p a with | true => exact absurd h e | false => rfl
      rw [List.filter_cons_of_neg e, List.filter_cons_of_pos (by rw [e2]; rfl), List.length_cons, List.length_cons]; omega
theorem off_perm (p : Nat → Bool) (L : List Nat) : ∀ b, b ∈ offL p L ↔ b ∈ L := fun b => by
  unfold offL
  rw [List.mem_append, List.mem_reverse, List.mem_reverse, List.mem_filter, List.mem_filter]
  by_cases e : p b = true
  · simp [e]
  · simp [e]
theorem nodup_len {L : List Nat} {M : Nat} (h : L.Nodup) (hm : ∀ b, b ∈ L → b < M) : L.length ≤ M := by
  induction M generalizing L with
  | zero =>
    cases L with
    | nil => exact Nat.le_refl _
    | cons a L => exact absurd (hm a List.mem_cons_self) (Nat.not_lt_zero _)
  | succ M ih =>
    by_cases e : M ∈ L
    · have h2 := ih (L := L.erase M) (h.erase M) (fun b hb => by
        have := h.mem_erase_iff.mp hb
        have := hm b this.2
        omega)
      rw [List.length_erase_of_mem e] at h2
      omega
    · have := ih h (fun b hb => by
        have h3 := hm b hb
        have : b ≠ M := fun z => e (by rw [← z]; exact hb)
        omega)
      omega
theorem filt_le (p : Nat → Bool) (L : List Nat) : (L.filter p).length ≤ L.length := List.length_filter_le p L
/-- a sailing's lists, one more aboard -/
theorem LQ_take {N : Nat → Nat} {c m : St} {s b : Nat} {L : List Nat} (hs : s < 60) (h8 : N 8 ≤ 100) (hL : LQ N c m s L) (hb : b < N 8) (h35 : c 35 b = 0) (h36 : c 36 b = nI s) : LQ N (s_X3_takeAboard c (nI s) (nI b)) (s_comes m (nI s) (nI b)) s (L ++ [b]) := by
  have hst : (nI s).toNatClampNeg = s := nI_clamp (by omega)
  have hbt : (nI b).toNatClampNeg = b := nI_clamp (by omega)
  obtain ⟨l1, l2, ⟨l4, l5, l30, l50⟩, lc, lo⟩ := id hL
  have hbL : b ∉ L := fun z => by
    have := ((l1 b).mp z).2.2
    rw [h35] at this
    exact this.elim (fun w => absurd w (by decide)) (fun w => absurd w (by decide))
  have hlen : L.length < N 8 := by
    have h1 : (L ++ [b]).Nodup := List.nodup_append.mpr ⟨l2, by simp, fun x hx y hy e => hbL (by rw [List.mem_singleton] at hy; rw [← hy, ← e]; exact hx)⟩
    have h2 := nodup_len (M := N 8) h1 (fun x hx => by
      rcases List.mem_append.mp hx with h | h
      · exact ((l1 x).mp h).1
      · rw [List.mem_singleton] at h; rw [h]; exact hb)
    rw [List.length_append] at h2
    exact h2
  have hfl := filt_le (lor c) L
  unfold s_X3_takeAboard
  generalize hX : st (st (k89s_X3_takeAboard c (nI s) (nI b)) 35 (nI b).toNatClampNeg 1) 45 (nI b).toNatClampNeg (nI ((k47t0_X3_takeAboard c (nI s) (nI b)).toNatClampNeg % 2)) = X
  have xf : ∀ f, f ≠ 32 ∧ f ≠ 33 ∧ f ≠ 51 ∧ f ≠ 35 ∧ f ≠ 45 → X f = c f := fun f hf => by
    rw [← hX, st_nf _ _ _ hf.2.2.2.2, st_nf _ _ _ hf.2.2.2.1, k89_f ⟨hf.1, hf.2.1, hf.2.2.1⟩]
  have x35 : X 35 = st c 35 b 1 35 := by
    rw [← hX, st_nf _ _ _ (by decide), hbt]
    funext k
    rw [st_at, st_at, k89_f (by decide)]
  rw [q4n hs, l4, nI_clamp (by omega)]
  generalize hY : sadd X (2 * s + 4) L.length (nI b) = Y
  have y54a : Y 54 (2 * s + 4) = nI (L.length + 1) := by rw [← hY, sadd_54, xf 54 (by decide), l4, nI_1]
  have y54 : ∀ q, q ≠ 2 * s + 4 → Y 54 q = c 54 q := fun q hq => by rw [← hY, sadd_54n hq, xf 54 (by decide)]
  have yo : ∀ f, f ≠ 52 ∧ f ≠ 54 ∧ f < 100 → Y f = X f := fun f hf => by rw [← hY, sadd_o hf]
  have y50 : Y 50 = c 50 := by rw [yo 50 (by decide), xf 50 (by decide)]
  have y42 : Y 42 = c 42 := by rw [yo 42 (by decide), xf 42 (by decide)]
  have yq : ∀ q, q ≠ 2 * s + 4 → Y (100 + q) = c (100 + q) := fun q hq => by rw [← hY, sadd_100 (by omega) (by omega), xf _ (by omega)]
  have yc : ∀ i, Y (100 + (2 * s + 4)) i = if i < L.length then c (100 + (2 * s + 4)) i else if i = L.length then nI b else c (100 + (2 * s + 4)) (i - 1) := fun i => by rw [← hY, sadd_c, xf _ (by omega)]
  have ylor : lor Y = lor c := by unfold lor; rw [y42]
  have p := put_off (Y := Y) (s := s) (b := b) (C := L.length) (l := (L.filter (lor c)).length) hs (by omega) (by rw [y54 _ (by omega)]; exact l5) (by rw [y50]; exact l50) hfl (by omega)
  dsimp only at p
  generalize hZ : s_X3_putFirstOff Y (nI s) (nI b) = Z at p ⊢
  obtain ⟨p1, p2, p3, p4, p5, p6⟩ := p
  have zf : ∀ f, f ≠ 50 ∧ f ≠ 52 ∧ f ≠ 54 ∧ f < 100 → Z f = Y f := fun f hf => by rw [← hZ, put_f hf]
  have z35 : Z 35 = st c 35 b 1 35 := by rw [zf 35 (by decide), yo 35 (by decide), x35]
  have z36 : Z 36 = c 36 := by rw [zf 36 (by decide), yo 36 (by decide), xf 36 (by decide)]
  have zlor : lor Z = lor c := by
    have : Z 42 = c 42 := by rw [zf 42 (by decide), y42]
    unfold lor; rw [this]
  have hmb : ∀ x, mb N Z s x ↔ mb N c s x ∨ x = b := fun x => by
    unfold mb
    rw [z35, z36]
    by_cases e : x = b
    · subst e
      rw [st_self]
      exact ⟨fun _ => Or.inr rfl, fun _ => ⟨hb, h36, Or.inl rfl⟩⟩
    · rw [st_nj _ _ _ e]
      exact ⟨Or.inl, fun z => z.resolve_right e⟩
  have m30 : s_comes m (nI s) (nI b) 30 s = nI (L.length + 1) := by
    unfold s_comes
    rw [hst, st_self, l30, nI_1]
  have m46 : s_comes m (nI s) (nI b) 46 = st m 46 b (nI L.length) 46 := by
    unfold s_comes
    rw [hst, hbt, st_nf _ _ _ (by decide), st_nf _ _ _ (by decide), st_nf _ _ _ (by decide), l30]
    exact st_col (by rw [st_nf _ _ _ (by decide), st_nf _ _ _ (by decide)])
  unfold LQ
  rw [zlor]
  refine ⟨fun x => ?_, ?_, ⟨?_, ?_, ?_, ?_⟩, fun i x hx => ?_, fun i x hx => ?_⟩
  · rw [List.mem_append, List.mem_singleton, l1 x, hmb x]
  · exact List.nodup_append.mpr ⟨l2, by simp, fun x hx y hy e => hbL (by rw [List.mem_singleton] at hy; rw [← hy, ← e]; exact hx)⟩
  · rw [p2 _ (by omega), y54a, List.length_append]; rfl
  · rw [p1, List.length_append]; rfl
  · rw [m30, List.length_append]; rfl
  · rw [p5, ylor, List.filter_append]
    by_cases e : lor c b = true
    · rw [if_pos e]; simp [e]
    · rw [if_neg e]; simp [e]
  · rw [p3 _ (by omega), yc i, m46]
    by_cases e : i < L.length
    · rw [List.getElem?_append_left e] at hx
      rw [if_pos e]
      have hxb : x ≠ b := fun z => hbL (by rw [← z]; exact List.mem_of_getElem? hx)
      rw [st_nj _ _ _ hxb]
      exact lc i x hx
    · rw [List.getElem?_append_right (by omega)] at hx
      have e2 : i = L.length := by
        by_cases w : i = L.length
        · exact w
        · rw [List.getElem?_eq_none (by simp; omega)] at hx; cases hx
      rw [e2, Nat.sub_self] at hx
      have hxb : b = x := Option.some.inj hx
      subst hxb
      rw [if_neg e, if_pos e2, st_self, e2]; exact ⟨rfl, rfl⟩
  · rw [p4 i, ylor]
    rw [off_in] at hx
    rw [yq _ (by omega)]
    by_cases e : lor c b = true
    · rw [if_pos e] at hx ⊢
      rw [if_neg (by omega)]
      by_cases e2 : i = 0
      · rw [e2] at hx
        rw [if_pos e2]
        exact congrArg nI (Option.some.inj hx)
      · rw [if_neg e2]
        rw [show i = (i - 1) + 1 by omega, List.getElem?_cons_succ] at hx
        exact lo _ _ hx
    · rw [if_neg e] at hx ⊢
      rw [get_ins, List.length_reverse] at hx
      by_cases e2 : i < (L.filter (lor c)).length
      · rw [if_pos e2] at hx ⊢; exact lo _ _ hx
      · rw [if_neg e2] at hx ⊢
        by_cases e3 : i = (L.filter (lor c)).length
        · rw [if_pos e3] at hx ⊢; exact congrArg nI (Option.some.inj hx)
        · rw [if_neg e3] at hx ⊢; exact lo _ _ hx
theorem take_54 {c : St} {s b q : Nat} (hs : s < 60) (hq : q ≠ 2 * s + 4 ∧ q ≠ 2 * s + 5) : s_X3_takeAboard c (nI s) (nI b) 54 q = c 54 q ∧ s_X3_takeAboard c (nI s) (nI b) (100 + q) = c (100 + q) := by
  unfold s_X3_takeAboard s_X3_putFirstOff k51s_X3_putFirstOff
  rw [q4n hs, q5n hs]
  constructor
  · split
    · rw [sadd_54n hq.2, sadd_54n hq.1, st_nf _ _ _ (by decide), st_nf _ _ _ (by decide), k89_f (by decide)]
    · rw [st_nf _ _ _ (by decide), sadd_54n hq.2, sadd_54n hq.1, st_nf _ _ _ (by decide), st_nf _ _ _ (by decide), k89_f (by decide)]
  · split
    · rw [sadd_100 (by omega) (by omega), sadd_100 (by omega) (by omega), st_nf _ _ _ (by omega), st_nf _ _ _ (by omega), k89_f (by omega)]
    · rw [st_nf _ _ _ (by omega), sadd_100 (by omega) (by omega), sadd_100 (by omega) (by omega), st_nf _ _ _ (by omega), st_nf _ _ _ (by omega), k89_f (by omega)]
theorem take_50 {c : St} {s b n : Nat} (hs : s < 60) (hn : n ≠ s) : s_X3_takeAboard c (nI s) (nI b) 50 n = c 50 n := by
  unfold s_X3_takeAboard s_X3_putFirstOff k51s_X3_putFirstOff
  split
  · rw [sadd_o (by decide), sadd_o (by decide), st_nf _ _ _ (by decide), st_nf _ _ _ (by decide), k89_f (by decide)]
  · rw [nI_clamp (show s < 2 ^ 31 by omega), st_nj _ _ _ hn, sadd_o (by decide), sadd_o (by decide), st_nf _ _ _ (by decide), st_nf _ _ _ (by decide), k89_f (by decide)]
theorem take_51 {c : St} {s b : Nat} (hs : s < 60) (hb : b < 100) : s_X3_takeAboard c (nI s) (nI b) 51 = if c 40 b = 0 then c 51 else st c 51 s (c 40 b) 51 := by
  unfold s_X3_takeAboard
  rw [put_f (by decide), sadd_o (by decide), st_nf _ _ _ (by decide), st_nf _ _ _ (by decide), k89_51, nI_clamp (by omega), nI_clamp (by omega)]
theorem RB_take {N : Nat → Nat} {c m : St} (h : RB N c m) {s b : Nat} (hs : s < N 6) (h1 : c 22 s = 1) (hb : b < N 8) (h35 : c 35 b = 0) (h36 : c 36 b = nI s) (hg : c 40 b = 0 ∨ c 51 s = 0 ∨ c 51 s = c 40 b) : RB N (s_X3_takeAboard c (nI s) (nI b)) (s_comes m (nI s) (nI b)) := by
  obtain ⟨hE, hc, h3, h4, h5, h6, h7⟩ := id h
  have h8 := hc.2.2.2.2.2
  have h60 := hc.2.2.2.2.1
  have hst : (nI s).toNatClampNeg = s := nI_clamp (by omega)
  have hbt : (nI b).toNatClampNeg = b := nI_clamp (by omega)
  have t35 : s_X3_takeAboard c (nI s) (nI b) 35 = st c 35 b 1 35 := by rw [take_35, hbt]
  have t36 : s_X3_takeAboard c (nI s) (nI b) 36 = c 36 := take_f (by decide)
  have t40 : s_X3_takeAboard c (nI s) (nI b) 40 = c 40 := take_f (by decide)
  have t22 : s_X3_takeAboard c (nI s) (nI b) 22 = c 22 := take_f (by decide)
  have hEt := EQ_take hE (s := s) (b := b) (by omega)
  have cf : ∀ f, f ≠ 30 ∧ f ≠ 32 ∧ f ≠ 33 ∧ f ≠ 35 ∧ f ≠ 45 ∧ f ≠ 46 → s_comes m (nI s) (nI b) f = m f := fun f hf => by
    unfold s_comes
    rw [st_nf _ _ _ hf.1, st_nf _ _ _ hf.2.2.1, st_nf _ _ _ hf.2.1, st_nf _ _ _ hf.2.2.2.2.2, st_nf _ _ _ hf.2.2.2.2.1, st_nf _ _ _ hf.2.2.2.1]
  have hmbo : ∀ n x, n < N 6 → n ≠ s → (mb N (s_X3_takeAboard c (nI s) (nI b)) n x ↔ mb N c n x) := fun n x hn hns => by
    unfold mb
    rw [t35, t36]
    by_cases e : x = b
    · subst e
      have hne : ¬ c 36 x = nI n := fun z => hns ((nI_eq (by omega) (by omega)).mp (z.symm.trans h36))
      exact ⟨fun z => absurd z.2.1 hne, fun z => absurd z.2.1 hne⟩
    · rw [st_nj _ _ _ e]
  have hmbs : ∀ x, mb N (s_X3_takeAboard c (nI s) (nI b)) s x ↔ mb N c s x ∨ x = b := fun x => by
    unfold mb
    rw [t35, t36]
    by_cases e : x = b
    · subst e
      rw [st_self]
      exact ⟨fun _ => Or.inr rfl, fun _ => ⟨hb, h36, Or.inl rfl⟩⟩
    · rw [st_nj _ _ _ e]
      exact ⟨Or.inl, fun z => z.resolve_right e⟩
  have t51 := take_51 (c := c) (s := s) (b := b) (by omega) (by omega)
  refine ⟨hEt, ?_, fun n hn => ?_, fun x hx => ?_, ?_, ?_, ?_⟩
  · unfold CT
    rw [(take_54 (by omega) (by omega)).1, (take_54 (by omega) (by omega)).1, (take_54 (by omega) (by omega)).1, (take_54 (by omega) (by omega)).1, cf 2 (by decide), cf 12 (by decide), cf 21 (by decide), cf 34 (by decide)]
    exact hc
  · obtain ⟨⟨L, hL⟩, hD⟩ := h3 n hn
    by_cases e : n = s
    · subst e
      refine ⟨⟨L ++ [b], LQ_take (by omega) h8 hL hb h35 h36⟩, ?_⟩
      unfold DQ
      rw [t40, t51]
      by_cases e0 : c 40 b = 0
      · rw [if_pos e0]
        refine ⟨fun x hx => ?_, hD.2.elim Or.inl (fun z => z.elim fun x w => Or.inr ⟨x, (hmbs x).mpr (Or.inl w.1), w.2⟩)⟩
        rcases (hmbs x).mp hx with w | w
        · exact hD.1 x w
        · rw [w]; exact Or.inl e0
      · rw [if_neg e0, st_self]
        refine ⟨fun x hx => ?_, Or.inr ⟨b, (hmbs b).mpr (Or.inr rfl), rfl⟩⟩
        rcases (hmbs x).mp hx with w | w
        · rcases hD.1 x w with d | d
          · exact Or.inl d
          · rcases hg with g | g | g
            · exact absurd g e0
            · exact Or.inl (d.trans g)
            · exact Or.inr (d.trans g)
        · rw [w]; exact Or.inr rfl
    · have hm := fun x => hmbo n x hn e
      refine ⟨⟨L, LQ_to hL hm (take_54 (by omega) (by omega)).1 (take_54 (by omega) (by omega)).1 (take_50 (by omega) e) (take_f (by decide)) (take_54 (by omega) (by omega)).2 (take_54 (by omega) (by omega)).2 ?_ (fun x hx => ?_)⟩, DQ_to hD hm t40 ?_⟩
      · unfold s_comes; rw [hst, st_nj _ _ _ e, st_nf _ _ _ (by decide), st_nf _ _ _ (by decide), st_nf _ _ _ (by decide), st_nf _ _ _ (by decide), st_nf _ _ _ (by decide)]
      · have hxb : x ≠ b := fun z => by
          have := hx.2.2
          rw [z, h35] at this
          exact this.elim (fun w => absurd w (by decide)) (fun w => absurd w (by decide))
        unfold s_comes
        rw [hbt, st_nf _ _ _ (by decide), st_nf _ _ _ (by decide), st_nf _ _ _ (by decide), st_nj _ _ _ hxb, st_nf _ _ _ (by decide), st_nf _ _ _ (by decide)]
      · rw [t51]
        by_cases e0 : c 40 b = 0
        · rw [if_pos e0]
        · rw [if_neg e0, st_nj _ _ _ e]
  · rw [t35, t36, t22]
    by_cases e : x = b
    · subst e
      rw [st_self, h36, hst, h1]
      exact ⟨fun _ => rfl, fun z => absurd z (by decide)⟩
    · rw [st_nj _ _ _ e]; exact h4 x hx
  · unfold RQ
    rw [t36, t40, take_f (f := 23) (by decide), take_f (f := 24) (by decide), take_f (f := 25) (by decide), take_f (f := 55) (by decide)]; exact h5
  · unfold FQ
    rw [t22, take_f (f := 26) (by decide), take_f (f := 1) (by decide)]; exact h6
  · obtain ⟨d1, d2, d3, d4, d5⟩ := h7
    unfold DF
    rw [take_f (f := 7) (by decide), take_f (f := 8) (by decide), take_f (f := 9) (by decide), take_f (f := 10) (by decide), take_f (f := 11) (by decide), take_f (f := 20) (by decide), t22, take_f (f := 29) (by decide), take_f (f := 31) (by decide), take_f (f := 43) (by decide), take_f (f := 44) (by decide)]
    obtain ⟨w, hw, -, ew⟩ := e_side hE (nI s) (nI b)
    have hK : (2 * nI s + nI w).toNatClampNeg = 2 * s + w := by
      rw [show (2 : Int32) = nI 2 from rfl, pk_mul, nI_add, nI_clamp (by omega)]
    refine ⟨d1, d2, fun n hn => ⟨(d3 n hn).1, (d3 n hn).2.1, (d3 n hn).2.2.1, ?_⟩, fun n hn => ⟨?_, ?_⟩, fun n hn => ⟨?_, (d5 n hn).2⟩⟩
    · unfold s_comes
      rw [hst, st_nj _ _ _ (by omega), st_nf _ _ _ (by decide), st_nf _ _ _ (by decide), st_nf _ _ _ (by decide), st_nf _ _ _ (by decide), st_nf _ _ _ (by decide)]
      exact (d3 n hn).2.2.2
    · rw [hEt 32 rfl]
      unfold s_comes
      rw [ew, hK, st_nf _ _ _ (by decide), st_nf _ _ _ (by decide), st_nj _ _ _ (by omega), st_nf _ _ _ (by decide), st_nf _ _ _ (by decide), st_nf _ _ _ (by decide), ← hE 32 rfl]
      exact (d4 n hn).1
    · rw [hEt 33 rfl]
      unfold s_comes
      rw [ew, hK, st_nf _ _ _ (by decide), st_nj _ _ _ (by omega), st_nf _ _ _ (by decide), st_nf _ _ _ (by decide), st_nf _ _ _ (by decide), st_nf _ _ _ (by decide), ← hE 33 rfl]
      exact (d4 n hn).2
    · rw [t35, st_nj _ _ _ (by omega)]
      exact (d5 n hn).1
