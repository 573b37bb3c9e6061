/-! what holds of both states within a minute, and what single stores keep of it -/
def CT (N : Nat → Nat) (c m : St) : Prop := (c 54 0 = nI (N 4) ∧ c 54 1 = nI (N 5) ∧ c 54 2 = nI (N 6) ∧ c 54 3 = nI (N 8)) ∧ (m 2 0 = nI (N 4) ∧ m 12 0 = nI (N 5) ∧ m 21 0 = nI (N 6) ∧ m 34 0 = nI (N 8)) ∧ (N 4 ≤ 8 ∧ N 5 ≤ 6 ∧ N 6 ≤ 60 ∧ N 8 ≤ 100)
def lor (c : St) (b : Nat) : Bool := !decide (c 42 b = 0)
def mb (N : Nat → Nat) (c : St) (n b : Nat) : Prop := b < N 8 ∧ c 36 b = nI n ∧ (c 35 b = 1 ∨ c 35 b = 2)
def offL (p : Nat → Bool) (L : List Nat) : List Nat := (L.filter p).reverse ++ (L.filter (fun b => !p b)).reverse
def LQ (N : Nat → Nat) (c m : St) (n : Nat) (L : List Nat) : Prop := (∀ b, b ∈ L ↔ mb N c n b) ∧ L.Nodup ∧ (c 54 (2 * n + 4) = nI L.length ∧ c 54 (2 * n + 5) = nI L.length ∧ m 30 n = nI L.length ∧ c 50 n = nI (L.filter (lor c)).length) ∧ (∀ i b, L[i]? = some b → c (100 + (2 * n + 4)) i = nI b ∧ m 46 b = nI i) ∧ (∀ i b, (offL (lor c) L)[i]? = some b → c (100 + (2 * n + 5)) i = nI b)
def DQ (N : Nat → Nat) (c : St) (n : Nat) : Prop := (∀ b, mb N c n b → c 40 b = 0 ∨ c 40 b = c 51 n) ∧ (c 51 n = 0 ∨ ∃ b, mb N c n b ∧ c 40 b = c 51 n)
def SQ (N : Nat → Nat) (c : St) : Prop := ∀ b, b < N 8 → (c 35 b = 1 → c 22 (c 36 b).toNatClampNeg = 1) ∧ (c 35 b = 2 → c 22 (c 36 b).toNatClampNeg = 2)
def RQ (N : Nat → Nat) (c : St) : Prop := (∀ b, b < N 8 → vp_in (c 36 b) (N 6)) ∧ (∀ n, n < N 6 → vp_in (c 23 n) (N 5) ∧ vp_in (c 24 n) (N 4) ∧ vp_in (c 25 n) (N 4)) ∧ (∀ b, b < N 8 → c 55 b = nI b) ∧ (∀ b, ¬ c 40 b < 0)
def FQ (N : Nat → Nat) (c : St) : Prop := ∀ n, n < N 6 → c 22 n = 0 → ¬ c 26 n < c 1 0
def DF (N : Nat → Nat) (c m : St) : Prop := (∀ n, N 4 ≤ n → c 7 n = 0 ∧ c 8 n = 0 ∧ c 9 n = 0 ∧ c 10 n = 0 ∧ c 11 n = 0) ∧ (∀ n, N 5 ≤ n → c 20 n = 0) ∧ (∀ n, N 6 ≤ n → c 22 n = 0 ∧ c 29 n = 0 ∧ c 31 n = 0 ∧ m 30 n = 0) ∧ (∀ n, 2 * N 6 ≤ n → c 32 n = 0 ∧ c 33 n = 0) ∧ (∀ n, N 8 ≤ n → c 35 n = 0 ∧ c 43 n = 0 ∧ c 44 n = 0)
def RB (N : Nat → Nat) (c m : St) : Prop := EQ c m ∧ CT N c m ∧ (∀ n, n < N 6 → (∃ L, LQ N c m n L) ∧ DQ N c n) ∧ SQ N c ∧ RQ N c ∧ FQ N c ∧ DF N c m
theorem LQ_to {N : Nat → Nat} {c m c' m' : St} {n : Nat} {L : List Nat} (h : LQ N c m n L) (hm : ∀ b, mb N c' n b ↔ mb N c n b) (e4 : c' 54 (2 * n + 4) = c 54 (2 * n + 4)) (e5 : c' 54 (2 * n + 5) = c 54 (2 * n + 5)) (e50 : c' 50 n = c 50 n) (e42 : c' 42 = c 42) (ea : c' (100 + (2 * n + 4)) = c (100 + (2 * n + 4))) (eo : c' (100 + (2 * n + 5)) = c (100 + (2 * n + 5))) (e30 : m' 30 n = m 30 n) (e46 : ∀ b, mb N c n b → m' 46 b = m 46 b) : LQ N c' m' n L := by
  obtain ⟨h1, h2, ⟨a, b, d, e⟩, h4, h5⟩ := h
  have el : lor c' = lor c := by unfold lor; rw [e42]
  unfold LQ
  rw [el, e4, e5, e50, ea, eo, e30]
  refine ⟨fun x => (h1 x).trans (hm x).symm, h2, ⟨a, b, d, e⟩, fun i x hx => ⟨(h4 i x hx).1, ?_⟩, h5⟩
  rw [e46 x ((h1 x).mp (List.mem_of_getElem? hx))]; exact (h4 i x hx).2
theorem DQ_to {N : Nat → Nat} {c c' : St} {n : Nat} (h : DQ N c n) (hm : ∀ b, mb N c' n b ↔ mb N c n b) (e40 : c' 40 = c 40) (e51 : c' 51 n = c 51 n) : DQ N c' n := by
  unfold DQ
  rw [e40, e51]
  exact ⟨fun b hb => h.1 b ((hm b).mp hb), h.2.elim Or.inl (fun z => z.elim fun b w => Or.inr ⟨b, (hm b).mpr w.1, w.2⟩)⟩
theorem mb_to {N : Nat → Nat} {c c' : St} {n : Nat} (e35 : c' 35 = c 35) (e36 : c' 36 = c 36) : ∀ b, mb N c' n b ↔ mb N c n b := fun b => by
  unfold mb; rw [e35, e36]
theorem RB_st {N : Nat → Nat} {c m : St} (h : RB N c m) {f j : Nat} {v : Int32} (hf : f ∉ [1, 2, 12, 21, 34, 54, 36, 35, 50, 42, 46, 30, 40, 51, 22, 23, 24, 25, 26, 55]) (h100 : f < 100) (hd : (7 ≤ f ∧ f ≤ 11 → j < N 4) ∧ (f = 20 → j < N 5) ∧ (f = 29 ∨ f = 31 → j < N 6) ∧ (f = 32 ∨ f = 33 → j < 2 * N 6) ∧ (f = 43 ∨ f = 44 → j < N 8)) : RB N (st c f j v) (st m f j v) := by
  obtain ⟨h1, h2, h3, h4, h5, h6, h7⟩ := h
  simp only [List.mem_cons, List.not_mem_nil, or_false, not_or] at hf
  have e : ∀ (a : St) (g : Nat), g ≠ f → st a f j v g = a g := fun a g hg => st_nf a j v hg
  have e' : ∀ (a : St) (g n : Nat), ¬ (g = f ∧ n = j) → st a f j v g n = a g n := fun a g n hg => by rw [st_at, if_neg hg]
  refine ⟨EQ_st h1, ?_, fun n hn => ?_, ?_, ?_, ?_, ?_⟩
  · unfold CT
    rw [e c 54 (by omega), e m 2 (by omega), e m 12 (by omega), e m 21 (by omega), e m 34 (by omega)]; exact h2
  · obtain ⟨⟨L, hL⟩, hD⟩ := h3 n hn
    have hm := mb_to (N := N) (n := n) (e c 35 (by omega)) (e c 36 (by omega))
    exact ⟨⟨L, LQ_to hL hm (by rw [e c 54 (by omega)]) (by rw [e c 54 (by omega)]) (by rw [e c 50 (by omega)]) (e c 42 (by omega)) (e c _ (by omega)) (e c _ (by omega)) (by rw [e m 30 (by omega)]) (fun b _ => by rw [e m 46 (by omega)])⟩, DQ_to hD hm (e c 40 (by omega)) (by rw [e c 51 (by omega)])⟩
  · unfold SQ
    rw [e c 35 (by omega), e c 36 (by omega), e c 22 (by omega)]; exact h4
  · unfold RQ
    rw [e c 36 (by omega), e c 23 (by omega), e c 24 (by omega), e c 25 (by omega), e c 55 (by omega), e c 40 (by omega)]; exact h5
  · unfold FQ
    rw [e c 22 (by omega), e c 26 (by omega), e c 1 (by omega)]; exact h6
  · obtain ⟨d1, d2, d3, d4, d5⟩ := h7
    obtain ⟨k1, k2, k3, k4, k5⟩ := hd
    refine ⟨fun n hn => ?_, fun n hn => ?_, fun n hn => ?_, fun n hn => ?_, fun n hn => ?_⟩
    · rw [e' c 7 n (by omega), e' c 8 n (by omega), e' c 9 n (by omega), e' c 10 n (by omega), e' c 11 n (by omega)]; exact d1 n hn
    · rw [e' c 20 n (by omega)]; exact d2 n hn
    · rw [e' c 22 n (by omega), e' c 29 n (by omega), e' c 31 n (by omega), e' m 30 n (by omega)]; exact d3 n hn
    · rw [e' c 32 n (by omega), e' c 33 n (by omega)]; exact d4 n hn
    · rw [e' c 35 n (by omega), e' c 43 n (by omega), e' c 44 n (by omega)]; exact d5 n hn
/-- what the reference alone keeps -/
theorem RB_m {N : Nat → Nat} {c m : St} (h : RB N c m) {f j : Nat} {v : Int32} (hf : f = 0 ∨ f = 47) : RB N c (st m f j v) := by
  obtain ⟨h1, h2, h3, h4, h5, h6, h7⟩ := h
  have e : ∀ (g : Nat), g ≠ f → st m f j v g = m g := fun g hg => st_nf m j v hg
  refine ⟨EQ_r h1 (by rcases hf with rfl | rfl <;> rfl), ?_, fun n hn => ?_, h4, h5, h6, ?_⟩
  · unfold CT
    rw [e 2 (by omega), e 12 (by omega), e 21 (by omega), e 34 (by omega)]; exact h2
  · obtain ⟨⟨L, hL⟩, hD⟩ := h3 n hn
    exact ⟨⟨L, LQ_to hL (fun _ => Iff.rfl) rfl rfl rfl rfl rfl rfl (by rw [e 30 (by omega)]) (fun b _ => by rw [e 46 (by omega)])⟩, hD⟩
  · unfold DF
    rw [e 30 (by omega)]; exact h7
theorem mb_35 {N : Nat → Nat} {c : St} {n j : Nat} {v : Int32} (hv : v ≠ 1 ∧ v ≠ 2) (h0 : c 35 j ≠ 1 ∧ c 35 j ≠ 2) : ∀ b, mb N (st c 35 j v) n b ↔ mb N c n b := fun b => by
  unfold mb
  rw [st_nf c j v (show (36 : Nat) ≠ 35 by decide)]
  by_cases e : b = j
  · subst e
    rw [st_self]
    exact ⟨fun z => absurd z.2.2 (by rintro (w | w); exact hv.1 w; exact hv.2 w), fun z => absurd z.2.2 (by rintro (w | w); exact h0.1 w; exact h0.2 w)⟩
  · rw [st_nj c 35 v e]
theorem RB_35 {N : Nat → Nat} {c m : St} (h : RB N c m) {j : Nat} {v : Int32} (hj : j < N 8) (hv : v ≠ 1 ∧ v ≠ 2) (h0 : c 35 j ≠ 1 ∧ c 35 j ≠ 2) : RB N (st c 35 j v) (st m 35 j v) := by
  obtain ⟨h1, h2, h3, h4, h5, h6, h7⟩ := h
  have e : ∀ (a : St) (g : Nat), g ≠ 35 → st a 35 j v g = a g := fun a g hg => st_nf a j v hg
  refine ⟨EQ_st h1, ?_, fun n hn => ?_, fun b hb => ?_, ?_, ?_, ?_⟩
  · unfold CT
    rw [e c 54 (by decide), e m 2 (by decide), e m 12 (by decide), e m 21 (by decide), e m 34 (by decide)]; exact h2
  · obtain ⟨⟨L, hL⟩, hD⟩ := h3 n hn
    have hm := mb_35 (N := N) (n := n) hv h0
    exact ⟨⟨L, LQ_to hL hm (by rw [e c 54 (by decide)]) (by rw [e c 54 (by decide)]) (by rw [e c 50 (by decide)]) (e c 42 (by decide)) (e c _ (by omega)) (e c _ (by omega)) (by rw [e m 30 (by decide)]) (fun b _ => by rw [e m 46 (by decide)])⟩, DQ_to hD hm (e c 40 (by decide)) (by rw [e c 51 (by decide)])⟩
  · rw [e c 36 (by decide), e c 22 (by decide)]
    by_cases k : b = j
    · subst k
      rw [st_self]
      exact ⟨fun z => absurd z hv.1, fun z => absurd z hv.2⟩
    · rw [st_nj c 35 v k]; exact h4 b hb
  · unfold RQ
    rw [e c 36 (by decide), e c 23 (by decide), e c 24 (by decide), e c 25 (by decide), e c 55 (by decide), e c 40 (by decide)]; exact h5
  · unfold FQ
    rw [e c 22 (by decide), e c 26 (by decide), e c 1 (by decide)]; exact h6
  · obtain ⟨d1, d2, d3, d4, d5⟩ := h7
    unfold DF
    rw [e c 7 (by decide), e c 8 (by decide), e c 9 (by decide), e c 10 (by decide), e c 11 (by decide), e c 20 (by decide), e c 22 (by decide), e c 29 (by decide), e c 31 (by decide), e m 30 (by decide), e c 32 (by decide), e c 33 (by decide), e c 43 (by decide), e c 44 (by decide)]
    exact ⟨d1, d2, d3, d4, fun n hn => ⟨by rw [st_nj c 35 v (by omega)]; exact (d5 n hn).1, (d5 n hn).2⟩⟩
theorem mb_36 {N : Nat → Nat} {c : St} {n j : Nat} {v : Int32} (h0 : c 35 j ≠ 1 ∧ c 35 j ≠ 2) : ∀ b, mb N (st c 36 j v) n b ↔ mb N c n b := fun b => by
  unfold mb
  rw [st_nf c j v (show (35 : Nat) ≠ 36 by decide)]
  by_cases e : b = j
  · subst e
    exact ⟨fun z => absurd z.2.2 (by rintro (w | w); exact h0.1 w; exact h0.2 w), fun z => absurd z.2.2 (by rintro (w | w); exact h0.1 w; exact h0.2 w)⟩
  · rw [st_nj c 36 v e]
theorem RB_36 {N : Nat → Nat} {c m : St} (h : RB N c m) {j : Nat} {v : Int32} (hv : vp_in v (N 6)) (h0 : c 35 j ≠ 1 ∧ c 35 j ≠ 2) : RB N (st c 36 j v) (st m 36 j v) := by
  obtain ⟨h1, h2, h3, h4, h5, h6, h7⟩ := h
  have e : ∀ (a : St) (g : Nat), g ≠ 36 → st a 36 j v g = a g := fun a g hg => st_nf a j v hg
  refine ⟨EQ_st h1, ?_, fun n hn => ?_, fun b hb => ?_, ?_, ?_, ?_⟩
  · unfold CT
    rw [e c 54 (by decide), e m 2 (by decide), e m 12 (by decide), e m 21 (by decide), e m 34 (by decide)]; exact h2
  · obtain ⟨⟨L, hL⟩, hD⟩ := h3 n hn
    have hm := mb_36 (N := N) (n := n) (v := v) h0
    exact ⟨⟨L, LQ_to hL hm (by rw [e c 54 (by decide)]) (by rw [e c 54 (by decide)]) (by rw [e c 50 (by decide)]) (e c 42 (by decide)) (e c _ (by omega)) (e c _ (by omega)) (by rw [e m 30 (by decide)]) (fun b _ => by rw [e m 46 (by decide)])⟩, DQ_to hD hm (e c 40 (by decide)) (by rw [e c 51 (by decide)])⟩
  · rw [e c 35 (by decide), e c 22 (by decide)]
    by_cases k : b = j
    · subst k
      exact ⟨fun z => absurd z h0.1, fun z => absurd z h0.2⟩
    · rw [st_nj c 36 v k]; exact h4 b hb
  · obtain ⟨r1, r2, r3, r4⟩ := h5
    unfold RQ
    rw [e c 23 (by decide), e c 24 (by decide), e c 25 (by decide), e c 55 (by decide), e c 40 (by decide)]
    refine ⟨fun b hb => ?_, r2, r3, r4⟩
    by_cases k : b = j
    · subst k; rw [st_self]; exact hv
    · rw [st_nj c 36 v k]; exact r1 b hb
  · unfold FQ
    rw [e c 22 (by decide), e c 26 (by decide), e c 1 (by decide)]; exact h6
  · unfold DF
    rw [e c 7 (by decide), e c 8 (by decide), e c 9 (by decide), e c 10 (by decide), e c 11 (by decide), e c 20 (by decide), e c 22 (by decide), e c 29 (by decide), e c 31 (by decide), e m 30 (by decide), e c 32 (by decide), e c 33 (by decide), e c 35 (by decide), e c 43 (by decide), e c 44 (by decide)]
    exact h7
/-- nobody is aboard a planned sailing -/
theorem RB_none {N : Nat → Nat} {c m : St} (h : RB N c m) {n : Nat} (hn : n < N 6) (h0 : c 22 n = 0) : ∀ b, ¬ mb N c n b := fun b hb => by
  obtain ⟨h1, h2, h3, h4, h5, h6, h7⟩ := h
  obtain ⟨a, e, d⟩ := hb
  have k := h4 b a
  rw [e, nI_clamp (by have := h2.2.2.2.2.1; omega), h0] at k
  rcases d with d | d
  · exact absurd (k.1 d) (by decide)
  · exact absurd (k.2 d) (by decide)
theorem RB_22 {N : Nat → Nat} {c m : St} (h : RB N c m) {j : Nat} {v : Int32} (hj : j < N 6) (hv : v ≠ 0) (h0 : ∀ b, ¬ mb N c j b) : RB N (st c 22 j v) (st m 22 j v) := by
  obtain ⟨h1, h2, h3, h4, h5, h6, h7⟩ := h
  have e : ∀ (a : St) (g : Nat), g ≠ 22 → st a 22 j v g = a g := fun a g hg => st_nf a j v hg
  refine ⟨EQ_st h1, ?_, fun n hn => ?_, fun b hb => ?_, ?_, fun n hn => ?_, ?_⟩
  · unfold CT
    rw [e c 54 (by decide), e m 2 (by decide), e m 12 (by decide), e m 21 (by decide), e m 34 (by decide)]; exact h2
  · obtain ⟨⟨L, hL⟩, hD⟩ := h3 n hn
    have hm := mb_to (N := N) (n := n) (e c 35 (by decide)) (e c 36 (by decide))
    exact ⟨⟨L, LQ_to hL hm (by rw [e c 54 (by decide)]) (by rw [e c 54 (by decide)]) (by rw [e c 50 (by decide)]) (e c 42 (by decide)) (e c _ (by omega)) (e c _ (by omega)) (by rw [e m 30 (by decide)]) (fun b _ => by rw [e m 46 (by decide)])⟩, DQ_to hD hm (e c 40 (by decide)) (by rw [e c 51 (by decide)])⟩
  · rw [e c 36 (by decide), e c 35 (by decide)]
    by_cases k : (c 36 b).toNatClampNeg = j
    · obtain ⟨i, hi, hx⟩ := vp_in_of (h5.1 b hb) (by have := h2.2.2.2.2.1; omega)
      rw [hx, nI_clamp (by have := h2.2.2.2.2.1; omega)] at k
      subst k
      exact ⟨fun z => absurd ⟨hb, hx, Or.inl z⟩ (h0 b), fun z => absurd ⟨hb, hx, Or.inr z⟩ (h0 b)⟩
    · rw [st_nj c 22 v k]; exact h4 b hb
  · unfold RQ
    rw [e c 36 (by decide), e c 23 (by decide), e c 24 (by decide), e c 25 (by decide), e c 55 (by decide), e c 40 (by decide)]; exact h5
  · rw [e c 26 (by decide), e c 1 (by decide)]
    by_cases k : n = j
    · subst k; rw [st_self]; exact fun z => absurd z hv
    · rw [st_nj c 22 v k]; exact h6 n hn
  · obtain ⟨d1, d2, d3, d4, d5⟩ := h7
    unfold DF
    rw [e c 7 (by decide), e c 8 (by decide), e c 9 (by decide), e c 10 (by decide), e c 11 (by decide), e c 20 (by decide), e c 29 (by decide), e c 31 (by decide), e m 30 (by decide), e c 32 (by decide), e c 33 (by decide), e c 35 (by decide), e c 43 (by decide), e c 44 (by decide)]
    exact ⟨d1, d2, fun n hn => ⟨by rw [st_nj c 22 v (by omega)]; exact (d3 n hn).1, (d3 n hn).2⟩, d4, d5⟩
