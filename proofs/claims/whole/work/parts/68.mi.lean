/-! what the reference's state keeps over every public call -/
theorem MI_st {σ : St} (h : MI σ) {f j : Nat} {v : Int32} (hc : f ∉ [2, 12, 21, 34]) (h23 : f = 23 → vp_in v 6) (h24 : f = 24 ∨ f = 25 → vp_in v 8) (h36 : f = 36 → vp_in v 60) (h37 : f = 37 → vp_in v 3) (hB : f = 6 ∨ f = 20 ∨ f = 28 ∨ f = 41 ∨ f = 42 → isB v) : MI (st σ f j v) := by
  simp only [List.mem_cons, List.not_mem_nil, or_false, not_or] at hc
  obtain ⟨h1, h2, h3, h4, h5, h6, h7, h8, h9, h10, h11⟩ := h
  have e : ∀ g k, ¬ (g = f ∧ k = j) → st σ f j v g k = σ g k := fun g k hg => by rw [st_at, if_neg hg]
  have up : ∀ (P : Int32 → Prop) (g : Nat), (∀ k, P (σ g k)) → (g = f → P v) → ∀ k, P (st σ f j v g k) := fun P g a b k => by
    rw [st_at]
    by_cases w : g = f ∧ k = j
    · rw [if_pos w]; exact b w.1
    · rw [if_neg w]; exact a k
  unfold MI
  rw [e 2 0 (by omega), e 12 0 (by omega), e 21 0 (by omega), e 34 0 (by omega)]
  exact ⟨h1, up (fun z => vp_in z 6) 23 h2 (fun z => h23 z.symm), up (fun z => vp_in z 8) 24 h3 (fun z => h24 (Or.inl z.symm)), up (fun z => vp_in z 8) 25 h4 (fun z => h24 (Or.inr z.symm)), up (fun z => vp_in z 60) 36 h5 (fun z => h36 z.symm), up (fun z => vp_in z 3) 37 h6 (fun z => h37 z.symm), up isB 6 h7 (fun z => hB (by omega)), up isB 20 h8 (fun z => hB (by omega)), up isB 28 h9 (fun z => hB (by omega)), up isB 41 h10 (fun z => hB (by omega)), up isB 42 h11 (fun z => hB (by omega))⟩
theorem MI_ct {σ : St} (h : MI σ) {f : Nat} {v : Int32} (h2 : f = 2 ∧ rng v 8 ∨ f = 12 ∧ rng v 6 ∨ f = 21 ∧ rng v 60 ∨ f = 34 ∧ rng v 100) : MI (st σ f 0 v) := by
  obtain ⟨⟨a1, a2, a3, a4⟩, k2, h3, h4, h5, h6, h7, h8, h9, h10, h11⟩ := h
  have e : ∀ g, g ≠ f → st σ f 0 v g = σ g := fun g hg => st_nf σ 0 v hg
  unfold MI
  rw [e 23 (by omega), e 24 (by omega), e 25 (by omega), e 36 (by omega), e 37 (by omega), e 6 (by omega), e 20 (by omega), e 28 (by omega), e 41 (by omega), e 42 (by omega)]
  refine ⟨?_, k2, h3, h4, h5, h6, h7, h8, h9, h10, h11⟩
  rcases h2 with ⟨rfl, r⟩ | ⟨rfl, r⟩ | ⟨rfl, r⟩ | ⟨rfl, r⟩
  · rw [st_self, e 12 (by decide), e 21 (by decide), e 34 (by decide)]; exact ⟨r, a2, a3, a4⟩
  · rw [st_self, e 2 (by decide), e 21 (by decide), e 34 (by decide)]; exact ⟨a1, r, a3, a4⟩
  · rw [st_self, e 2 (by decide), e 12 (by decide), e 34 (by decide)]; exact ⟨a1, a2, r, a4⟩
  · rw [st_self, e 2 (by decide), e 12 (by decide), e 21 (by decide)]; exact ⟨a1, a2, a3, r⟩
theorem MI_rf {σ : St} {w : Int32} (h : MI σ) : MI (s_refused σ w) := MI_o h (by decide)
theorem MI_ite {P : Prop} {d : Decidable P} {a b : St} (ha : P → MI a) (hb : ¬ P → MI b) : MI (if P then a else b) := by
  by_cases p : P
  · rw [if_pos p]; exact ha p
  · rw [if_neg p]; exact hb p
theorem rng_up {x : Int32} {n : Nat} (hn : n < 2 ^ 31) (h : rng x n) (hx : ¬ x = nI n) : rng (x + 1) n := by
  obtain ⟨k, hk, e⟩ := h
  have : k ≠ n := fun z => hx (by rw [e, z])
  exact ⟨k + 1, by omega, by rw [e, nI_1]⟩
theorem MI_pier {σ : St} (h : MI σ) (depth range phase lit : Int32) : MI (s_pier σ depth range phase lit) := by
  unfold s_pier
  refine MI_ite (fun c => ?_) (fun _ => MI_rf h)
  have c2 := (ifz (by decide) (rf0 c)).2
  have c3 : ¬ σ 2 0 = 8 := fun z => by rw [if_pos z] at c2; exact absurd c2 (by decide)
  refine MI_ct ?_ (Or.inl ⟨rfl, rng_up (by decide) (h.1.1) c3⟩)
  exact MI_st (MI_o (MI_o (MI_o (MI_rf h) (by decide)) (by decide)) (by decide)) (by decide) (by omega) (by omega) (by omega) (by omega) (fun _ => isB_nar _)
theorem MI_boat {σ : St} (h : MI σ) (draught length weight trim swell piers home : Int32) : MI (s_boat σ draught length weight trim swell piers home) := by
  unfold s_boat
  refine MI_ite (fun c => ?_) (fun _ => MI_rf h)
  have c1 := rf0 c
  unfold k112t0_boat at c1
  have c2 := (ifz (by decide) (ifz (by decide) c1).2).2
  have c3 : ¬ σ 12 0 = 6 := fun z => by rw [if_pos z] at c2; exact absurd c2 (by decide)
  refine MI_ct ?_ (Or.inr (Or.inl ⟨rfl, rng_up (by decide) (h.1.2.1) c3⟩))
  exact MI_o (MI_o (MI_o (MI_o (MI_o (MI_o (MI_o (MI_rf h) (by decide)) (by decide)) (by decide)) (by decide)) (by decide)) (by decide)) (by decide)
theorem MI_swell {σ : St} (h : MI σ) (p s : Int32) : MI (s_swell σ p s) := by
  unfold s_swell
  exact MI_ite (fun _ => MI_o (MI_rf h) (by decide)) (fun _ => MI_rf h)
theorem MI_breakDown {σ : St} (h : MI σ) (b : Int32) : MI (s_breakDown σ b) := by
  unfold s_breakDown
  exact MI_ite (fun _ => MI_st (MI_rf h) (by decide) (by omega) (by omega) (by omega) (by omega) (fun _ => isB_nar _)) (fun _ => MI_rf h)
theorem MI_relieve {σ : St} (h : MI σ) (b o : Int32) : MI (s_relieve σ b o) := by
  unfold s_relieve
  refine MI_ite (fun c => ?_) (fun _ => MI_rf h)
  have c1 := rf0 c
  unfold k41t0_relieve at c1
  have c2 := (ifz (by decide) c1).1
  have ho : vp_in o 6 := isBoat_in h (fun z => c2 (by rw [z]; split <;> rfl))
  have key : ∀ (n i : Nat) (x : Int32) (τ : St), MI τ → MI (lf_relieve_55 σ b o n i x τ).2 := by
    intro n
    induction n with
    | zero => intro i x τ k; exact k
    | succ n ih =>
      intro i x τ k
      simp only [lf_relieve_55]
      split
      · exact k
      · exact ih _ _ _ (MI_st k (by decide) (fun _ => Q_ite (Q := fun z => vp_in z 6) (MI_bo k (nI i).toNatClampNeg) ho) (by omega) (by omega) (by omega) (by omega))
  exact key 61 0 0 _ (MI_rf h)
theorem MI_sailing {σ : St} (h : MI σ) (b f t a d l : Int32) : MI (s_sailing σ b f t a d l) := by
  unfold s_sailing
  refine MI_ite (fun c => ?_) (fun _ => MI_rf h)
  have c1 := rf0 c
  unfold k100t0_sailing at c1
  have c2 := ifz (by decide) c1
  have c3 := (ifz (by decide) c2.2).2
  have c4 : ¬ σ 21 0 = 60 := fun z => by rw [if_pos z] at c3; exact absurd c3 (by decide)
  have c5 := c2.1
  unfold k29t0_sailing at c5
  obtain ⟨d1, d2⟩ := ifa c5
  obtain ⟨d3, d4⟩ := ifa d2
  obtain ⟨d5, -⟩ := ifa d4
  have hb := isBoat_in h d1
  have hf := isPier_in h d3
  have ht := isPier_in h d5
  refine MI_ct ?_ (Or.inr (Or.inr (Or.inl ⟨rfl, rng_up (by decide) (h.1.2.2.1) c4⟩)))
  exact MI_st (MI_o (MI_o (MI_st (MI_st (MI_st (MI_rf h) (by decide) (fun _ => hb) (by omega) (by omega) (by omega) (by omega)) (by decide) (by omega) (fun _ => hf) (by omega) (by omega) (by omega)) (by decide) (by omega) (fun _ => ht) (by omega) (by omega) (by omega)) (by decide)) (by decide)) (by decide) (by omega) (by omega) (by omega) (by omega) (fun _ => isB_nar _)
theorem k02 {x : Int32} (h : ¬ (q_in x 0 2) = 0) : vp_in x 3 := by
  unfold q_in at h
  obtain ⟨h1, h2⟩ := ifa h
  obtain ⟨h3, -⟩ := ifa h2
  exact in3 h1 (by
    rw [fa_lt, show (2 : Int32).toInt = 2 from rfl] at h3
    rw [fa_lt, show (3 : Int32).toInt = 3 from rfl]; omega)
theorem MI_book {σ : St} (h : MI σ) (s k l w d u o : Int32) : MI (s_book σ s k l w d u o) := by
  unfold s_book
  refine MI_ite (fun c => ?_) (fun _ => MI_rf h)
  have c1 := rf0 c
  unfold k105t0_book at c1
  have c2 := ifz (by decide) c1
  have c3 := (ifz (by decide) c2.2).2
  have c4 : ¬ σ 34 0 = 100 := fun z => by rw [if_pos z] at c3; exact absurd c3 (by decide)
  obtain ⟨d1, d2⟩ := ifa c2.1
  obtain ⟨d3, -⟩ := ifa d2
  have hs := isSailing_in h d1
  have hk := k02 d3
  refine MI_ct ?_ (Or.inr (Or.inr (Or.inr ⟨rfl, rng_up (by decide) (h.1.2.2.2) c4⟩)))
  refine MI_o (MI_st (MI_st (MI_o (MI_o (MI_o (MI_st (MI_st (MI_rf h) (by decide) (by omega) (by omega) (fun _ => hs) (by omega) (by omega)) (by decide) (by omega) (by omega) (by omega) (fun _ => hk) (by omega)) (by decide)) (by decide)) (by decide)) (by decide) (by omega) (by omega) (by omega) (by omega) (fun _ => isB_nar _)) (by decide) (by omega) (by omega) (by omega) (by omega) (fun _ => isB_nar _)) (by decide)
theorem MI_rate {σ : St} (h : MI σ) (k c : Int32) : MI (s_rate σ k c) := by
  unfold s_rate
  exact MI_ite (fun _ => MI_o (MI_rf h) (by decide)) (fun _ => MI_rf h)
theorem MI_pass {σ : St} (h : MI σ) (k : Int32) : MI (s_pass σ k) := by
  have key : ∀ (n i : Nat) (τ : St), MI τ → MI (lf_pass_27 σ k n i τ) := by
    intro n
    induction n with
    | zero => intro i τ a; exact a
    | succ n ih =>
      intro i τ a
      simp only [lf_pass_27]
      split
      · exact a
      · exact ih _ _ (MK_s_passes a).1
  unfold s_pass
  exact MI_ite (fun _ => key _ _ _ (MI_rf h)) (fun _ => MI_rf h)
/-! what a call throws, as the reference tells it -/
def kA (t : Int32) : Int32 := if t = 0 then 0 else if t = 3 then 1 else if t = 1 then 2 else 3
def kB (t : Int32) : Int32 := if t = 0 then 0 else if t = 3 then 1 else 2
theorem in_iff2 (a lo hi : Int32) : q_in a lo hi = if ¬ a < lo ∧ a ≤ hi then 1 else 0 := by
  unfold q_in
  by_cases h1 : a < lo
  · rw [if_pos h1, if_neg (fun z => z.1 h1)]
  · rw [if_neg h1]
    by_cases h2 : hi < a
    · rw [if_pos h2, if_neg (fun z => (fa_of_lt h2).2.1 z.2)]
    · rw [if_neg h2, if_pos ⟨h1, fa_of_nlt h2⟩]
theorem in_no (a : Int32) {n : Nat} (hn : n < 2 ^ 30) : q_in a 0 (nI n - 1) = if ¬ a < 0 ∧ a < nI n then 1 else 0 := by
  rw [in_iff2]
  have e : a ≤ nI n - 1 ↔ a < nI n := by
    have h1 : (nI n - 1).toInt = n - 1 := by
      rw [fb_subI, nI_toInt (by omega)]
      · rfl
      · rw [nI_toInt (by omega), show (1 : Int32).toInt = 1 from rfl]; omega
      · rw [nI_toInt (by omega), show (1 : Int32).toInt = 1 from rfl]; omega
    rw [fa_le, fa_lt, h1, nI_toInt (by omega)]; omega
  by_cases h : ¬ a < 0 ∧ a < nI n
  · rw [if_pos h, if_pos ⟨h.1, e.mpr h.2⟩]
  · rw [if_neg h, if_neg (fun z => h ⟨z.1, e.mp z.2⟩)]
theorem in_02 (a : Int32) : q_in a 0 2 = if ¬ a < 0 ∧ a < 3 then 1 else 0 := in_no a (n := 3) (by decide)
theorem rf_if (σ : St) (w : Int32) : (q_refused σ w = 0) = (w = 0) := by
  unfold q_refused
  by_cases h : w = 0
  · rw [if_pos h]; simp [h]
  · rw [if_neg h]; simp [h]
theorem st_same {c : St} {f j : Nat} {v : Int32} (h : c f j = v) : st c f j v = c := by rw [← h, st_id]
theorem nar_B {x : Int32} (h : isB x) : vp_nar .boolean x = x := by rcases h with rfl | rfl <;> rfl
theorem lt_ne {n M : Nat} (h : n ≤ M) (hM : M < 2 ^ 30) : (nI n < nI M) ↔ ¬ nI n = nI M := by
  rw [nI_ltI (by omega) (by omega), nI_eq (by omega) (by omega)]; omega
