/-! what every step of a minute keeps (PZ): who doesn't wait stays so, a planned sailing's lists are empty, the sailings are as many -/
def KZn (τ : St) (n : Nat) : Prop := τ 54 (2 * n + 4) = nI 0 ∧ τ 54 (2 * n + 5) = nI 0 ∧ τ 50 n = nI 0
def KPz (N : Nat → Nat) (τ : St) : Prop := ∀ n, n < N 6 → τ 22 n = 0 → KZn τ n
def PZ (N : Nat → Nat) (a b : St) : Prop := cn8 N a ≤ cn8 N b ∧ (KPz N a → KPz N b) ∧ b 54 2 = a 54 2
theorem PZ_rf {N : Nat → Nat} {a : St} : PZ N a a := ⟨Nat.le_refl _, id, rfl⟩
theorem PZ_tr {N : Nat → Nat} {a b c : St} (h : PZ N a b) (k : PZ N b c) : PZ N a c := ⟨Nat.le_trans h.1 k.1, fun z => k.2.1 (h.2.1 z), k.2.2.trans h.2.2⟩
theorem PZ_o {N : Nat → Nat} {a b : St} {f j : Nat} {v : Int32} (hf : f ∉ [35, 22, 54, 50]) (h : PZ N a b) : PZ N a (st b f j v) := by
  simp only [List.mem_cons, List.not_mem_nil, or_false, not_or] at hf
  have e : ∀ g, g ≠ f → st b f j v g = b g := fun g hg => st_nf b j v hg
  refine PZ_tr h ⟨Nat.le_of_eq (cn8_eq (e 35 (by omega)).symm), fun k n hn h0 => ?_, by rw [e 54 (by omega)]⟩
  unfold KZn
  rw [e 54 (by omega), e 50 (by omega)]
  rw [e 22 (by omega)] at h0
  exact k n hn h0
theorem PZ_35 {N : Nat → Nat} {a b : St} {j : Nat} {v : Int32} (hv : ¬ v = 0) (h : PZ N a b) : PZ N a (st b 35 j v) := by
  have e : ∀ g, g ≠ 35 → st b 35 j v g = b g := fun g hg => st_nf b j v hg
  refine PZ_tr h ⟨cn8_st hv, fun k n hn h0 => ?_, by rw [e 54 (by omega)]⟩
  unfold KZn
  rw [e 54 (by omega), e 50 (by omega)]
  rw [e 22 (by omega)] at h0
  exact k n hn h0
theorem PZ_22 {N : Nat → Nat} {a b : St} {j : Nat} {v : Int32} (hv : ¬ v = 0) (h : PZ N a b) : PZ N a (st b 22 j v) := by
  have e : ∀ g, g ≠ 22 → st b 22 j v g = b g := fun g hg => st_nf b j v hg
  refine PZ_tr h ⟨Nat.le_of_eq (cn8_eq (e 35 (by omega)).symm), fun k n hn h0 => ?_, by rw [e 54 (by omega)]⟩
  unfold KZn
  rw [e 54 (by omega), e 50 (by omega)]
  rw [st_at] at h0
  by_cases hj : n = j
  · rw [if_pos ⟨rfl, hj⟩] at h0; exact absurd h0 hv
  · rw [if_neg (fun z => hj z.2)] at h0; exact k n hn h0
theorem PZ_if {P : Prop} {hd : Decidable P} {N : Nat → Nat} {a b c : St} (hb : PZ N a b) (hc : PZ N a c) : PZ N a (if P then b else c) := by
  by_cases hp : P
  · rw [if_pos hp]; exact hb
  · rw [if_neg hp]; exact hc
theorem PZ_leave {N : Nat → Nat} {a b : St} {b_ why : Int32} (h : PZ N a b) : PZ N a (s_X5_leaveBehind b b_ why) := by
  unfold s_X5_leaveBehind
  repeat (first | with_reducible exact h | with_reducible refine PZ_o (by decide) ?_ | with_reducible refine PZ_35 (by decide) ?_ | with_reducible refine PZ_if ?_ ?_)
theorem PZ_tell {N : Nat → Nat} {a b : St} {own why : Int32} (h : PZ N a b) : PZ N a (s_X2_tellCancelled b own why) := by
  unfold s_X2_tellCancelled
  repeat (first | with_reducible exact h | with_reducible refine PZ_o (by decide) ?_ | with_reducible refine PZ_if ?_ ?_)
theorem PZ_endGap {N : Nat → Nat} {a b : St} {own m : Int32} (h : PZ N a b) : PZ N a (s_X2_endGap b own m) := by
  unfold s_X2_endGap
  repeat (first | with_reducible exact h | with_reducible refine PZ_o (by decide) ?_)
theorem PZ_land {N : Nat → Nat} {a b : St} {own : Int32} (h : PZ N a b) : PZ N a (s_X3_land b own) := by
  have key : ∀ (n i : Nat) (τ : St), PZ N a τ → PZ N a (lf_X3_land_2 b own n i τ) := by
    intro n
    induction n with
    | zero => intro i τ h; exact h
    | succ n ih =>
      intro i τ h
      show PZ N a (if _ then τ else lf_X3_land_2 b own n (i + 1) _)
      exact PZ_if h (ih _ _ (PZ_35 (by decide) h))
  exact key 101 0 b h
theorem PZ_cancel {N : Nat → Nat} {a b : St} {own why : Int32} (h : PZ N a b) : PZ N a (s_X5_cancel b own why) := by
  have key : ∀ (n i : Nat) (τ : St), PZ N a τ → PZ N a (lf_X5_cancel_20 b own why n i τ) := by
    intro n
    induction n with
    | zero => intro i τ h; exact h
    | succ n ih =>
      intro i τ h
      show PZ N a (if _ then τ else lf_X5_cancel_20 b own why n (i + 1) _)
      exact PZ_if h (ih _ _ (PZ_if h (PZ_leave h)))
  exact key 101 0 _ (PZ_tell (PZ_o (by decide) (PZ_22 (by decide) h)))
theorem PZ_letArrive {N : Nat → Nat} {a b : St} (h : PZ N a b) : PZ N a (s_X5_letArrive b) := by
  have key : ∀ (n i : Nat) (τ : St), PZ N a τ → PZ N a (lf_X5_letArrive_2 b n i τ) := by
    intro n
    induction n with
    | zero => intro i τ h; exact h
    | succ n ih =>
      intro i τ h
      show PZ N a (if _ then τ else lf_X5_letArrive_2 b n (i + 1) _)
      exact PZ_if h (ih _ _ (PZ_if (PZ_if (PZ_land (PZ_endGap (PZ_o (by decide) (PZ_22 (by decide) h)))) h) h))
  exact key 61 0 b h
theorem PZ_decide {N : Nat → Nat} {a b : St} (h : PZ N a b) : PZ N a (s_X5_decideTheDay b) := by
  have key : ∀ (n i : Nat) (τ : St), PZ N a τ → PZ N a (lf_X5_decideTheDay_2 b n i τ) := by
    intro n
    induction n with
    | zero => intro i τ h; exact h
    | succ n ih =>
      intro i τ h
      show PZ N a (if _ then τ else lf_X5_decideTheDay_2 b n (i + 1) _)
      exact PZ_if h (ih _ _ (PZ_if (PZ_if (PZ_if h (PZ_cancel h)) h) h))
  exact key 61 0 b h
theorem q4n {j : Nat} (h : j < 60) : ((2 : Int32) * nI j + 4).toNatClampNeg = 2 * j + 4 := by
  rw [show (2 : Int32) = nI 2 from rfl, show (4 : Int32) = nI 4 from rfl, pk_mul, nI_add, nI_clamp (by omega)]
theorem q5n {j : Nat} (h : j < 60) : ((2 : Int32) * nI j + 5).toNatClampNeg = 2 * j + 5 := by
  rw [show (2 : Int32) = nI 2 from rfl, show (5 : Int32) = nI 5 from rfl, pk_mul, nI_add, nI_clamp (by omega)]
/-- but for the sailing j, the lists are as they were -/
def UN (a b : St) (j : Nat) : Prop := b 22 = a 22 ∧ b 54 2 = a 54 2 ∧ ∀ n, n ≠ j → b 54 (2 * n + 4) = a 54 (2 * n + 4) ∧ b 54 (2 * n + 5) = a 54 (2 * n + 5) ∧ b 50 n = a 50 n
theorem UN_rf {a : St} {j : Nat} : UN a a j := ⟨rfl, rfl, fun _ _ => ⟨rfl, rfl, rfl⟩⟩
theorem UN_tr {a b c : St} {j : Nat} (h : UN a b j) (k : UN b c j) : UN a c j := ⟨k.1.trans h.1, k.2.1.trans h.2.1, fun n hn => ⟨(k.2.2 n hn).1.trans (h.2.2 n hn).1, (k.2.2 n hn).2.1.trans (h.2.2 n hn).2.1, (k.2.2 n hn).2.2.trans (h.2.2 n hn).2.2⟩⟩
theorem UN_same {a b : St} {j : Nat} (h1 : b 22 = a 22) (h2 : b 54 = a 54) (h3 : b 50 = a 50) : UN a b j := ⟨h1, by rw [h2], fun n _ => by rw [h2, h3]; exact ⟨rfl, rfl, rfl⟩⟩
theorem UN_sadd {a : St} {j q I : Nat} {b : Int32} (hq : q = 2 * j + 4 ∨ q = 2 * j + 5) : UN a (sadd a q I b) j := ⟨sadd_o (by decide), sadd_54n (by omega), fun n hn => ⟨sadd_54n (by omega), sadd_54n (by omega), congrFun (sadd_o (by decide)) n⟩⟩
theorem UN_50 {a : St} {j : Nat} {v : Int32} : UN a (st a 50 j v) j := ⟨st_nf a j v (by decide), by rw [st_nf a j v (show (54 : Nat) ≠ 50 by decide)], fun n hn => ⟨by rw [st_nf a j v (show (54 : Nat) ≠ 50 by decide)], by rw [st_nf a j v (show (54 : Nat) ≠ 50 by decide)], st_nj a 50 v hn⟩⟩
theorem UN_take {τ : St} {j : Nat} (hj : j < 60) {b_ : Int32} : UN τ (s_X3_takeAboard τ (nI j) b_) j := by
  have x : ∀ f, f = 22 ∨ f = 54 ∨ f = 50 → st (st (k89s_X3_takeAboard τ (nI j) b_) 35 b_.toNatClampNeg (1 : Int32)) 45 b_.toNatClampNeg (nI ((k47t0_X3_takeAboard τ (nI j) b_).toNatClampNeg % 2)) f = τ f := fun f hf => by
    unfold k89s_X3_takeAboard
    rcases hf with rfl | rfl | rfl <;> repeat (first | with_reducible rfl | with_reducible refine st_g (by decide) ?_ | with_reducible refine ite_g ?_ ?_)
  unfold s_X3_takeAboard s_X3_putFirstOff k51s_X3_putFirstOff
  rw [q4n hj, q5n hj]
  generalize st (st (k89s_X3_takeAboard τ (nI j) b_) 35 b_.toNatClampNeg (1 : Int32)) 45 b_.toNatClampNeg (nI ((k47t0_X3_takeAboard τ (nI j) b_).toNatClampNeg % 2)) = X at x ⊢
  have h1 : UN X (sadd X (2 * j + 4) (τ 54 (2 * j + 4)).toNatClampNeg b_) j := UN_sadd (Or.inl rfl)
  refine UN_tr (UN_same (x 22 (Or.inl rfl)) (x 54 (Or.inr (Or.inl rfl))) (x 50 (Or.inr (Or.inr rfl)))) (UN_tr h1 ?_)
  generalize sadd X (2 * j + 4) (τ 54 (2 * j + 4)).toNatClampNeg b_ = Y
  by_cases h : Y 42 b_.toNatClampNeg = 0
  · rw [if_pos h]; exact UN_sadd (Or.inr rfl)
  · rw [if_neg h, nI_clamp (n := j) (by omega)]
    have h2 : UN Y (sadd Y (2 * j + 5) 0 b_) j := UN_sadd (Or.inr rfl)
    exact UN_tr h2 UN_50
theorem UN_leave {a : St} {j : Nat} {b_ why : Int32} : UN a (s_X5_leaveBehind a b_ why) j := by
  have e : ∀ f, f = 22 ∨ f = 54 ∨ f = 50 → s_X5_leaveBehind a b_ why f = a f := fun f hf => by
    unfold s_X5_leaveBehind
    rcases hf with rfl | rfl | rfl <;> repeat (first | with_reducible rfl | with_reducible refine st_g (by decide) ?_ | with_reducible refine ite_g ?_ ?_)
  exact UN_same (e 22 (Or.inl rfl)) (e 54 (Or.inr (Or.inl rfl))) (e 50 (Or.inr (Or.inr rfl)))
theorem UN_if {P : Prop} {hd : Decidable P} {a b c : St} {j : Nat} (hb : UN a b j) (hc : UN a c j) : UN a (if P then b else c) j := by
  by_cases hp : P
  · rw [if_pos hp]; exact hb
  · rw [if_neg hp]; exact hc
theorem UN_sail {σ : St} {j : Nat} (hj : j < 60) : ∀ (n i : Nat) (a τ : St), UN a τ j → UN a (lf_X5_sail_15 σ (nI j) n i τ) j := by
  intro n
  induction n with
  | zero => intro i a τ h; exact h
  | succ n ih =>
    intro i a τ h
    show UN a (if _ then τ else (if _ then τ else lf_X5_sail_15 σ (nI j) n (i + 1) _)) j
    exact UN_if h (UN_if h (ih _ _ _ (UN_if (UN_tr h (UN_take hj)) (UN_tr h (UN_tr (UN_same (st_nf _ _ _ (by decide)) (st_nf _ _ _ (by decide)) (st_nf _ _ _ (by decide))) UN_leave)))))
theorem cn_sailS {N : Nat → Nat} {σ : St} {sailing : Int32} : cn8 N σ ≤ cn8 N (s_X5_sail σ sailing) := by
  unfold s_X5_sail
  refine Nat.le_trans (Nat.le_of_eq ?_) (cn_sail 101 0 _)
  refine cn8_eq ?_
  rw [st_nf _ _ _ (show (35 : Nat) ≠ 19 by decide), st_nf _ _ _ (show (35 : Nat) ≠ 22 by decide)]
theorem PZ_sail {N : Nat → Nat} {a b : St} {j : Nat} (hj : j < 60) (h : PZ N a b) : PZ N a (s_X5_sail b (nI j)) := by
  have hu : UN (st (st b 22 (nI j).toNatClampNeg (1 : Int32)) 19 (b 23 (nI j).toNatClampNeg).toNatClampNeg ((-1) : Int32)) (s_X5_sail b (nI j)) j := by
    unfold s_X5_sail
    exact UN_sail (σ := b) hj 101 0 _ _ UN_rf
  have hc : cn8 N b ≤ cn8 N (s_X5_sail b (nI j)) := cn_sailS
  obtain ⟨u0, u2, u3⟩ := hu
  rw [st_nf _ _ _ (show (22 : Nat) ≠ 19 by decide)] at u0
  rw [st_nf _ _ _ (show (54 : Nat) ≠ 19 by decide), st_nf _ _ _ (show (54 : Nat) ≠ 22 by decide)] at u2
  generalize s_X5_sail b (nI j) = S at u0 u2 u3 hc ⊢
  refine PZ_tr h ⟨hc, fun k n hn h0 => ?_, u2⟩
  rw [u0, st_at, nI_clamp (n := j) (by omega)] at h0
  by_cases hnj : n = j
  · rw [if_pos ⟨rfl, hnj⟩] at h0; exact absurd h0 (by decide)
  · rw [if_neg (fun z => hnj z.2)] at h0
    obtain ⟨v1, v2, v3⟩ := u3 n hnj
    rw [st_nf _ _ _ (show (54 : Nat) ≠ 19 by decide), st_nf _ _ _ (show (54 : Nat) ≠ 22 by decide)] at v1 v2
    rw [st_nf _ _ _ (show (50 : Nat) ≠ 19 by decide), st_nf _ _ _ (show (50 : Nat) ≠ 22 by decide)] at v3
    obtain ⟨k1, k2, k3⟩ := k n hn h0
    exact ⟨v1.trans k1, v2.trans k2, v3.trans k3⟩
theorem KZ_of {τ : St} {j : Nat} (hj : j < 60) (h : KZn τ j) : KZ τ (nI j) := by
  unfold KZ
  rw [q4n hj, q5n hj, nI_clamp (by omega)]; exact h
theorem KI_s_X5_letArrive {cap N : Nat → Nat} {σ : St} (hI : KI cap N σ) : KI cap N (s_X5_letArrive σ) := by
  have key : ∀ (n i : Nat) (τ : St), i + n ≤ 61 → KI cap N τ → KI cap N (lf_X5_letArrive_2 σ n i τ) := by
    intro n
    induction n with
    | zero => intro i τ _ h; exact h
    | succ n ih =>
      intro i τ hi h
      show KI cap N (if _ then τ else lf_X5_letArrive_2 σ n (i + 1) _)
      refine KI_if (fun _ => h) (fun hc => ?_)
      refine ih _ _ (by omega) ?_
      refine KI_if (fun _ => KI_if (fun _ => ?_) (fun _ => h)) (fun _ => h)
      exact KI_s_X3_land (KI_s_X2_endGap (KI_o (KI_o h (by decide)) (by decide)))
  exact key 61 0 σ (by omega) hI
theorem KI_s_X5_decideTheDay {cap N : Nat → Nat} {σ : St} (hI : KI cap N σ) : KI cap N (s_X5_decideTheDay σ) := by
  have key : ∀ (n i : Nat) (τ : St), i + n ≤ 61 → KI cap N τ → KI cap N (lf_X5_decideTheDay_2 σ n i τ) := by
    intro n
    induction n with
    | zero => intro i τ _ h; exact h
    | succ n ih =>
      intro i τ hi h
      show KI cap N (if _ then τ else lf_X5_decideTheDay_2 σ n (i + 1) _)
      refine KI_if (fun _ => h) (fun hc => ?_)
      have h6 := h.1.2.2.2.1
      have hlt := m_lt h.2.1.2.2.1 hc (by omega) (by omega)
      refine ih _ _ (by omega) ?_
      exact KI_if (fun _ => KI_if (fun _ => KI_if (fun _ => h) (fun _ => KI_s_X5_cancel h (vp_in_nI hlt (by omega)))) (fun _ => h)) (fun _ => h)
  exact key 61 0 σ (by omega) hI
def lf_X5_letDepart_2 (σ : St)  : Nat → Nat → St → St
  | 0, _, τ => τ
  | n + 1, i, τ => if (τ 54 2) ≤ (nI i) then τ else (lf_X5_letDepart_2 σ n (i + 1) (if (τ 22 (nI i).toNatClampNeg) = 0 then (if (τ 26 (nI i).toNatClampNeg) = (τ 1 0) then (if (q_X5_reasonAtDeparture τ (nI i) (τ 1 0)) = 0 then (s_X5_sail τ (nI i)) else (s_X5_cancel τ (nI i) (q_X5_reasonAtDeparture τ (nI i) (τ 1 0)))) else τ) else τ))
def s_X5_letDepart (σ : St) : St := (lf_X5_letDepart_2 σ 61 0 σ)
theorem PZ_dstep {N : Nat → Nat} {a τ : St} {j : Nat} {P P2 P3 : Prop} {d1 : Decidable P} {d2 : Decidable P2} {d3 : Decidable P3} {why : Int32} (hj : j < 60) (h : PZ N a τ) : PZ N a (if P then (if P2 then (if P3 then s_X5_sail τ (nI j) else s_X5_cancel τ (nI j) why) else τ) else τ) := PZ_if (PZ_if (PZ_if (PZ_sail hj h) (PZ_cancel h)) h) h
theorem PZ_lfD {N : Nat → Nat} {σ : St} : ∀ (n i : Nat) (a τ : St), i + n ≤ 61 → (N 6 ≤ 60) → τ 54 2 = nI (N 6) → PZ N a τ → PZ N a (lf_X5_letDepart_2 σ n i τ) := by
  intro n
  induction n with
  | zero => intro i a τ _ _ _ h; exact h
  | succ n ih =>
    intro i a τ hi h6 h2 h
    show PZ N a (if (τ 54 2) ≤ (nI i) then τ else lf_X5_letDepart_2 σ n (i + 1) _)
    by_cases hc : (τ 54 2) ≤ (nI i)
    · rw [if_pos hc]; exact h
    · rw [if_neg hc]
      have hlt := m_lt h2 hc (by omega) (by omega)
      have hs := PZ_dstep (N := N) (a := τ) (τ := τ) (j := i) (P := τ 22 (nI i).toNatClampNeg = 0) (P2 := τ 26 (nI i).toNatClampNeg = τ 1 0) (P3 := q_X5_reasonAtDeparture τ (nI i) (τ 1 0) = 0) (why := q_X5_reasonAtDeparture τ (nI i) (τ 1 0)) (d1 := inferInstance) (d2 := inferInstance) (d3 := inferInstance) (by omega) PZ_rf
      exact ih _ _ _ (by omega) h6 (hs.2.2.trans h2) (PZ_tr h hs)
set_option maxHeartbeats 1000000 in
set_option maxRecDepth 100000 in
theorem w_X5_letDepart {p : Program} {l : Launch} {e : Env} {R : Room} {s : State} {m : MethodId} {args : Array Value} {below : List Frame} {meth : Method} {c : Code} {H : Heap} {locs : List Loc} {Q : State → Prop} {D : va_G} {A : Nat → Prop} {cI cO : ClassId} {aE : Nat} {g : Gh} {N : Nat → Nat} {ls : Array Slot} (σ : St) (hZ : KPz N σ) (E : kE p c cX5_letDepart s m args wsX5_letDepart RX5 D cI cO) (hml : c.maxLocals = 4) (hR : 9 ≤ R.frames ∧ 262 ≤ R.locals) (hfm : 2 * (cn8 N (s_X5_letDepart σ) - cn8 N σ) ≤ R.cells ∧ 300 * (cn8 N (s_X5_letDepart σ) - cn8 N σ) ≤ R.slots) (hY : cY A aE cO s) (hP : cG D cI cO A aE g N σ H) (hS : va_S A s.heap H locs) (hl : lv_has ls 4 [(0, .ref (g 0 0))]) (kr : ∀ (pc : Nat) (H1 : Heap) (locs1 : List Loc) (ls1 : Array Slot), decode cX5_letDepart pc = .ok (.return_, 1) → cG D cI cO A aE g N (s_X5_letDepart σ) H1 → va_S A s.heap H1 locs1 → W p l e R s m args below meth c H1 locs1 (2 * (cn8 N (s_X5_letDepart σ) - cn8 N σ)) (300 * (cn8 N (s_X5_letDepart σ) - cn8 N σ)) Q (F0 m pc ls1 [])) : W p l e R s m args below meth c H locs 0 0 Q (F0 m 0 ls []) := by
  have hx := E.1.1
  have hb := E.1.2
  have hts := E.2.1
  obtain ⟨ga, cap, hG, hI, hP⟩ := hP
  have hf : 0 ≤ R.cells ∧ 0 ≤ R.slots := ⟨Nat.zero_le _, Nat.zero_le _⟩
  obtain ⟨n0, n4, n5, n6, n8, n7, n1, n2, n3⟩ := id hI.1
  have nz : 0 < N 0 := by omega
  have nq0 : 0 < N 1 := by omega
  have nq1 : 1 < N 1 := by omega
  have nq2 : 2 < N 1 := by omega
  have nq3 : 3 < N 1 := by omega
  have i_X3 : ∀ w ∈ wsX30, w ∈ wsX5_letDepart := by decide +kernel
  have i_X5 : ∀ w ∈ wsX50, w ∈ wsX5_letDepart := by decide +kernel
  have hs : s_X5_letDepart σ = (lf_X5_letDepart_2 σ 61 0 σ) := rfl
  refine lv_iconst (v := 0) hx hb dX5_letDepart_0 (by decide) ?_
  refine lv_istore_n (lv' := [(1, .int (0 : Int32)), (0, .ref (g 0 0))]) hx hb dX5_letDepart_1 rfl hl (by decide) rfl (fun ls hl => ?_)
  obtain ⟨C, hC, eC⟩ : ∃ C : Nat, C = N 6 ∧ σ 54 2 = nI C := ⟨N 6, rfl, hI.2.1.2.2.1⟩
  have L_6 : ∀ (n : Nat) (i : Nat) (τ : St) (H : Heap) (locs : List Loc) (ls : Array Slot), i + n = 61 → i ≤ C → lf_X5_letDepart_2 σ n i τ = lf_X5_letDepart_2 σ 61 0 σ → KPz N τ ∧ cn8 N σ ≤ cn8 N τ → cG D cI cO A aE g N τ H → va_S A s.heap H locs → lv_has ls 4 [(1, .int (nI i)), (0, .ref (g 0 0))] → W p l e R s m args below meth c H locs (2 * (cn8 N τ - cn8 N σ)) (300 * (cn8 N τ - cn8 N σ)) Q (F0 m 2 ls []) := by
    intro n
    induction n with
    | zero => intro i τ H locs ls hin hiC; omega
    | succ n ih =>
      intro i τ H locs ls hin hiC hfin hv hP hS hl
      obtain ⟨ga, cap, hG, hIτ, hP⟩ := hP
      have eC6 := hIτ.2.1.2.2.1
      have hmf : cn8 N τ ≤ cn8 N (lf_X5_letDepart_2 σ 61 0 σ) := by rw [← hfin]; exact (PZ_lfD (n + 1) i τ τ (by omega) n6 eC6 PZ_rf).1
      have h9 := hfm
      rw [hs] at h9
      have hf : 2 * (cn8 N τ - cn8 N σ) ≤ R.cells ∧ 300 * (cn8 N τ - cn8 N σ) ≤ R.slots := ⟨by omega, by omega⟩
      have eCτ : τ 54 2 = nI C := by rw [hC]; exact hIτ.2.1.2.2.1
      have hfin : (if (τ 54 2) ≤ (nI i) then τ else (lf_X5_letDepart_2 σ n (i + 1) (if (τ 22 (nI i).toNatClampNeg) = 0 then (if (τ 26 (nI i).toNatClampNeg) = (τ 1 0) then (if (q_X5_reasonAtDeparture τ (nI i) (τ 1 0)) = 0 then (s_X5_sail τ (nI i)) else (s_X5_cancel τ (nI i) (q_X5_reasonAtDeparture τ (nI i) (τ 1 0)))) else τ) else τ))) = lf_X5_letDepart_2 σ 61 0 σ := hfin
      refine lv_iload_n hx hb dX5_letDepart_2 rfl (lv_at hl 0 rfl) ?_
      refine lv_aload_n hx hb dX5_letDepart_3 rfl (lv_at hl 1 rfl) ?_
      refine cg_X5_sailings (g := gw g ga) E i_X5 hP nz (by decide +kernel) dX5_letDepart_4 ?_
      refine kcV_i E hml hP hS (kr_1 E.2.2.2 hP ⟨by decide, nq2, fun z => absurd z (by decide)⟩) (c_AL_size l τ 2 ⟨by decide, nq2, fun z => absurd z (by decide)⟩) (cwV 0 hts gX5_letDepart_Jx4a65c_size_8abf5 rfl rfl rfl (by decide +kernel) ⟨Nat.le_trans (Nat.le_of_ble_eq_true rfl) hR.1, Nat.le_trans (Nat.le_of_ble_eq_true rfl) hR.2⟩) rfl hl.1 rfl (Nat.le_of_ble_eq_true rfl) dX5_letDepart_7 hf (fun H locs hP hS => ?_)
      refine lv_icmp_ge (tgt := 77) hx hb dX5_letDepart_10 (by decide) (fun c_1 => ?_) (fun c_1 => ?_)
      · have hfin := (if_pos c_1).symm.trans hfin
        subst hfin
        have hKR6 := hIτ
        have hl := lv_sub hl [1] rfl
        exact W.widen (k := 2 * (cn8 N (s_X5_letDepart σ) - cn8 N σ)) (n := 300 * (cn8 N (s_X5_letDepart σ) - cn8 N σ)) (Nat.le_of_eq (by rw [hs])) (Nat.le_of_eq (by rw [hs])) (kr _ H locs ls dX5_letDepart_77 (by rw [hs]; exact ⟨ga, cap, hG, hKR6, hP⟩) hS)
      have hfin := (if_neg c_1).symm.trans hfin
      have hlt : i < C := m_lt eCτ c_1 (by omega) (by omega)
      refine lv_aload_n hx hb dX5_letDepart_13 rfl (lv_at hl 1 rfl) ?_
      refine cg_X5_sailings (g := gw g ga) E i_X5 hP nz (by decide +kernel) dX5_letDepart_14 ?_
      refine lv_iload_n hx hb dX5_letDepart_17 rfl (lv_at hl 0 rfl) ?_
      refine kcV_r (v := g 6 (nI i).toNatClampNeg) E hml hP hS (kr_1 E.2.2.2 hP ⟨by decide, nq2, fun z => absurd z (by decide)⟩) (c_AL_get l τ 2 (nI i) ⟨by decide, nq2, fun z => absurd z (by decide)⟩ n2 (hIτ.2.2.2.2.2 _ (by omega)) (by rw [hIτ.2.1.2.2.1, nI_clamp (by omega)]; exact (vp_in_nI (n := i) (by omega) (by omega)))) (cwV 1 hts gX5_letDepart_Jx4a65c_get_915e3 rfl rfl rfl (by decide +kernel) ⟨Nat.le_trans (Nat.le_of_ble_eq_true rfl) hR.1, Nat.le_trans (Nat.le_of_ble_eq_true rfl) hR.2⟩) rfl hl.1 rfl (Nat.le_of_ble_eq_true rfl) dX5_letDepart_18 hf (fun H locs hP hS => ?_)
      refine kcast E (E.2.2.2.1 6 _ rfl).2 (kr_6 (g := gw g ga) (N := N) (cap := cap) E.2.2.2 hP ⟨by decide, vp_lt (vp_in_nI (n := i) (by omega) (by omega)), fun z => absurd z (by decide)⟩) (by decide +kernel) dX5_letDepart_21 ?_
      refine lv_astore_n (lv' := [(2, .ref (g 6 (nI i).toNatClampNeg)), (1, .int (nI i)), (0, .ref (g 0 0))]) hx hb dX5_letDepart_24 rfl hl (by decide) rfl (fun ls hl => ?_)
      refine lv_aload_n hx hb dX5_letDepart_25 rfl (lv_at hl 0 rfl) ?_
      refine cg_X3_state E i_X3 hP (vp_in_nI (n := i) (by omega) (by omega)) (by decide +kernel) dX5_letDepart_26 ?_
      have J_2 : ∀ (ρ2 : St) (H : Heap) (locs : List Loc) (ls : Array Slot), ρ2 = (if (τ 22 (nI i).toNatClampNeg) = 0 then (if (τ 26 (nI i).toNatClampNeg) = (τ 1 0) then (if (q_X5_reasonAtDeparture τ (nI i) (τ 1 0)) = 0 then (s_X5_sail τ (nI i)) else (s_X5_cancel τ (nI i) (q_X5_reasonAtDeparture τ (nI i) (τ 1 0)))) else τ) else τ) → cG D cI cO A aE g N ρ2 H → va_S A s.heap H locs → lv_has ls 4 [(2, .ref (g 6 (nI i).toNatClampNeg)), (1, .int (nI i)), (0, .ref (g 0 0))] → W p l e R s m args below meth c H locs (2 * (cn8 N (ρ2) - cn8 N σ)) (300 * (cn8 N (ρ2) - cn8 N σ)) Q (F0 m 71 ls []) := by
        intro ρ2 H locs ls e_ρ2 hP hS hl
        subst e_ρ2
        obtain ⟨ga, cap, hG, hIJ2, hP⟩ := hP
        refine lv_iinc (v := nI (i + 1)) (lv' := [(1, .int (nI (i + 1))), (2, .ref (g 6 (nI i).toNatClampNeg)), (0, .ref (g 0 0))]) hx hb dX5_letDepart_71 hl (k := 1) rfl (by first | rfl | exact nI_1 _) (by decide) rfl (fun ls hl => ?_)
        refine lv_goto (tgt := 2) hx hb dX5_letDepart_74 (by decide) ?_
        exact W.widen (k := _) (n := _) (Nat.le_refl _) (Nat.le_refl _) (ih (i + 1) (if (τ 22 (nI i).toNatClampNeg) = 0 then (if (τ 26 (nI i).toNatClampNeg) = (τ 1 0) then (if (q_X5_reasonAtDeparture τ (nI i) (τ 1 0)) = 0 then (s_X5_sail τ (nI i)) else (s_X5_cancel τ (nI i) (q_X5_reasonAtDeparture τ (nI i) (τ 1 0)))) else τ) else τ) H locs ls (by omega) (by omega) hfin ⟨(PZ_dstep (by omega) PZ_rf).2.1 hv.1, Nat.le_trans hv.2 (PZ_dstep (by omega) PZ_rf).1⟩ ⟨ga, cap, hG, hIJ2, hP⟩ hS (lv_sub hl [0, 2] rfl))
      refine lv_if_ne (tgt := 71) hx hb dX5_letDepart_29 (by decide) (fun c_2 => ?_) (fun c_2 => ?_)
      · exact W.widen (k := _) (n := _) (by omega) (by omega) (J_2 τ H locs ls (if_neg c_2).symm ⟨ga, cap, hG, hIτ, hP⟩ hS (lv_sub hl [0, 1, 2] rfl))
      refine lv_aload_n hx hb dX5_letDepart_32 rfl (lv_at hl 0 rfl) ?_
      refine cg_X3_departure E i_X3 hP (vp_in_nI (n := i) (by omega) (by omega)) (by decide +kernel) dX5_letDepart_33 ?_
      refine lv_aload_n hx hb dX5_letDepart_36 rfl (lv_at hl 2 rfl) ?_
      refine cg_X5_now (g := gw g ga) E i_X5 hP nz (by decide +kernel) dX5_letDepart_37 ?_
      refine lv_icmp_ne (tgt := 71) hx hb dX5_letDepart_40 (by decide) (fun c_3 => ?_) (fun c_3 => ?_)
      · exact W.widen (k := _) (n := _) (by omega) (by omega) (J_2 τ H locs ls ((if_neg c_3).symm.trans (if_pos c_2).symm) ⟨ga, cap, hG, hIτ, hP⟩ hS (lv_sub hl [0, 1, 2] rfl))
      refine lv_aload_n hx hb dX5_letDepart_43 rfl (lv_at hl 2 rfl) ?_
      refine lv_aload_n hx hb dX5_letDepart_44 rfl (lv_at hl 0 rfl) ?_
      refine lv_aload_n hx hb dX5_letDepart_45 rfl (lv_at hl 2 rfl) ?_
      refine cg_X5_now (g := gw g ga) E i_X5 hP nz (by decide +kernel) dX5_letDepart_46 ?_
      refine kcV_i E hml hP hS (kr_0 E.2.2.2 hP ⟨by decide, nz, fun z => absurd z (by decide)⟩) (c_X5_reasonAtDeparture l τ (nI i) (τ 1 0) hIτ (vp_in_nI (n := i) (by omega) (by omega))) (cwV 2 hts gX5_letDepart_X5_reasonAtDeparture rfl rfl rfl (by decide +kernel) ⟨Nat.le_trans (Nat.le_of_ble_eq_true rfl) hR.1, Nat.le_trans (Nat.le_of_ble_eq_true rfl) hR.2⟩) rfl hl.1 rfl (Nat.le_of_ble_eq_true rfl) dX5_letDepart_49 hf (fun H locs hP hS => ?_)
      refine lv_istore_n (lv' := [(3, .int (q_X5_reasonAtDeparture τ (nI i) (τ 1 0))), (2, .ref (g 6 (nI i).toNatClampNeg)), (1, .int (nI i)), (0, .ref (g 0 0))]) hx hb dX5_letDepart_52 rfl hl (by decide) rfl (fun ls hl => ?_)
      refine lv_iload_n hx hb dX5_letDepart_53 rfl (lv_at hl 0 rfl) ?_
      refine lv_if_ne (tgt := 65) hx hb dX5_letDepart_54 (by decide) (fun c_4 => ?_) (fun c_4 => ?_)
      · have hcn : cn8 N τ ≤ cn8 N (s_X5_cancel τ (nI i) (q_X5_reasonAtDeparture τ (nI i) (τ 1 0))) := (PZ_cancel PZ_rf).1
        refine lv_aload_n hx hb dX5_letDepart_65 rfl (lv_at hl 3 rfl) ?_
        refine lv_aload_n hx hb dX5_letDepart_66 rfl (lv_at hl 1 rfl) ?_
        refine lv_iload_n hx hb dX5_letDepart_67 rfl (lv_at hl 0 rfl) ?_
        refine kcV_v E hml hP hS (kr_0 E.2.2.2 hP ⟨by decide, nz, fun z => absurd z (by decide)⟩) (c_X5_cancel l τ (nI i) (q_X5_reasonAtDeparture τ (nI i) (τ 1 0)) hIτ (vp_in_nI (n := i) (by omega) (by omega))) (cwV 2 hts gX5_letDepart_X5_cancel rfl rfl rfl (by decide +kernel) ⟨Nat.le_trans (Nat.le_of_ble_eq_true rfl) hR.1, Nat.le_trans (Nat.le_of_ble_eq_true rfl) hR.2⟩) rfl hl.1 rfl (Nat.le_of_ble_eq_true rfl) dX5_letDepart_68 hf (fun H locs hP hS => ?_)
        exact W.widen (k := _) (n := _) (by omega) (by omega) (J_2 (s_X5_cancel τ (nI i) (q_X5_reasonAtDeparture τ (nI i) (τ 1 0))) H locs ls ((if_neg c_4).symm.trans ((if_pos c_3).symm.trans (if_pos c_2).symm)) ⟨ga, cap, hG, (KI_s_X5_cancel hIτ (vp_in_nI (n := i) (by omega) (by omega))), hP⟩ hS (lv_sub hl [1, 2, 3] rfl))
      have hcn : cn8 N τ ≤ cn8 N (s_X5_sail τ (nI i)) := cn_sailS
      have hA : cn8 N (s_X5_sail τ (nI i)) ≤ cn8 N (lf_X5_letDepart_2 σ 61 0 σ) := by rw [← hfin]; refine Nat.le_trans (Nat.le_of_eq ?_) (PZ_lfD n (i + 1) _ _ (by omega) n6 ((PZ_dstep (N := N) (a := τ) (j := i) (by omega) PZ_rf).2.2.trans eC6) PZ_rf).1; rw [if_pos (by assumption), if_pos (by assumption), if_pos (by assumption)]
      refine lv_aload_n hx hb dX5_letDepart_57 rfl (lv_at hl 3 rfl) ?_
      refine lv_aload_n hx hb dX5_letDepart_58 rfl (lv_at hl 1 rfl) ?_
      refine kqV_v (As := [.ref (g 6 (nI i).toNatClampNeg)]) (rest := []) E hml hS (kr_0 E.2.2.2 hP ⟨by decide, nz, fun z => absurd z (by decide)⟩) gyBl (fun U hU hW => ⟨⟨by rw [hU]; exact ⟨ga, cap, hG, hIτ, hP⟩, va_K.moved hW.alike E.2.2.2⟩, cY_at hY hS hU hW⟩) (c_X5_sail l (g := g) τ (nI i) (KZ_of (by omega) (hv.1 i (by omega) (by have h8 := (by assumption : τ 22 (nI i).toNatClampNeg = 0); rw [nI_clamp (by omega)] at h8; exact h8))) (vp_in_nI (n := i) (by omega) (by omega))) (cwV 1 hts gX5_letDepart_X5_sail rfl rfl rfl (by decide +kernel) ⟨Nat.le_trans (Nat.le_of_ble_eq_true rfl) hR.1, Nat.le_trans (Nat.le_of_ble_eq_true rfl) hR.2⟩) rfl hl.1 rfl (Nat.le_of_ble_eq_true rfl) dX5_letDepart_59 ⟨by omega, by omega⟩ (fun u t H locs ht hvm hw hB hz hk hS => ?_)
      obtain ⟨ga, cap, hG, hIc5, hP⟩ := (show cG D cI cO A aE g N (s_X5_sail τ (nI i)) H by rw [← ht]; exact hB.1)
      refine lv_goto (tgt := 71) hx hb dX5_letDepart_62 (by decide) ?_
      exact W.widen (k := _) (n := _) (by omega) (by omega) (J_2 (s_X5_sail τ (nI i)) H locs ls ((if_pos c_4).symm.trans ((if_pos c_3).symm.trans (if_pos c_2).symm)) ⟨ga, cap, hG, hIc5, hP⟩ hS (lv_sub hl [1, 2, 3] rfl))
  exact W.widen (k := _) (n := _) (Nat.zero_le _) (Nat.zero_le _) (L_6 61 0 σ H locs ls (by omega) (Nat.zero_le _) rfl ⟨hZ, Nat.le_refl _⟩ ⟨ga, cap, hG, hI, hP⟩ hS (lv_sub hl [0, 1] rfl))
set_option maxHeartbeats 4000000 in
set_option maxRecDepth 100000 in
theorem c_X5_letDepart (l : Launch) {D : va_G} {A : Nat → Prop} {cI cO : ClassId} {aE : Nat} {g : Gh} {N : Nat → Nat} (σ : St) (hZ : KPz N σ) : Met l yX5_letDepart wsX5_letDepart ({ frames := 9, cells := 2 * (cn8 N (s_X5_letDepart σ) - cn8 N σ), slots := 300 * (cn8 N (s_X5_letDepart σ) - cn8 N σ), locals := 262 }) (va_Pc [.ref (g 0 0)] (cGY D cI cO A aE g N σ)) (va_Qv (fun (_ : Unit) => True) (fun _ t => cGU D cI cO A aE g N (s_X5_letDepart σ) t) A) (2 * (cn8 N (s_X5_letDepart σ) - cn8 N σ)) (300 * (cn8 N (s_X5_letDepart σ) - cn8 N σ)) A := by
  refine Met.ofW (cc := cX5_letDepart) (maxL := 4) (ret := none) (by decide) rfl ?_
  intro p e s m args below meth c s₁ B hml hv
  obtain ⟨rfl, ⟨hP, hK⟩, hY⟩ := hv
  have E : kE p c cX5_letDepart s m ([.ref (g 0 0)] : List Value).toArray wsX5_letDepart RX5 D cI cO := ⟨⟨B.exec, B.bytes⟩, atoms_spec (ws := wsX5_letDepart) B.pre, findClass_of_methodNamed B.named, hK⟩
  have hr := B.returns
  have hlocks := B.notSynchronized
  have hl := lv_entry ([.ref (g 0 0)]) (n := 4) (Nat.le_of_ble_eq_true rfl)
  rw [lg_entry_eq]
  generalize (lg_sl ([.ref (g 0 0)]) ++ List.replicate (4 - (lg_sl ([.ref (g 0 0)])).length) Slot.unset).toArray = ls at hl ⊢
  refine w_X5_letDepart σ hZ E hml ⟨Nat.le_of_ble_eq_true rfl, Nat.le_of_ble_eq_true rfl⟩ ⟨Nat.le_refl _, Nat.le_refl _⟩ hY hP va_S.rf hl (fun pc H1 locs1 ls1 hd hP1 hS1 => ?_)
  exact W.vret B.exec B.bytes hr (fun t ht hW => ⟨⟨(), rfl, trivial, by rw [ht]; exact hP1, va_K.moved hW.alike hK⟩, hS1.F ht⟩) hS1.2.2 hd
