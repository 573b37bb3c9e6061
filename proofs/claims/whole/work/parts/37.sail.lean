/-! a sailing sails: who is looked at, in what line; the room it takes is told by how many waited and don't any more -/
def cn8 (N : Nat → Nat) (τ : St) : Nat := (List.range (N 8)).countP (fun b => !decide (τ 35 b = 0))
theorem cn8_eq {N : Nat → Nat} {a b : St} (h : a 35 = b 35) : cn8 N a = cn8 N b := by unfold cn8; rw [h]
theorem countP_le {p q : Nat → Bool} (h : ∀ x, p x = true → q x = true) : ∀ l : List Nat, l.countP p ≤ l.countP q := fun l => List.countP_mono_left fun x _ hx => h x hx
theorem cn8_st {N : Nat → Nat} {τ : St} {j : Nat} {v : Int32} (hv : ¬ v = 0) : cn8 N τ ≤ cn8 N (st τ 35 j v) := countP_le (fun x hx => by
  rw [st_at]
  by_cases h : x = j
  · rw [if_pos ⟨rfl, h⟩]; simp [hv]
  · rw [if_neg (fun z => h z.2)]; exact hx) _
theorem countP_lt {p q : Nat → Bool} (h : ∀ x, p x = true → q x = true) {b : Nat} (hp : p b = false) (hq : q b = true) : ∀ l : List Nat, b ∈ l → l.countP p + 1 ≤ l.countP q := by
  intro l
  induction l with
  | nil => intro hb; cases hb
  | cons x l ih =>
    intro hb
    rw [List.countP_cons, List.countP_cons]
    have h0 := countP_le h l
    rcases List.mem_cons.mp hb with e | e
    · subst e
      rw [hp, hq]; simp; omega
    · have h1 := ih e
      by_cases hx : p x = true
      · rw [if_pos hx, if_pos (h x hx)]; omega
      · rw [if_neg hx]; split <;> omega
theorem cn8_lt {N : Nat → Nat} {τ : St} {b : Int32} {v : Int32} (hb : vp_in b (N 8)) (h0 : τ 35 b.toNatClampNeg = 0) (hv : ¬ v = 0) : cn8 N τ + 1 ≤ cn8 N (st τ 35 b.toNatClampNeg v) := by
  refine countP_lt (fun x hx => ?_) (b := b.toNatClampNeg) (by rw [h0]; rfl) (by rw [st_self]; simp [hv]) _ (List.mem_range.mpr (vp_lt hb))
  rw [st_at]
  by_cases h : x = b.toNatClampNeg
  · rw [if_pos ⟨rfl, h⟩]; simp [hv]
  · rw [if_neg (fun z => h z.2)]; exact hx
theorem fil_nx {cap N : Nat → Nat} {σ : St} (hI : KI cap N σ) {sailing : Int32} : ∀ (n i : Nat) (x : Int32), i + n ≤ 101 → (x = -1 ∨ vp_in x (N 8) ∧ σ 35 x.toNatClampNeg = 0) → (lf_X5_firstInLine_4 σ sailing n i x = -1 ∨ vp_in (lf_X5_firstInLine_4 σ sailing n i x) (N 8) ∧ σ 35 (lf_X5_firstInLine_4 σ sailing n i x).toNatClampNeg = 0) := by
  obtain ⟨n0, n4, n5, n6, n8, n7, n1, n2, n3⟩ := id hI.1
  have eC := hI.2.1.2.2.2
  intro n
  induction n with
  | zero => intro i x _ h; exact h
  | succ n ih =>
    intro i x hi h
    have e : lf_X5_firstInLine_4 σ sailing (n + 1) i x = if (σ 54 3) ≤ (nI i) then x else (lf_X5_firstInLine_4 σ sailing n (i + 1) (if (q_X1_waitsFor σ (nI i) sailing) = 0 then x else (if x = ((-1) : Int32) then (nI i) else (if (q_X1_isAheadOf σ (nI i) x) = 0 then x else (nI i))))) := rfl
    rw [e]
    by_cases hc : (σ 54 3) ≤ (nI i)
    · rw [if_pos hc]; exact h
    · rw [if_neg hc]
      have hlt := m_lt eC hc (by omega) (by omega)
      refine ih _ _ (by omega) ?_
      by_cases hw : q_X1_waitsFor σ (nI i) sailing = 0
      · rw [if_pos hw]; exact h
      · have hi9 : vp_in (nI i) (N 8) ∧ σ 35 (nI i).toNatClampNeg = 0 := ⟨vp_in_nI hlt (by omega), by
          unfold q_X1_waitsFor at hw
          by_cases h5 : σ 35 (nI i).toNatClampNeg = 0
          · exact h5
          · rw [if_neg h5] at hw; exact absurd rfl hw⟩
        rw [if_neg hw]
        by_cases h6 : x = ((-1) : Int32)
        · rw [if_pos h6]; exact Or.inr hi9
        · rw [if_neg h6]
          by_cases h7 : q_X1_isAheadOf σ (nI i) x = 0
          · rw [if_pos h7]; exact h
          · rw [if_neg h7]; exact Or.inr hi9
theorem fil_in {cap N : Nat → Nat} {σ : St} (hI : KI cap N σ) {sailing : Int32} (hn : ¬ q_X5_firstInLine σ sailing = -1) : vp_in (q_X5_firstInLine σ sailing) (N 8) ∧ σ 35 (q_X5_firstInLine σ sailing).toNatClampNeg = 0 := Or.resolve_left (fil_nx hI 101 0 (-1) (by omega) (Or.inl rfl)) hn
/-- a sailing's lists while it loads, at most i taken aboard -/
def KT (i : Nat) (σ : St) (own : Int32) : Prop := ∃ C L : Nat, σ 54 (((2 : Int32) * own + 4).toNatClampNeg) = nI C ∧ σ 54 (((2 : Int32) * own + 5).toNatClampNeg) = nI C ∧ σ 50 own.toNatClampNeg = nI L ∧ L ≤ C ∧ C ≤ i
def KZ (σ : St) (own : Int32) : Prop := σ 54 (((2 : Int32) * own + 4).toNatClampNeg) = nI 0 ∧ σ 54 (((2 : Int32) * own + 5).toNatClampNeg) = nI 0 ∧ σ 50 own.toNatClampNeg = nI 0
theorem KT_KO {i : Nat} {σ : St} {own : Int32} (h : KT i σ own) (hi : i ≤ 99) : KO σ own := h.elim fun C h => h.elim fun L h => ⟨C, L, h.1, h.2.1, h.2.2.1, h.2.2.2.1, Nat.le_trans h.2.2.2.2 hi⟩
theorem KT_0 {σ : St} {own : Int32} (h : KZ σ own) : KT 0 σ own := ⟨0, 0, h.1, h.2.1, h.2.2, Nat.le_refl _, Nat.le_refl _⟩
theorem KT_up {i : Nat} {σ : St} {own : Int32} (h : KT i σ own) : KT (i + 1) σ own := h.elim fun C h => h.elim fun L h => ⟨C, L, h.1, h.2.1, h.2.2.1, h.2.2.2.1, Nat.le_trans h.2.2.2.2 (Nat.le_succ _)⟩
theorem KT_same {i : Nat} {a b : St} {own : Int32} (h : KT i a own) (e1 : b 54 = a 54) (e2 : b 50 = a 50) : KT i b own := by
  unfold KT; rw [e1, e2]; exact h
theorem take_f {τ : St} {own b_ : Int32} {f : Nat} (h : f ≠ 32 ∧ f ≠ 33 ∧ f ≠ 51 ∧ f ≠ 35 ∧ f ≠ 45 ∧ f ≠ 52 ∧ f ≠ 54 ∧ f ≠ 50 ∧ f < 100) : s_X3_takeAboard τ own b_ f = τ f := by
  unfold s_X3_takeAboard s_X3_putFirstOff k51s_X3_putFirstOff k89s_X3_takeAboard
  obtain ⟨h1, h2, h3, h4, h5, h6, h7, h8, h9⟩ := h
  repeat (first | with_reducible rfl | with_reducible refine st_g (by assumption) ?_ | with_reducible refine sadd_g ⟨by assumption, by assumption, by assumption⟩ ?_ | with_reducible refine ite_g ?_ ?_)
theorem k89_35 {τ : St} {own b_ : Int32} : k89s_X3_takeAboard τ own b_ 35 = τ 35 := by
  unfold k89s_X3_takeAboard
  repeat (first | with_reducible rfl | with_reducible refine st_g (by decide) ?_ | with_reducible refine ite_g ?_ ?_)
theorem take_35 {τ : St} {own b_ : Int32} : s_X3_takeAboard τ own b_ 35 = st τ 35 b_.toNatClampNeg 1 35 := by
  have e : ∀ k v, st (st (k89s_X3_takeAboard τ own b_) 35 b_.toNatClampNeg (1 : Int32)) 45 k v 35 = st τ 35 b_.toNatClampNeg 1 35 := fun k v => by
    rw [st_nf _ _ _ (show (35 : Nat) ≠ 45 by decide)]
    funext x
    rw [st_at, st_at, k89_35]
  unfold s_X3_takeAboard s_X3_putFirstOff k51s_X3_putFirstOff
  exact ite_g (sadd_g (by decide) (sadd_g (by decide) (e _ _))) (st_g (by decide) (sadd_g (by decide) (sadd_g (by decide) (e _ _))))
theorem cn_31 {N : Nat → Nat} {τ : St} {j : Nat} {v : Int32} : cn8 N τ ≤ cn8 N (st τ 31 j v) := Nat.le_of_eq (cn8_eq (a := τ) (b := st τ 31 j v) (st_nf τ j v (show (35 : Nat) ≠ 31 by decide)).symm)
theorem cn_take {N : Nat → Nat} {τ : St} {own b_ : Int32} (hb : vp_in b_ (N 8)) (h0 : τ 35 b_.toNatClampNeg = 0) : cn8 N τ + 1 ≤ cn8 N (s_X3_takeAboard τ own b_) := by
  rw [cn8_eq take_35]; exact cn8_lt hb h0 (by decide)
theorem cn_take0 {N : Nat → Nat} {τ : St} {own b_ : Int32} : cn8 N τ ≤ cn8 N (s_X3_takeAboard τ own b_) := by
  rw [cn8_eq take_35]; exact cn8_st (by decide)
theorem cn_leave {N : Nat → Nat} {τ : St} {b_ why : Int32} : cn8 N τ ≤ cn8 N (s_X5_leaveBehind τ b_ why) := by
  unfold s_X5_leaveBehind
  split
  · refine Nat.le_trans (Nat.le_of_eq ?_) (cn8_st (by decide))
    exact cn8_eq rfl
  · exact Nat.le_of_eq (cn8_eq rfl)
def lf_X5_sail_15 (σ : St) (sailing : Int32) : Nat → Nat → St → St
  | 0, _, τ => τ
  | n + 1, i, τ => if (τ 54 3) ≤ (nI i) then τ else (if (q_X5_firstInLine τ sailing) = ((-1) : Int32) then τ else (lf_X5_sail_15 σ sailing n (i + 1) (if (q_X3_refusal τ sailing (q_X5_firstInLine τ sailing)) = 0 then (s_X3_takeAboard τ sailing (q_X5_firstInLine τ sailing)) else (s_X5_leaveBehind (st τ 31 sailing.toNatClampNeg ((τ 31 sailing.toNatClampNeg) + (1 : Int32))) (q_X5_firstInLine τ sailing) (q_X3_refusal τ sailing (q_X5_firstInLine τ sailing))))))
def s_X5_sail (σ : St) (sailing : Int32) : St := (lf_X5_sail_15 σ sailing 101 0 (st (st σ 22 sailing.toNatClampNeg (1 : Int32)) 19 (σ 23 sailing.toNatClampNeg).toNatClampNeg ((-1) : Int32)))
theorem cn_step {N : Nat → Nat} {τ : St} {P : Prop} {hd : Decidable P} {own b_ c_ why v : Int32} {j : Nat} : cn8 N τ ≤ cn8 N (if P then s_X3_takeAboard τ own b_ else s_X5_leaveBehind (st τ 31 j v) c_ why) := by
  by_cases h : P
  · rw [if_pos h]; exact cn_take0
  · rw [if_neg h]; exact Nat.le_trans cn_31 cn_leave
theorem cn_sail {N : Nat → Nat} {σ : St} {sailing : Int32} : ∀ (n i : Nat) (τ : St), cn8 N τ ≤ cn8 N (lf_X5_sail_15 σ sailing n i τ) := by
  intro n
  induction n with
  | zero => intro i τ; exact Nat.le_refl _
  | succ n ih =>
    intro i τ
    show cn8 N τ ≤ cn8 N (if (τ 54 3) ≤ (nI i) then τ else (if (q_X5_firstInLine τ sailing) = ((-1) : Int32) then τ else _))
    split
    · exact Nat.le_refl _
    · split
      · exact Nat.le_refl _
      · exact Nat.le_trans cn_step (ih _ _)
theorem off_sz {N : Nat → Nat} (hN : KN N) {Y : St} {own b_ : Int32} (h_own : vp_in own (N 6)) {C L : Nat} (h5 : Y 54 (((2 : Int32) * own + 5).toNatClampNeg) = nI C) (hL : Y 50 own.toNatClampNeg = nI L) : s_X3_putFirstOff Y own b_ 54 (((2 : Int32) * own + 4).toNatClampNeg) = Y 54 (((2 : Int32) * own + 4).toNatClampNeg) ∧ s_X3_putFirstOff Y own b_ 54 (((2 : Int32) * own + 5).toNatClampNeg) = nI (C + 1) ∧ ∃ L' : Nat, s_X3_putFirstOff Y own b_ 50 own.toNatClampNeg = nI L' ∧ L' ≤ L + 1 := by
  have hne := q45 hN h_own
  unfold s_X3_putFirstOff k51s_X3_putFirstOff
  by_cases h : Y 42 b_.toNatClampNeg = 0
  · rw [if_pos h]
    exact ⟨sadd_54n hne, by rw [sadd_54, h5, nI_1], L, (congrFun (sadd_o (by decide)) _).trans hL, Nat.le_succ _⟩
  · rw [if_neg h]
    refine ⟨?_, ?_, L + 1, ?_, Nat.le_refl _⟩
    · rw [st_nf _ _ _ (show (54 : Nat) ≠ 50 by decide)]; exact sadd_54n hne
    · rw [st_nf _ _ _ (show (54 : Nat) ≠ 50 by decide), sadd_54, h5, nI_1]
    · rw [st_self, congrFun (sadd_o (τ := Y) (q := ((2 : Int32) * own + 5).toNatClampNeg) (I := 0) (b := b_) (f := 50) (by decide)) own.toNatClampNeg, hL, nI_1]
theorem KT_take {N : Nat → Nat} (hN : KN N) {i : Nat} {τ : St} {own b_ : Int32} (h_own : vp_in own (N 6)) (h : KT i τ own) : KT (i + 1) (s_X3_takeAboard τ own b_) own := by
  obtain ⟨C, L, h4, h5, hL, hLC, hC⟩ := h
  unfold s_X3_takeAboard
  generalize hX : st (st (k89s_X3_takeAboard τ own b_) 35 b_.toNatClampNeg (1 : Int32)) 45 b_.toNatClampNeg (nI ((k47t0_X3_takeAboard τ own b_).toNatClampNeg % 2)) = X
  have x54 : X 54 = τ 54 := by
    rw [← hX]; unfold k89s_X3_takeAboard
    repeat (first | with_reducible rfl | with_reducible refine st_g (by decide) ?_ | with_reducible refine ite_g ?_ ?_)
  have x50 : X 50 = τ 50 := by
    rw [← hX]; unfold k89s_X3_takeAboard
    repeat (first | with_reducible rfl | with_reducible refine st_g (by decide) ?_ | with_reducible refine ite_g ?_ ?_)
  clear hX
  have hne := q45 hN h_own
  obtain ⟨e4, e5, L', eL, hL'⟩ := off_sz hN (b_ := b_) h_own (Y := sadd X (((2 : Int32) * own + 4).toNatClampNeg) (τ 54 (((2 : Int32) * own + 4).toNatClampNeg)).toNatClampNeg b_) (C := C) (L := L) (by rw [sadd_54n hne.symm, x54]; exact h5) (by rw [congrFun (sadd_o (by decide)) own.toNatClampNeg, x50]; exact hL)
  exact ⟨C + 1, L', by rw [e4, sadd_54, x54, h4, nI_1], e5, eL, by omega, by omega⟩
theorem KT_step {N : Nat → Nat} (hN : KN N) {i : Nat} {τ : St} {P : Prop} {hd : Decidable P} {own b_ c_ why v : Int32} {j : Nat} (h_own : vp_in own (N 6)) (h : KT i τ own) : KT (i + 1) (if P then s_X3_takeAboard τ own b_ else s_X5_leaveBehind (st τ 31 j v) c_ why) own := by
  by_cases hp : P
  · rw [if_pos hp]; exact KT_take hN h_own h
  · rw [if_neg hp]
    have e : ∀ f, f = 54 ∨ f = 50 → s_X5_leaveBehind (st τ 31 j v) c_ why f = τ f := fun f hf => by
      unfold s_X5_leaveBehind
      rcases hf with rfl | rfl
      · repeat (first | with_reducible rfl | with_reducible refine st_g (by decide) ?_ | with_reducible refine ite_g ?_ ?_)
      · repeat (first | with_reducible rfl | with_reducible refine st_g (by decide) ?_ | with_reducible refine ite_g ?_ ?_)
    exact KT_up (KT_same h (e 54 (Or.inl rfl)) (e 50 (Or.inr rfl)))
set_option maxHeartbeats 1000000 in
set_option maxRecDepth 100000 in
theorem w_X5_sail {p : Program} {l : Launch} {e : Env} {R : Room} {s : State} {m : MethodId} {args : Array Value} {below : List Frame} {meth : Method} {c : Code} {H : Heap} {locs : List Loc} {Q : State → Prop} {D : va_G} {A : Nat → Prop} {cI cO : ClassId} {aE : Nat} {g : Gh} {N : Nat → Nat} {ls : Array Slot} (σ : St) (sailing : Int32) (hZ : KZ σ sailing) (h_sailing : vp_in sailing (N 6)) (E : kE p c cX5_sail s m args wsX5_sail RX5 D cI cO) (hml : c.maxLocals = 5) (hR : 8 ≤ R.frames ∧ 238 ≤ R.locals) (hfm : 2 * (cn8 N (s_X5_sail σ sailing) - cn8 N σ) ≤ R.cells ∧ 300 * (cn8 N (s_X5_sail σ sailing) - cn8 N σ) ≤ R.slots) (hY : cY A aE cO s) (hP : cG D cI cO A aE g N σ H) (hS : va_S A s.heap H locs) (hl : lv_has ls 5 [(0, .ref (g 0 0)), (1, .ref (g 6 sailing.toNatClampNeg))]) (kr : ∀ (pc : Nat) (H1 : Heap) (locs1 : List Loc) (ls1 : Array Slot), decode cX5_sail pc = .ok (.return_, 1) → cG D cI cO A aE g N (s_X5_sail σ sailing) H1 → va_S A s.heap H1 locs1 → W p l e R s m args below meth c H1 locs1 (2 * (cn8 N (s_X5_sail σ sailing) - cn8 N σ)) (300 * (cn8 N (s_X5_sail σ sailing) - cn8 N σ)) Q (F0 m pc ls1 [])) : W p l e R s m args below meth c H locs 0 0 Q (F0 m 0 ls []) := by
  have hx := E.1.1
  have hb := E.1.2
  have hts := E.2.1
  obtain ⟨ga, cap, hG, hI, hP⟩ := hP
  have hf : 0 ≤ R.cells ∧ 0 ≤ R.slots := ⟨Nat.zero_le _, Nat.zero_le _⟩
  obtain ⟨n0, n4, n5, n6, n8, n7, n1, n2, n3⟩ := id hI.1
  have nz : 0 < N 0 := by omega
  have nq0 : 0 < N 1 := by omega
  have nq1 : 1 < N 1 := by omega
  have nq2 : 2 < N 1 := by omega
  have nq3 : 3 < N 1 := by omega
  have i_X0 : ∀ w ∈ wsX00, w ∈ wsX5_sail := by decide +kernel
  have i_X3 : ∀ w ∈ wsX30, w ∈ wsX5_sail := by decide +kernel
  have i_X5 : ∀ w ∈ wsX50, w ∈ wsX5_sail := by decide +kernel
  have hs : s_X5_sail σ sailing = (lf_X5_sail_15 σ sailing 101 0 (st (st σ 22 sailing.toNatClampNeg (1 : Int32)) 19 (σ 23 sailing.toNatClampNeg).toNatClampNeg ((-1) : Int32))) := rfl
  refine lv_aload_n hx hb dX5_sail_0 rfl (lv_at hl 1 rfl) ?_
  refine lv_iconst (v := 1) hx hb dX5_sail_1 (by decide) ?_
  refine cp_X3_state E i_X3 hP hS h_sailing (by decide +kernel) dX5_sail_2 (fun H locs hP hS => ?_)
  refine lv_aload_n hx hb dX5_sail_5 rfl (lv_at hl 1 rfl) ?_
  refine cg_X3_boat E i_X3 hP h_sailing (by decide +kernel) dX5_sail_6 ?_
  show W p l e R s m args below meth c H locs (0) (0) Q (F0 m 9 ls [.ref (g 5 (σ 23 sailing.toNatClampNeg).toNatClampNeg)])
  refine lv_iconst (v := -1) hx hb dX5_sail_9 (by decide) ?_
  refine cp_X0_pier E i_X0 hP hS ((hI.2.2.1 _ (vp_lt h_sailing)).1) (by decide +kernel) dX5_sail_10 (fun H locs hP hS => ?_)
  refine lv_iconst (v := 0) hx hb dX5_sail_13 (by decide) ?_
  refine lv_istore_n (lv' := [(2, .int (0 : Int32)), (0, .ref (g 0 0)), (1, .ref (g 6 sailing.toNatClampNeg))]) hx hb dX5_sail_14 rfl hl (by decide) rfl (fun ls hl => ?_)
  obtain ⟨C, hC, eC⟩ : ∃ C : Nat, C = N 8 ∧ σ 54 3 = nI C := ⟨N 8, rfl, hI.2.1.2.2.2⟩
  have L_5 : ∀ (n : Nat) (i : Nat) (τ : St) (H : Heap) (locs : List Loc) (ls : Array Slot), i + n = 101 → i ≤ C → lf_X5_sail_15 σ sailing n i τ = lf_X5_sail_15 σ sailing 101 0 (st (st σ 22 sailing.toNatClampNeg (1 : Int32)) 19 (σ 23 sailing.toNatClampNeg).toNatClampNeg ((-1) : Int32)) → KT i τ sailing ∧ cn8 N σ ≤ cn8 N τ → cG D cI cO A aE g N τ H → va_S A s.heap H locs → lv_has ls 5 [(2, .int (nI i)), (0, .ref (g 0 0)), (1, .ref (g 6 sailing.toNatClampNeg))] → W p l e R s m args below meth c H locs (2 * (cn8 N τ - cn8 N σ)) (300 * (cn8 N τ - cn8 N σ)) Q (F0 m 15 ls []) := by
    intro n
    induction n with
    | zero => intro i τ H locs ls hin hiC; omega
    | succ n ih =>
      intro i τ H locs ls hin hiC hfin hv hP hS hl
      obtain ⟨ga, cap, hG, hIτ, hP⟩ := hP
      have hmf : cn8 N τ ≤ cn8 N (lf_X5_sail_15 σ sailing 101 0 (st (st σ 22 sailing.toNatClampNeg (1 : Int32)) 19 (σ 23 sailing.toNatClampNeg).toNatClampNeg ((-1) : Int32))) := by rw [← hfin]; exact cn_sail (n + 1) i τ
      have h9 := hfm
      rw [hs] at h9
      have hf : 2 * (cn8 N τ - cn8 N σ) ≤ R.cells ∧ 300 * (cn8 N τ - cn8 N σ) ≤ R.slots := ⟨by omega, by omega⟩
      have eCτ : τ 54 3 = nI C := by rw [hC]; exact hIτ.2.1.2.2.2
      have hfin : (if (τ 54 3) ≤ (nI i) then τ else (if (q_X5_firstInLine τ sailing) = ((-1) : Int32) then τ else (lf_X5_sail_15 σ sailing n (i + 1) (if (q_X3_refusal τ sailing (q_X5_firstInLine τ sailing)) = 0 then (s_X3_takeAboard τ sailing (q_X5_firstInLine τ sailing)) else (s_X5_leaveBehind (st τ 31 sailing.toNatClampNeg ((τ 31 sailing.toNatClampNeg) + (1 : Int32))) (q_X5_firstInLine τ sailing) (q_X3_refusal τ sailing (q_X5_firstInLine τ sailing))))))) = lf_X5_sail_15 σ sailing 101 0 (st (st σ 22 sailing.toNatClampNeg (1 : Int32)) 19 (σ 23 sailing.toNatClampNeg).toNatClampNeg ((-1) : Int32)) := hfin
      refine lv_iload_n hx hb dX5_sail_15 rfl (lv_at hl 0 rfl) ?_
      refine lv_aload_n hx hb dX5_sail_16 rfl (lv_at hl 1 rfl) ?_
      refine cg_X5_bookings (g := gw g ga) E i_X5 hP nz (by decide +kernel) dX5_sail_17 ?_
      refine kcV_i E hml hP hS (kr_1 E.2.2.2 hP ⟨by decide, nq3, fun z => absurd z (by decide)⟩) (c_AL_size l τ 3 ⟨by decide, nq3, fun z => absurd z (by decide)⟩) (cwV 0 hts gX5_sail_Jx4a65c_size_8abf5 rfl rfl rfl (by decide +kernel) ⟨Nat.le_trans (Nat.le_of_ble_eq_true rfl) hR.1, Nat.le_trans (Nat.le_of_ble_eq_true rfl) hR.2⟩) rfl hl.1 rfl (Nat.le_of_ble_eq_true rfl) dX5_sail_20 hf (fun H locs hP hS => ?_)
      refine lv_icmp_ge (tgt := 80) hx hb dX5_sail_23 (by decide) (fun c_1 => ?_) (fun c_1 => ?_)
      · have hfin := (if_pos c_1).symm.trans hfin
        subst hfin
        have hKR5 := hIτ
        have hl := lv_sub hl [1, 2] rfl
        exact W.widen (k := 2 * (cn8 N (s_X5_sail σ sailing) - cn8 N σ)) (n := 300 * (cn8 N (s_X5_sail σ sailing) - cn8 N σ)) (Nat.le_of_eq (by rw [hs])) (Nat.le_of_eq (by rw [hs])) (kr _ H locs ls dX5_sail_80 (by rw [hs]; exact ⟨ga, cap, hG, hKR5, hP⟩) hS)
      have hfin := (if_neg c_1).symm.trans hfin
      have hlt : i < C := m_lt eCτ c_1 (by omega) (by omega)
      refine lv_aload_n hx hb dX5_sail_26 rfl (lv_at hl 1 rfl) ?_
      refine lv_aload_n hx hb dX5_sail_27 rfl (lv_at hl 2 rfl) ?_
      refine kcV_q E hml hP hS (kr_0 E.2.2.2 hP ⟨by decide, nz, fun z => absurd z (by decide)⟩) (c_X5_firstInLine l τ sailing hIτ h_sailing) (cwV 1 hts gX5_sail_X5_firstInLine rfl rfl rfl (by decide +kernel) ⟨Nat.le_trans (Nat.le_of_ble_eq_true rfl) hR.1, Nat.le_trans (Nat.le_of_ble_eq_true rfl) hR.2⟩) rfl hl.1 rfl (Nat.le_of_ble_eq_true rfl) dX5_sail_28 hf (fun H locs hP hS => ?_)
      refine lv_astore_nQ (lv' := [(3, va_rf (on g 8 (q_X5_firstInLine τ sailing))), (2, .int (nI i)), (0, .ref (g 0 0)), (1, .ref (g 6 sailing.toNatClampNeg))]) hx hb dX5_sail_31 rfl hl (by decide) rfl (fun ls hl => ?_)
      refine lv_aload_nQ hx hb dX5_sail_32 rfl (lv_at hl 0 rfl) ?_
      refine lv_ifnonnullQ (tgt := 37) hx hb dX5_sail_33 (by decide) (fun c_2 => ?_) (fun c_2 => ?_)
      · have hfin := (if_neg c_2).symm.trans hfin
        refine lv_aload_n hx hb dX5_sail_37 rfl (lv_at hl 3 rfl) ?_
        refine lv_aload_nQ hx hb dX5_sail_38 rfl (lv_at hl 0 rfl) ?_
        rw [on_o (g := g) (k := 8) c_2]
        refine kcV_i E hml hP hS (kr_6 E.2.2.2 hP ⟨by decide, vp_lt h_sailing, fun z => absurd z (by decide)⟩) (c_X3_refusal l τ sailing (q_X5_firstInLine τ sailing) hIτ h_sailing (fil_in hIτ (by assumption)).1) (cwV 1 hts gX5_sail_X3_refusal rfl rfl rfl (by decide +kernel) ⟨Nat.le_trans (Nat.le_of_ble_eq_true rfl) hR.1, Nat.le_trans (Nat.le_of_ble_eq_true rfl) hR.2⟩) rfl hl.1 rfl (Nat.le_of_ble_eq_true rfl) dX5_sail_39 hf (fun H locs hP hS => ?_)
        refine lv_istore (lv' := [(4, .int (q_X3_refusal τ sailing (q_X5_firstInLine τ sailing))), (3, va_rf (on g 8 (q_X5_firstInLine τ sailing))), (2, .int (nI i)), (0, .ref (g 0 0)), (1, .ref (g 6 sailing.toNatClampNeg))]) hx hb dX5_sail_42 hl (by decide) (by simp [va_cat]) (fun ls hl => ?_)
        refine lv_iload hx hb dX5_sail_44 (lv_at hl 0 rfl) ?_
        have J_3 : ∀ (ρ3 : St) (H : Heap) (locs : List Loc) (ls : Array Slot), ρ3 = (if (q_X3_refusal τ sailing (q_X5_firstInLine τ sailing)) = 0 then (s_X3_takeAboard τ sailing (q_X5_firstInLine τ sailing)) else (s_X5_leaveBehind (st τ 31 sailing.toNatClampNeg ((τ 31 sailing.toNatClampNeg) + (1 : Int32))) (q_X5_firstInLine τ sailing) (q_X3_refusal τ sailing (q_X5_firstInLine τ sailing)))) → cG D cI cO A aE g N ρ3 H → va_S A s.heap H locs → lv_has ls 5 [(4, .int (q_X3_refusal τ sailing (q_X5_firstInLine τ sailing))), (3, va_rf (on g 8 (q_X5_firstInLine τ sailing))), (2, .int (nI i)), (0, .ref (g 0 0)), (1, .ref (g 6 sailing.toNatClampNeg))] → W p l e R s m args below meth c H locs (2 * (cn8 N (ρ3) - cn8 N σ)) (300 * (cn8 N (ρ3) - cn8 N σ)) Q (F0 m 74 ls []) := by
          intro ρ3 H locs ls e_ρ3 hP hS hl
          subst e_ρ3
          obtain ⟨ga, cap, hG, hIJ3, hP⟩ := hP
          refine lv_iinc (v := nI (i + 1)) (lv' := [(2, .int (nI (i + 1))), (4, .int (q_X3_refusal τ sailing (q_X5_firstInLine τ sailing))), (3, va_rf (on g 8 (q_X5_firstInLine τ sailing))), (0, .ref (g 0 0)), (1, .ref (g 6 sailing.toNatClampNeg))]) hx hb dX5_sail_74 hl (k := 2) rfl (by first | rfl | exact nI_1 _) (by decide) rfl (fun ls hl => ?_)
          refine lv_goto (tgt := 15) hx hb dX5_sail_77 (by decide) ?_
          exact W.widen (k := _) (n := _) (Nat.le_refl _) (Nat.le_refl _) (ih (i + 1) (if (q_X3_refusal τ sailing (q_X5_firstInLine τ sailing)) = 0 then (s_X3_takeAboard τ sailing (q_X5_firstInLine τ sailing)) else (s_X5_leaveBehind (st τ 31 sailing.toNatClampNeg ((τ 31 sailing.toNatClampNeg) + (1 : Int32))) (q_X5_firstInLine τ sailing) (q_X3_refusal τ sailing (q_X5_firstInLine τ sailing)))) H locs ls (by omega) (by omega) hfin ⟨KT_step hIτ.1 h_sailing hv.1, Nat.le_trans hv.2 cn_step⟩ ⟨ga, cap, hG, hIJ3, hP⟩ hS (lv_sub hl [0, 3, 4] rfl))
        refine lv_if_ne (tgt := 57) hx hb dX5_sail_46 (by decide) (fun c_3 => ?_) (fun c_3 => ?_)
        · refine lv_aload_n hx hb dX5_sail_57 rfl (lv_at hl 4 rfl) ?_
          refine lv_dup hx hb dX5_sail_58 rfl ?_
          refine cg_X3_refused E i_X3 hP h_sailing (by decide +kernel) dX5_sail_59 ?_
          refine lv_iconst (v := 1) hx hb dX5_sail_62 (by decide) ?_
          refine lv_iadd hx hb dX5_sail_63 ?_
          refine cp_X3_refused E i_X3 hP hS h_sailing (by decide +kernel) dX5_sail_64 (fun H locs hP hS => ?_)
          have hcn : cn8 N τ ≤ cn8 N (s_X5_leaveBehind (st τ 31 sailing.toNatClampNeg ((τ 31 sailing.toNatClampNeg) + (1 : Int32))) (q_X5_firstInLine τ sailing) (q_X3_refusal τ sailing (q_X5_firstInLine τ sailing))) := Nat.le_trans cn_31 cn_leave
          refine lv_aload_n hx hb dX5_sail_67 rfl (lv_at hl 3 rfl) ?_
          refine lv_aload_nQ hx hb dX5_sail_68 rfl (lv_at hl 1 rfl) ?_
          rw [on_o (g := g) (k := 8) c_2]
          refine lv_iload hx hb dX5_sail_69 (lv_at hl 0 rfl) ?_
          refine kcV_v E hml hP hS (kr_0 E.2.2.2 hP ⟨by decide, nz, fun z => absurd z (by decide)⟩) (c_X5_leaveBehind l (st τ 31 sailing.toNatClampNeg ((τ 31 sailing.toNatClampNeg) + (1 : Int32))) (q_X5_firstInLine τ sailing) (q_X3_refusal τ sailing (q_X5_firstInLine τ sailing)) (KI_o hIτ (by decide)) (fil_in hIτ (by assumption)).1) (cwV 2 hts gX5_sail_X5_leaveBehind rfl rfl rfl (by decide +kernel) ⟨Nat.le_trans (Nat.le_of_ble_eq_true rfl) hR.1, Nat.le_trans (Nat.le_of_ble_eq_true rfl) hR.2⟩) rfl hl.1 rfl (Nat.le_of_ble_eq_true rfl) dX5_sail_71 hf (fun H locs hP hS => ?_)
          exact W.widen (k := _) (n := _) (by omega) (by omega) (J_3 (s_X5_leaveBehind (st τ 31 sailing.toNatClampNeg ((τ 31 sailing.toNatClampNeg) + (1 : Int32))) (q_X5_firstInLine τ sailing) (q_X3_refusal τ sailing (q_X5_firstInLine τ sailing))) H locs ls (if_neg c_3).symm ⟨ga, cap, hG, (KI_s_X5_leaveBehind (KI_o hIτ (by decide)) (fil_in hIτ (by assumption)).1), hP⟩ hS (lv_sub hl [0, 1, 2, 3, 4] rfl))
        have hcn : cn8 N τ + 1 ≤ cn8 N (s_X3_takeAboard τ sailing (q_X5_firstInLine τ sailing)) := cn_take (fil_in hIτ (by assumption)).1 (fil_in hIτ (by assumption)).2
        have hA : cn8 N (s_X3_takeAboard τ sailing (q_X5_firstInLine τ sailing)) ≤ cn8 N (lf_X5_sail_15 σ sailing 101 0 (st (st σ 22 sailing.toNatClampNeg (1 : Int32)) 19 (σ 23 sailing.toNatClampNeg).toNatClampNeg ((-1) : Int32))) := by rw [← hfin]; refine Nat.le_trans (Nat.le_of_eq ?_) (cn_sail n (i + 1) _); rw [if_pos (by assumption)]
        refine lv_aload_n hx hb dX5_sail_49 rfl (lv_at hl 4 rfl) ?_
        refine lv_aload_nQ hx hb dX5_sail_50 rfl (lv_at hl 1 rfl) ?_
        rw [on_o (g := g) (k := 8) c_2]
        refine kqV_v (As := [.ref (g 8 (q_X5_firstInLine τ sailing).toNatClampNeg)]) (rest := []) E hml hS (kr_6 E.2.2.2 hP ⟨by decide, vp_lt h_sailing, fun z => absurd z (by decide)⟩) gyBl (fun U hU hW => ⟨⟨by rw [hU]; exact ⟨ga, cap, hG, hIτ, hP⟩, va_K.moved hW.alike E.2.2.2⟩, cY_at hY hS hU hW⟩) (c_X3_takeAboard l (g := g) τ sailing (q_X5_firstInLine τ sailing) (KT_KO hv.1 (by omega)) h_sailing (fil_in hIτ (by assumption)).1) (cwV 1 hts gX5_sail_X3_takeAboard rfl rfl rfl (by decide +kernel) ⟨Nat.le_trans (Nat.le_of_ble_eq_true rfl) hR.1, Nat.le_trans (Nat.le_of_ble_eq_true rfl) hR.2⟩) rfl hl.1 rfl (Nat.le_of_ble_eq_true rfl) dX5_sail_51 ⟨by omega, by omega⟩ (fun u t H locs ht hvm hw hB hz hk hS => ?_)
        obtain ⟨ga, cap, hG, hIc4, hP⟩ := (show cG D cI cO A aE g N (s_X3_takeAboard τ sailing (q_X5_firstInLine τ sailing)) H by rw [← ht]; exact hB.1)
        refine lv_goto (tgt := 74) hx hb dX5_sail_54 (by decide) ?_
        exact W.widen (k := _) (n := _) (by omega) (by omega) (J_3 (s_X3_takeAboard τ sailing (q_X5_firstInLine τ sailing)) H locs ls (if_pos c_3).symm ⟨ga, cap, hG, hIc4, hP⟩ hS (lv_sub hl [0, 1, 2, 3, 4] rfl))
      have hfin := (if_pos c_2).symm.trans hfin
      subst hfin
      have hKR5 := hIτ
      have hl := lv_sub hl [2, 3] rfl
      exact W.widen (k := 2 * (cn8 N (s_X5_sail σ sailing) - cn8 N σ)) (n := 300 * (cn8 N (s_X5_sail σ sailing) - cn8 N σ)) (Nat.le_of_eq (by rw [hs])) (Nat.le_of_eq (by rw [hs])) (kr _ H locs ls dX5_sail_36 (by rw [hs]; exact ⟨ga, cap, hG, hKR5, hP⟩) hS)
  exact W.widen (k := _) (n := _) (Nat.zero_le _) (Nat.zero_le _) (L_5 101 0 (st (st σ 22 sailing.toNatClampNeg (1 : Int32)) 19 (σ 23 sailing.toNatClampNeg).toNatClampNeg ((-1) : Int32)) H locs ls (by omega) (Nat.zero_le _) rfl ⟨KT_same (KT_0 hZ) rfl rfl, Nat.le_of_eq (cn8_eq rfl)⟩ ⟨ga, cap, hG, (KI_o (KI_o hI (by decide)) (by decide)), hP⟩ hS (lv_sub hl [0, 1, 2] rfl))
set_option maxHeartbeats 4000000 in
set_option maxRecDepth 100000 in
theorem c_X5_sail (l : Launch) {D : va_G} {A : Nat → Prop} {cI cO : ClassId} {aE : Nat} {g : Gh} {N : Nat → Nat} (σ : St) (sailing : Int32) (hZ : KZ σ sailing) (h_sailing : vp_in sailing (N 6)) : Met l yX5_sail wsX5_sail ({ frames := 8, cells := 2 * (cn8 N (s_X5_sail σ sailing) - cn8 N σ), slots := 300 * (cn8 N (s_X5_sail σ sailing) - cn8 N σ), locals := 238 }) (va_Pc [.ref (g 0 0), .ref (g 6 sailing.toNatClampNeg)] (cGY D cI cO A aE g N σ)) (va_Qv (fun (_ : Unit) => True) (fun _ t => cGU D cI cO A aE g N (s_X5_sail σ sailing) t) A) (2 * (cn8 N (s_X5_sail σ sailing) - cn8 N σ)) (300 * (cn8 N (s_X5_sail σ sailing) - cn8 N σ)) A := by
  refine Met.ofW (cc := cX5_sail) (maxL := 5) (ret := none) (by decide) rfl ?_
  intro p e s m args below meth c s₁ B hml hv
  obtain ⟨rfl, ⟨hP, hK⟩, hY⟩ := hv
  have E : kE p c cX5_sail s m ([.ref (g 0 0), .ref (g 6 sailing.toNatClampNeg)] : List Value).toArray wsX5_sail RX5 D cI cO := ⟨⟨B.exec, B.bytes⟩, atoms_spec (ws := wsX5_sail) B.pre, findClass_of_methodNamed B.named, hK⟩
  have hr := B.returns
  have hlocks := B.notSynchronized
  have hl := lv_entry ([.ref (g 0 0), .ref (g 6 sailing.toNatClampNeg)]) (n := 5) (Nat.le_of_ble_eq_true rfl)
  rw [lg_entry_eq]
  generalize (lg_sl ([.ref (g 0 0), .ref (g 6 sailing.toNatClampNeg)]) ++ List.replicate (5 - (lg_sl ([.ref (g 0 0), .ref (g 6 sailing.toNatClampNeg)])).length) Slot.unset).toArray = ls at hl ⊢
  refine w_X5_sail σ sailing hZ h_sailing E hml ⟨Nat.le_of_ble_eq_true rfl, Nat.le_of_ble_eq_true rfl⟩ ⟨Nat.le_refl _, Nat.le_refl _⟩ hY hP va_S.rf hl (fun pc H1 locs1 ls1 hd hP1 hS1 => ?_)
  exact W.vret B.exec B.bytes hr (fun t ht hW => ⟨⟨(), rfl, trivial, by rw [ht]; exact hP1, va_K.moved hW.alike hK⟩, hS1.F ht⟩) hS1.2.2 hd
