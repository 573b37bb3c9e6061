theorem in3 {x : Int32} (h0 : ¬ x < 0) (h1 : x < (3 : Int32)) : vp_in x 3 := by
  obtain ⟨j, hj, rfl⟩ := nI_of h0
  refine vp_in_nI ?_ (by omega)
  rcases Nat.lt_or_ge j 3 with q | q
  · exact q
  · exact absurd h1 (nI_nlt q hj)
theorem lvL5 {N cap : Nat → Nat} (h : KN N) {x : Int32} (hx : vp_in x (N 6)) : lv N cap 1 (((2 : Int32) * x + 5).toNatClampNeg) ∧ 4 ≤ ((2 : Int32) * x + 5).toNatClampNeg := by
  obtain ⟨j, hj, h60, rfl⟩ := s7 h hx
  have e : ((2 : Int32) * nI j + 5).toNatClampNeg = 2 * j + 5 := by
    rw [show (2 : Int32) = nI 2 from rfl, show (5 : Int32) = nI 5 from rfl, pk_mul, nI_add, nI_clamp (by omega)]
  have := h.2.2.2.2.2.2.1
  rw [e]
  exact ⟨⟨by decide, by omega, fun z => absurd z (by decide)⟩, by omega⟩
theorem lvL4 {N cap : Nat → Nat} (h : KN N) {x : Int32} (hx : vp_in x (N 6)) : lv N cap 1 (((2 : Int32) * x + 4).toNatClampNeg) ∧ 4 ≤ ((2 : Int32) * x + 4).toNatClampNeg := by
  obtain ⟨j, hj, h60, rfl⟩ := s7 h hx
  have e : ((2 : Int32) * nI j + 4).toNatClampNeg = 2 * j + 4 := by
    rw [show (2 : Int32) = nI 2 from rfl, show (4 : Int32) = nI 4 from rfl, pk_mul, nI_add, nI_clamp (by omega)]
  have := h.2.2.2.2.2.2.1
  rw [e]
  exact ⟨⟨by decide, by omega, fun z => absurd z (by decide)⟩, by omega⟩
theorem KL_in {cap N : Nat → Nat} {τ : St} {q : Nat} {x : Int32} (h : KL cap N τ q) (h4 : 4 ≤ q) (hx : vp_in x (τ 54 q).toNatClampNeg) : vp_in (τ (100 + q) x.toNatClampNeg) (N 8) := by
  obtain ⟨C, e, hc, h100, hv⟩ := h
  have hl := vp_lt hx
  rw [e, nI_clamp (by omega)] at hl
  exact hv h4 _ hl
def lf_X3_land_2 (σ : St) (own : Int32) : Nat → Nat → St → St
  | 0, _, τ => τ
  | n + 1, i, τ => if (τ 54 (((2 : Int32) * own + 5).toNatClampNeg)) ≤ (nI i) then τ else (lf_X3_land_2 σ own n (i + 1) (st τ 35 (τ (100 + (((2 : Int32) * own + 5).toNatClampNeg)) (nI i).toNatClampNeg).toNatClampNeg (2 : Int32)))
def s_X3_land (σ : St) (own : Int32) : St := (lf_X3_land_2 σ own 101 0 σ)
set_option maxHeartbeats 1000000 in
set_option maxRecDepth 100000 in
theorem w_X3_land {p : Program} {l : Launch} {e : Env} {R : Room} {s : State} {m : MethodId} {args : Array Value} {below : List Frame} {meth : Method} {c : Code} {H : Heap} {locs : List Loc} {cells slots : Nat} {Q : State → Prop} {D : va_G} {A : Nat → Prop} {cI cO : ClassId} {g : Gh} {cap N : Nat → Nat} {ls : Array Slot} (σ : St) (own : Int32) (hI : KI cap N σ) (h_own : vp_in own (N 6)) (E : kE p c cX3_land s m args wsX3_land RX3 D cI cO) (hml : c.maxLocals = 2) (hR : 3 ≤ R.frames ∧ 64 ≤ R.locals) (hf : cells ≤ R.cells ∧ slots ≤ R.slots) (hP : cP D cI cO A g cap N σ H) (hS : va_S A s.heap H locs) (hl : lv_has ls 2 [(0, .ref (g 6 own.toNatClampNeg))]) (kr : ∀ (pc : Nat) (H1 : Heap) (locs1 : List Loc) (ls1 : Array Slot), decode cX3_land pc = .ok (.return_, 1) → cP D cI cO A g cap N (s_X3_land σ own) H1 → va_S A s.heap H1 locs1 → W p l e R s m args below meth c H1 locs1 cells slots Q (F0 m pc ls1 [])) : W p l e R s m args below meth c H locs cells slots Q (F0 m 0 ls []) := by
  have hx := E.1.1
  have hb := E.1.2
  have hts := E.2.1
  obtain ⟨n0, n4, n5, n6, n8, n7, n1, n2, n3⟩ := id hI.1
  have i_X1 : ∀ w ∈ wsX10, w ∈ wsX3_land := by decide +kernel
  have i_X3 : ∀ w ∈ wsX30, w ∈ wsX3_land := by decide +kernel
  have hs : s_X3_land σ own = (lf_X3_land_2 σ own 101 0 σ) := rfl
  refine lv_iconst (v := 0) hx hb dX3_land_0 (by decide) ?_
  refine lv_istore_n (lv' := [(1, .int (0 : Int32)), (0, .ref (g 6 own.toNatClampNeg))]) hx hb dX3_land_1 rfl hl (by decide) rfl (fun ls hl => ?_)
  obtain ⟨C, eC, -, hC, -⟩ := hI.2.2.2.2.2 _ (lvL5 (cap := cap) hI.1 h_own).1.2.1
  have L_2 : ∀ (n : Nat) (i : Nat) (τ : St) (H : Heap) (locs : List Loc) (ls : Array Slot), i + n = 101 → i ≤ C → lf_X3_land_2 σ own n i τ = lf_X3_land_2 σ own 101 0 σ → KI cap N τ → τ 54 (((2 : Int32) * own + 5).toNatClampNeg) = nI C → cP D cI cO A g cap N τ H → va_S A s.heap H locs → lv_has ls 2 [(1, .int (nI i)), (0, .ref (g 6 own.toNatClampNeg))] → W p l e R s m args below meth c H locs cells slots Q (F0 m 2 ls []) := by
    intro n
    induction n with
    | zero => intro i τ H locs ls hin hiC; omega
    | succ n ih =>
      intro i τ H locs ls hin hiC hfin hKτ hv hP hS hl
      have hIτ := hKτ
      have hfin : (if (τ 54 (((2 : Int32) * own + 5).toNatClampNeg)) ≤ (nI i) then τ else (lf_X3_land_2 σ own n (i + 1) (st τ 35 (τ (100 + (((2 : Int32) * own + 5).toNatClampNeg)) (nI i).toNatClampNeg).toNatClampNeg (2 : Int32)))) = lf_X3_land_2 σ own 101 0 σ := hfin
      refine lv_iload_n hx hb dX3_land_2 rfl (lv_at hl 0 rfl) ?_
      refine lv_aload_n hx hb dX3_land_3 rfl (lv_at hl 1 rfl) ?_
      refine cg_X3_off E i_X3 hP h_own (by omega) (by decide +kernel) dX3_land_4 ?_
      refine kcV_i E hml hP hS (kr_1 E.2.2.2 hP (lvL5 (cap := cap) hI.1 h_own).1) (c_AL_size l τ (((2 : Int32) * own + 5).toNatClampNeg) (lvL5 (cap := cap) hI.1 h_own).1) (cwV 0 hts gX3_land_Jx4a65c_size_8abf5 rfl rfl rfl (by decide +kernel) ⟨Nat.le_trans (Nat.le_of_ble_eq_true rfl) hR.1, Nat.le_trans (Nat.le_of_ble_eq_true rfl) hR.2⟩) rfl hl.1 rfl (Nat.le_of_ble_eq_true rfl) dX3_land_7 hf (fun H locs hP hS => ?_)
      refine lv_icmp_ge (tgt := 34) hx hb dX3_land_10 (by decide) (fun c_1 => ?_) (fun c_1 => ?_)
      · have hfin := (if_pos c_1).symm.trans hfin
        subst hfin
        have hKR2 := hKτ
        have hl := lv_sub hl [1] rfl
        exact kr _ H locs ls dX3_land_34 (by rw [hs]; exact hP) hS
      have hfin := (if_neg c_1).symm.trans hfin
      have hlt : i < C := m_lt hv c_1 (by omega) (by omega)
      refine lv_aload_n hx hb dX3_land_13 rfl (lv_at hl 1 rfl) ?_
      refine cg_X3_off E i_X3 hP h_own (by omega) (by decide +kernel) dX3_land_14 ?_
      refine lv_iload_n hx hb dX3_land_17 rfl (lv_at hl 0 rfl) ?_
      refine kcV_r (v := g 8 (τ (100 + (((2 : Int32) * own + 5).toNatClampNeg)) (nI i).toNatClampNeg).toNatClampNeg) E hml hP hS (kr_1 E.2.2.2 hP (lvL5 (cap := cap) hI.1 h_own).1) (c_AL_getA l τ (((2 : Int32) * own + 5).toNatClampNeg) (nI i) (lvL5 (cap := cap) hI.1 h_own).1 n2 (hIτ.2.2.2.2.2 _ (lvL5 (cap := cap) hI.1 h_own).1.2.1) (by rw [hv, nI_clamp (by omega)]; exact vp_in_nI hlt (by omega)) (lvL5 (cap := cap) hI.1 h_own).2) (cwV 1 hts gX3_land_Jx4a65c_get_915e3 rfl rfl rfl (by decide +kernel) ⟨Nat.le_trans (Nat.le_of_ble_eq_true rfl) hR.1, Nat.le_trans (Nat.le_of_ble_eq_true rfl) hR.2⟩) rfl hl.1 rfl (Nat.le_of_ble_eq_true rfl) dX3_land_18 hf (fun H locs hP hS => ?_)
      refine kcast E (E.2.2.2.1 4 _ rfl).2 (kr_8 E.2.2.2 hP ⟨by decide, vp_lt (KL_in (hIτ.2.2.2.2.2 _ (lvL5 (cap := cap) hI.1 h_own).1.2.1) (lvL5 (cap := cap) hI.1 h_own).2 (by rw [hv, nI_clamp (by omega)]; exact vp_in_nI hlt (by omega))), fun z => absurd z (by decide)⟩) (by decide +kernel) dX3_land_21 ?_
      refine lv_iconst (v := 2) hx hb dX3_land_24 (by decide) ?_
      refine cp_X1_state E i_X1 hP hS (KL_in (hIτ.2.2.2.2.2 _ (lvL5 (cap := cap) hI.1 h_own).1.2.1) (lvL5 (cap := cap) hI.1 h_own).2 (by rw [hv, nI_clamp (by omega)]; exact vp_in_nI hlt (by omega))) (by decide +kernel) dX3_land_25 (fun H locs hP hS => ?_)
      refine lv_iinc (v := nI (i + 1)) (lv' := [(1, .int (nI (i + 1))), (0, .ref (g 6 own.toNatClampNeg))]) hx hb dX3_land_28 hl (k := 0) rfl (by first | rfl | exact nI_1 _) (by decide) rfl (fun ls hl => ?_)
      refine lv_goto (tgt := 2) hx hb dX3_land_31 (by decide) ?_
      exact ih (i + 1) (st τ 35 (τ (100 + (((2 : Int32) * own + 5).toNatClampNeg)) (nI i).toNatClampNeg).toNatClampNeg (2 : Int32)) H locs ls (by omega) (by omega) hfin (KI_o hIτ (by decide)) hv hP hS (lv_sub hl [0, 1] rfl)
  exact L_2 101 0 σ H locs ls (by omega) (Nat.zero_le _) rfl hI eC hP hS (lv_sub hl [0, 1] rfl)
set_option maxHeartbeats 4000000 in
set_option maxRecDepth 100000 in
theorem c_X3_land (l : Launch) {D : va_G} {A : Nat → Prop} {cI cO : ClassId} {g : Gh} {cap N : Nat → Nat} (σ : St) (own : Int32) (hI : KI cap N σ) (h_own : vp_in own (N 6)) : Met l yX3_land wsX3_land ({ frames := 3, cells := 0, slots := 0, locals := 64 }) (va_Pc [.ref (g 6 own.toNatClampNeg)] (cU D cI cO A g cap N σ)) (va_Qv (fun (_ : Unit) => True) (fun _ t => cU D cI cO A g cap N (s_X3_land σ own) t) A) 0 0 A := by
  refine Met.ofW (cc := cX3_land) (maxL := 2) (ret := none) (by decide) rfl ?_
  intro p e s m args below meth c s₁ B hml hv
  obtain ⟨rfl, hP, hK⟩ := hv
  have E : kE p c cX3_land s m ([.ref (g 6 own.toNatClampNeg)] : List Value).toArray wsX3_land RX3 D cI cO := ⟨⟨B.exec, B.bytes⟩, atoms_spec (ws := wsX3_land) B.pre, findClass_of_methodNamed B.named, hK⟩
  have hr := B.returns
  have hlocks := B.notSynchronized
  have hl := lv_entry ([.ref (g 6 own.toNatClampNeg)]) (n := 2) (Nat.le_of_ble_eq_true rfl)
  rw [lg_entry_eq]
  generalize (lg_sl ([.ref (g 6 own.toNatClampNeg)]) ++ List.replicate (2 - (lg_sl ([.ref (g 6 own.toNatClampNeg)])).length) Slot.unset).toArray = ls at hl ⊢
  refine w_X3_land σ own hI h_own E hml ⟨Nat.le_of_ble_eq_true rfl, Nat.le_of_ble_eq_true rfl⟩ ⟨Nat.zero_le _, Nat.zero_le _⟩ hP va_S.rf hl (fun pc H1 locs1 ls1 hd hP1 hS1 => ?_)
  exact W.vret B.exec B.bytes hr (fun t ht hW => ⟨⟨(), rfl, trivial, by rw [ht]; exact hP1, va_K.moved hW.alike hK⟩, hS1.F ht⟩) hS1.2.2 hd
theorem KI_lf_X3_land_2 {cap N : Nat → Nat} {σ : St} {own : Int32} : ∀ (n i : Nat) (τ : St), i + n ≤ 101 → KI cap N τ → KI cap N (lf_X3_land_2 σ own n i τ) := by
  intro n
  induction n with
  | zero => intro i τ _ h; exact h
  | succ n ih =>
    intro i τ hi h
    show KI cap N (if (τ 54 (((2 : Int32) * own + 5).toNatClampNeg)) ≤ (nI i) then τ else _)
    by_cases hc : (τ 54 (((2 : Int32) * own + 5).toNatClampNeg)) ≤ (nI i)
    · rw [if_pos hc]; exact h
    · rw [if_neg hc]
      refine ih _ _ (by omega) ?_
      repeat (first | with_reducible exact h | with_reducible refine KI_o ?_ (by decide) | with_reducible refine KI_if (fun _ => ?_) (fun _ => ?_))
theorem KI_s_X3_land {cap N : Nat → Nat} {σ : St} {own : Int32} (hI : KI cap N σ) : KI cap N (s_X3_land σ own) := by
  unfold s_X3_land
  repeat (first | with_reducible exact hI | with_reducible refine KI_lf_X3_land_2 _ _ _ (by omega) ?_ | with_reducible refine KI_o ?_ (by decide) | with_reducible refine KI_if (fun _ => ?_) (fun _ => ?_))
theorem KI_s_X2_endGap {cap N : Nat → Nat} {σ : St} {own minute : Int32} (hI : KI cap N σ) : KI cap N (s_X2_endGap σ own minute) := by
  unfold s_X2_endGap
  repeat (first | with_reducible exact hI | with_reducible refine KI_o ?_ (by decide) | with_reducible refine KI_if (fun _ => ?_) (fun _ => ?_))
def lf_X5_letArrive_2 (σ : St)  : Nat → Nat → St → St
  | 0, _, τ => τ
  | n + 1, i, τ => if (τ 54 2) ≤ (nI i) then τ else (lf_X5_letArrive_2 σ n (i + 1) (if (τ 22 (nI i).toNatClampNeg) = (1 : Int32) then (if (q_X3_arrival τ (nI i)) = (τ 1 0) then (s_X3_land (s_X2_endGap (st (st τ 22 (nI i).toNatClampNeg (2 : Int32)) 19 (τ 23 (nI i).toNatClampNeg).toNatClampNeg (τ 25 (nI i).toNatClampNeg)) (τ 25 (nI i).toNatClampNeg) (τ 1 0)) (nI i)) else τ) else τ))
def s_X5_letArrive (σ : St) : St := (lf_X5_letArrive_2 σ 61 0 σ)
set_option maxHeartbeats 1000000 in
set_option maxRecDepth 100000 in
theorem w_X5_letArrive {p : Program} {l : Launch} {e : Env} {R : Room} {s : State} {m : MethodId} {args : Array Value} {below : List Frame} {meth : Method} {c : Code} {H : Heap} {locs : List Loc} {cells slots : Nat} {Q : State → Prop} {D : va_G} {A : Nat → Prop} {cI cO : ClassId} {g : Gh} {cap N : Nat → Nat} {ls : Array Slot} (σ : St) (hI : KI cap N σ) (E : kE p c cX5_letArrive s m args wsX5_letArrive RX5 D cI cO) (hml : c.maxLocals = 3) (hR : 4 ≤ R.frames ∧ 85 ≤ R.locals) (hf : cells ≤ R.cells ∧ slots ≤ R.slots) (hP : cP D cI cO A g cap N σ H) (hS : va_S A s.heap H locs) (hl : lv_has ls 3 [(0, .ref (g 0 0))]) (kr : ∀ (pc : Nat) (H1 : Heap) (locs1 : List Loc) (ls1 : Array Slot), decode cX5_letArrive pc = .ok (.return_, 1) → cP D cI cO A g cap N (s_X5_letArrive σ) H1 → va_S A s.heap H1 locs1 → W p l e R s m args below meth c H1 locs1 cells slots Q (F0 m pc ls1 [])) : W p l e R s m args below meth c H locs cells slots Q (F0 m 0 ls []) := by
  have hx := E.1.1
  have hb := E.1.2
  have hts := E.2.1
  obtain ⟨n0, n4, n5, n6, n8, n7, n1, n2, n3⟩ := id hI.1
  have i_X0 : ∀ w ∈ wsX00, w ∈ wsX5_letArrive := by decide +kernel
  have i_X2 : ∀ w ∈ wsX20, w ∈ wsX5_letArrive := by decide +kernel
  have i_X3 : ∀ w ∈ wsX30, w ∈ wsX5_letArrive := by decide +kernel
  have i_X5 : ∀ w ∈ wsX50, w ∈ wsX5_letArrive := by decide +kernel
  have hs : s_X5_letArrive σ = (lf_X5_letArrive_2 σ 61 0 σ) := rfl
  refine lv_iconst (v := 0) hx hb dX5_letArrive_0 (by decide) ?_
  refine lv_istore_n (lv' := [(1, .int (0 : Int32)), (0, .ref (g 0 0))]) hx hb dX5_letArrive_1 rfl hl (by decide) rfl (fun ls hl => ?_)
  obtain ⟨C, hC, eC⟩ : ∃ C : Nat, C = N 6 ∧ σ 54 2 = nI C := ⟨N 6, rfl, hI.2.1.2.2.1⟩
  have L_4 : ∀ (n : Nat) (i : Nat) (τ : St) (H : Heap) (locs : List Loc) (ls : Array Slot), i + n = 61 → i ≤ C → lf_X5_letArrive_2 σ n i τ = lf_X5_letArrive_2 σ 61 0 σ → KI cap N τ → cP D cI cO A g cap N τ H → va_S A s.heap H locs → lv_has ls 3 [(1, .int (nI i)), (0, .ref (g 0 0))] → W p l e R s m args below meth c H locs cells slots Q (F0 m 2 ls []) := by
    intro n
    induction n with
    | zero => intro i τ H locs ls hin hiC; omega
    | succ n ih =>
      intro i τ H locs ls hin hiC hfin hKτ hP hS hl
      have hIτ := hKτ
      have eCτ : τ 54 2 = nI C := by rw [hC]; exact hIτ.2.1.2.2.1
      have hfin : (if (τ 54 2) ≤ (nI i) then τ else (lf_X5_letArrive_2 σ n (i + 1) (if (τ 22 (nI i).toNatClampNeg) = (1 : Int32) then (if (q_X3_arrival τ (nI i)) = (τ 1 0) then (s_X3_land (s_X2_endGap (st (st τ 22 (nI i).toNatClampNeg (2 : Int32)) 19 (τ 23 (nI i).toNatClampNeg).toNatClampNeg (τ 25 (nI i).toNatClampNeg)) (τ 25 (nI i).toNatClampNeg) (τ 1 0)) (nI i)) else τ) else τ))) = lf_X5_letArrive_2 σ 61 0 σ := hfin
      refine lv_iload_n hx hb dX5_letArrive_2 rfl (lv_at hl 0 rfl) ?_
      refine lv_aload_n hx hb dX5_letArrive_3 rfl (lv_at hl 1 rfl) ?_
      refine cg_X5_sailings E i_X5 hP (by omega) (by decide +kernel) dX5_letArrive_4 ?_
      refine kcV_i E hml hP hS (kr_1 E.2.2.2 hP ⟨by decide, by omega, fun z => absurd z (by decide)⟩) (c_AL_size l τ 2 ⟨by decide, by omega, fun z => absurd z (by decide)⟩) (cwV 0 hts gX5_letArrive_Jx4a65c_size_8abf5 rfl rfl rfl (by decide +kernel) ⟨Nat.le_trans (Nat.le_of_ble_eq_true rfl) hR.1, Nat.le_trans (Nat.le_of_ble_eq_true rfl) hR.2⟩) rfl hl.1 rfl (Nat.le_of_ble_eq_true rfl) dX5_letArrive_7 hf (fun H locs hP hS => ?_)
      refine lv_icmp_ge (tgt := 84) hx hb dX5_letArrive_10 (by decide) (fun c_1 => ?_) (fun c_1 => ?_)
      · have hfin := (if_pos c_1).symm.trans hfin
        subst hfin
        have hKR4 := hKτ
        have hl := lv_sub hl [1] rfl
        exact kr _ H locs ls dX5_letArrive_84 (by rw [hs]; exact hP) hS
      have hfin := (if_neg c_1).symm.trans hfin
      have hlt : i < C := m_lt eCτ c_1 (by omega) (by omega)
      refine lv_aload_n hx hb dX5_letArrive_13 rfl (lv_at hl 1 rfl) ?_
      refine cg_X5_sailings E i_X5 hP (by omega) (by decide +kernel) dX5_letArrive_14 ?_
      refine lv_iload_n hx hb dX5_letArrive_17 rfl (lv_at hl 0 rfl) ?_
      refine kcV_r (v := g 6 (nI i).toNatClampNeg) E hml hP hS (kr_1 E.2.2.2 hP ⟨by decide, by omega, fun z => absurd z (by decide)⟩) (c_AL_get l τ 2 (nI i) ⟨by decide, by omega, fun z => absurd z (by decide)⟩ n2 (hIτ.2.2.2.2.2 _ (by omega)) (by rw [hIτ.2.1.2.2.1, nI_clamp (by omega)]; exact (vp_in_nI (n := i) (by omega) (by omega)))) (cwV 1 hts gX5_letArrive_Jx4a65c_get_915e3 rfl rfl rfl (by decide +kernel) ⟨Nat.le_trans (Nat.le_of_ble_eq_true rfl) hR.1, Nat.le_trans (Nat.le_of_ble_eq_true rfl) hR.2⟩) rfl hl.1 rfl (Nat.le_of_ble_eq_true rfl) dX5_letArrive_18 hf (fun H locs hP hS => ?_)
      refine kcast E (E.2.2.2.1 6 _ rfl).2 (kr_6 E.2.2.2 hP ⟨by decide, vp_lt (vp_in_nI (n := i) (by omega) (by omega)), fun z => absurd z (by decide)⟩) (by decide +kernel) dX5_letArrive_21 ?_
      refine lv_astore_n (lv' := [(2, .ref (g 6 (nI i).toNatClampNeg)), (1, .int (nI i)), (0, .ref (g 0 0))]) hx hb dX5_letArrive_24 rfl hl (by decide) rfl (fun ls hl => ?_)
      refine lv_aload_n hx hb dX5_letArrive_25 rfl (lv_at hl 0 rfl) ?_
      refine cg_X3_state E i_X3 hP (vp_in_nI (n := i) (by omega) (by omega)) (by decide +kernel) dX5_letArrive_26 ?_
      refine lv_iconst (v := 1) hx hb dX5_letArrive_29 (by decide) ?_
      have J_2 : ∀ (ρ2 : St) (H : Heap) (locs : List Loc) (ls : Array Slot), ρ2 = (if (τ 22 (nI i).toNatClampNeg) = (1 : Int32) then (if (q_X3_arrival τ (nI i)) = (τ 1 0) then (s_X3_land (s_X2_endGap (st (st τ 22 (nI i).toNatClampNeg (2 : Int32)) 19 (τ 23 (nI i).toNatClampNeg).toNatClampNeg (τ 25 (nI i).toNatClampNeg)) (τ 25 (nI i).toNatClampNeg) (τ 1 0)) (nI i)) else τ) else τ) → KI cap N ρ2 → cP D cI cO A g cap N ρ2 H → va_S A s.heap H locs → lv_has ls 3 [(2, .ref (g 6 (nI i).toNatClampNeg)), (1, .int (nI i)), (0, .ref (g 0 0))] → W p l e R s m args below meth c H locs cells slots Q (F0 m 78 ls []) := by
        intro ρ2 H locs ls e_ρ2 hK2 hP hS hl
        subst e_ρ2
        refine lv_iinc (v := nI (i + 1)) (lv' := [(1, .int (nI (i + 1))), (2, .ref (g 6 (nI i).toNatClampNeg)), (0, .ref (g 0 0))]) hx hb dX5_letArrive_78 hl (k := 1) rfl (by first | rfl | exact nI_1 _) (by decide) rfl (fun ls hl => ?_)
        refine lv_goto (tgt := 2) hx hb dX5_letArrive_81 (by decide) ?_
        exact ih (i + 1) (if (τ 22 (nI i).toNatClampNeg) = (1 : Int32) then (if (q_X3_arrival τ (nI i)) = (τ 1 0) then (s_X3_land (s_X2_endGap (st (st τ 22 (nI i).toNatClampNeg (2 : Int32)) 19 (τ 23 (nI i).toNatClampNeg).toNatClampNeg (τ 25 (nI i).toNatClampNeg)) (τ 25 (nI i).toNatClampNeg) (τ 1 0)) (nI i)) else τ) else τ) H locs ls (by omega) (by omega) hfin hK2 hP hS (lv_sub hl [0, 2] rfl)
      refine lv_icmp_ne (tgt := 78) hx hb dX5_letArrive_30 (by decide) (fun c_2 => ?_) (fun c_2 => ?_)
      · exact J_2 τ H locs ls (if_neg c_2).symm hKτ hP hS (lv_sub hl [0, 1, 2] rfl)
      refine lv_aload_n hx hb dX5_letArrive_33 rfl (lv_at hl 0 rfl) ?_
      refine kcV_i E hml hP hS (kr_6 E.2.2.2 hP ⟨by decide, vp_lt (vp_in_nI (n := i) (by omega) (by omega)), fun z => absurd z (by decide)⟩) (c_X3_arrival l τ (nI i) hIτ (vp_in_nI (n := i) (by omega) (by omega))) (cwV 0 hts gX5_letArrive_X3_arrival rfl rfl rfl (by decide +kernel) ⟨Nat.le_trans (Nat.le_of_ble_eq_true rfl) hR.1, Nat.le_trans (Nat.le_of_ble_eq_true rfl) hR.2⟩) rfl hl.1 rfl (Nat.le_of_ble_eq_true rfl) dX5_letArrive_34 hf (fun H locs hP hS => ?_)
      refine lv_aload_n hx hb dX5_letArrive_37 rfl (lv_at hl 2 rfl) ?_
      refine cg_X5_now E i_X5 hP (by omega) (by decide +kernel) dX5_letArrive_38 ?_
      refine lv_icmp_ne (tgt := 78) hx hb dX5_letArrive_41 (by decide) (fun c_3 => ?_) (fun c_3 => ?_)
      · exact J_2 τ H locs ls ((if_neg c_3).symm.trans (if_pos c_2).symm) hKτ hP hS (lv_sub hl [0, 1, 2] rfl)
      refine lv_aload_n hx hb dX5_letArrive_44 rfl (lv_at hl 0 rfl) ?_
      refine lv_iconst (v := 2) hx hb dX5_letArrive_45 (by decide) ?_
      refine cp_X3_state E i_X3 hP hS (vp_in_nI (n := i) (by omega) (by omega)) (by decide +kernel) dX5_letArrive_46 (fun H locs hP hS => ?_)
      refine lv_aload_n hx hb dX5_letArrive_49 rfl (lv_at hl 0 rfl) ?_
      refine cg_X3_boat E i_X3 hP (vp_in_nI (n := i) (by omega) (by omega)) (by decide +kernel) dX5_letArrive_50 ?_
      show W p l e R s m args below meth c H locs cells slots Q (F0 m 53 ls [.ref (g 5 (τ 23 (nI i).toNatClampNeg).toNatClampNeg)])
      refine lv_aload_n hx hb dX5_letArrive_53 rfl (lv_at hl 0 rfl) ?_
      refine cg_X3_to E i_X3 hP (vp_in_nI (n := i) (by omega) (by omega)) (by decide +kernel) dX5_letArrive_54 ?_
      show W p l e R s m args below meth c H locs cells slots Q (F0 m 57 ls [.ref (g 4 (τ 25 (nI i).toNatClampNeg).toNatClampNeg), .ref (g 5 (τ 23 (nI i).toNatClampNeg).toNatClampNeg)])
      refine cg_X2_number E i_X2 hP ((hIτ.2.2.1 _ (vp_lt (vp_in_nI (n := i) (by omega) (by omega)))).2.2) (by omega) (by decide +kernel) dX5_letArrive_57 ?_
      refine cp_X0_pier E i_X0 hP hS ((hIτ.2.2.1 _ (vp_lt (vp_in_nI (n := i) (by omega) (by omega)))).1) (by decide +kernel) dX5_letArrive_60 (fun H locs hP hS => ?_)
      refine lv_aload_n hx hb dX5_letArrive_63 rfl (lv_at hl 0 rfl) ?_
      refine cg_X3_to E i_X3 hP (vp_in_nI (n := i) (by omega) (by omega)) (by decide +kernel) dX5_letArrive_64 ?_
      show W p l e R s m args below meth c H locs cells slots Q (F0 m 67 ls [.ref (g 4 (τ 25 (nI i).toNatClampNeg).toNatClampNeg)])
      refine lv_aload_n hx hb dX5_letArrive_67 rfl (lv_at hl 2 rfl) ?_
      refine cg_X5_now E i_X5 hP (by omega) (by decide +kernel) dX5_letArrive_68 ?_
      show W p l e R s m args below meth c H locs cells slots Q (F0 m 71 ls [.int (τ 1 0), .ref (g 4 (τ 25 (nI i).toNatClampNeg).toNatClampNeg)])
      refine kcV_v E hml hP hS (kr_4 E.2.2.2 hP ⟨by decide, vp_lt ((hIτ.2.2.1 _ (vp_lt (vp_in_nI (n := i) (by omega) (by omega)))).2.2), fun z => absurd z (by decide)⟩) (c_X2_endGap l (st (st τ 22 (nI i).toNatClampNeg (2 : Int32)) 19 (τ 23 (nI i).toNatClampNeg).toNatClampNeg (τ 25 (nI i).toNatClampNeg)) (τ 25 (nI i).toNatClampNeg) (τ 1 0) (KI_o (KI_o hIτ (by decide)) (by decide)) ((hIτ.2.2.1 _ (vp_lt (vp_in_nI (n := i) (by omega) (by omega)))).2.2)) (cwV 1 hts gX5_letArrive_X2_endGap rfl rfl rfl (by decide +kernel) ⟨Nat.le_trans (Nat.le_of_ble_eq_true rfl) hR.1, Nat.le_trans (Nat.le_of_ble_eq_true rfl) hR.2⟩) rfl hl.1 rfl (Nat.le_of_ble_eq_true rfl) dX5_letArrive_71 hf (fun H locs hP hS => ?_)
      refine lv_aload_n hx hb dX5_letArrive_74 rfl (lv_at hl 0 rfl) ?_
      refine kcV_v E hml hP hS (kr_6 E.2.2.2 hP ⟨by decide, vp_lt (vp_in_nI (n := i) (by omega) (by omega)), fun z => absurd z (by decide)⟩) (c_X3_land l (s_X2_endGap (st (st τ 22 (nI i).toNatClampNeg (2 : Int32)) 19 (τ 23 (nI i).toNatClampNeg).toNatClampNeg (τ 25 (nI i).toNatClampNeg)) (τ 25 (nI i).toNatClampNeg) (τ 1 0)) (nI i) (KI_s_X2_endGap (KI_o (KI_o hIτ (by decide)) (by decide))) (vp_in_nI (n := i) (by omega) (by omega))) (cwV 0 hts gX5_letArrive_X3_land rfl rfl rfl (by decide +kernel) ⟨Nat.le_trans (Nat.le_of_ble_eq_true rfl) hR.1, Nat.le_trans (Nat.le_of_ble_eq_true rfl) hR.2⟩) rfl hl.1 rfl (Nat.le_of_ble_eq_true rfl) dX5_letArrive_75 hf (fun H locs hP hS => ?_)
      exact J_2 (s_X3_land (s_X2_endGap (st (st τ 22 (nI i).toNatClampNeg (2 : Int32)) 19 (τ 23 (nI i).toNatClampNeg).toNatClampNeg (τ 25 (nI i).toNatClampNeg)) (τ 25 (nI i).toNatClampNeg) (τ 1 0)) (nI i)) H locs ls ((if_pos c_3).symm.trans (if_pos c_2).symm) (KI_s_X3_land (KI_s_X2_endGap (KI_o (KI_o hIτ (by decide)) (by decide)))) hP hS (lv_sub hl [0, 1, 2] rfl)
  exact L_4 61 0 σ H locs ls (by omega) (Nat.zero_le _) rfl hI hP hS (lv_sub hl [0, 1] rfl)
set_option maxHeartbeats 4000000 in
set_option maxRecDepth 100000 in
theorem c_X5_letArrive (l : Launch) {D : va_G} {A : Nat → Prop} {cI cO : ClassId} {g : Gh} {cap N : Nat → Nat} (σ : St) (hI : KI cap N σ) : Met l yX5_letArrive wsX5_letArrive ({ frames := 4, cells := 0, slots := 0, locals := 85 }) (va_Pc [.ref (g 0 0)] (cU D cI cO A g cap N σ)) (va_Qv (fun (_ : Unit) => True) (fun _ t => cU D cI cO A g cap N (s_X5_letArrive σ) t) A) 0 0 A := by
  refine Met.ofW (cc := cX5_letArrive) (maxL := 3) (ret := none) (by decide) rfl ?_
  intro p e s m args below meth c s₁ B hml hv
  obtain ⟨rfl, hP, hK⟩ := hv
  have E : kE p c cX5_letArrive s m ([.ref (g 0 0)] : List Value).toArray wsX5_letArrive RX5 D cI cO := ⟨⟨B.exec, B.bytes⟩, atoms_spec (ws := wsX5_letArrive) B.pre, findClass_of_methodNamed B.named, hK⟩
  have hr := B.returns
  have hlocks := B.notSynchronized
  have hl := lv_entry ([.ref (g 0 0)]) (n := 3) (Nat.le_of_ble_eq_true rfl)
  rw [lg_entry_eq]
  generalize (lg_sl ([.ref (g 0 0)]) ++ List.replicate (3 - (lg_sl ([.ref (g 0 0)])).length) Slot.unset).toArray = ls at hl ⊢
  refine w_X5_letArrive σ hI E hml ⟨Nat.le_of_ble_eq_true rfl, Nat.le_of_ble_eq_true rfl⟩ ⟨Nat.zero_le _, Nat.zero_le _⟩ hP va_S.rf hl (fun pc H1 locs1 ls1 hd hP1 hS1 => ?_)
  exact W.vret B.exec B.bytes hr (fun t ht hW => ⟨⟨(), rfl, trivial, by rw [ht]; exact hP1, va_K.moved hW.alike hK⟩, hS1.F ht⟩) hS1.2.2 hd
def lf_X5_decideTheDay_2 (σ : St)  : Nat → Nat → St → St
  | 0, _, τ => τ
  | n + 1, i, τ => if (τ 54 2) ≤ (nI i) then τ else (lf_X5_decideTheDay_2 σ n (i + 1) (if (τ 22 (nI i).toNatClampNeg) = 0 then (if ((τ 26 (nI i).toNatClampNeg) / (1440 : Int32)) = ((τ 1 0) / (1440 : Int32)) then (if (q_X5_reasonAtDecision τ (nI i)) = 0 then τ else (s_X5_cancel τ (nI i) (q_X5_reasonAtDecision τ (nI i)))) else τ) else τ))
def s_X5_decideTheDay (σ : St) : St := (lf_X5_decideTheDay_2 σ 61 0 σ)
set_option maxHeartbeats 1000000 in
set_option maxRecDepth 100000 in
theorem w_X5_decideTheDay {p : Program} {l : Launch} {e : Env} {R : Room} {s : State} {m : MethodId} {args : Array Value} {below : List Frame} {meth : Method} {c : Code} {H : Heap} {locs : List Loc} {cells slots : Nat} {Q : State → Prop} {D : va_G} {A : Nat → Prop} {cI cO : ClassId} {g : Gh} {cap N : Nat → Nat} {ls : Array Slot} (σ : St) (hI : KI cap N σ) (E : kE p c cX5_decideTheDay s m args wsX5_decideTheDay RX5 D cI cO) (hml : c.maxLocals = 4) (hR : 6 ≤ R.frames ∧ 135 ≤ R.locals) (hf : cells ≤ R.cells ∧ slots ≤ R.slots) (hP : cP D cI cO A g cap N σ H) (hS : va_S A s.heap H locs) (hl : lv_has ls 4 [(0, .ref (g 0 0))]) (kr : ∀ (pc : Nat) (H1 : Heap) (locs1 : List Loc) (ls1 : Array Slot), decode cX5_decideTheDay pc = .ok (.return_, 1) → cP D cI cO A g cap N (s_X5_decideTheDay σ) H1 → va_S A s.heap H1 locs1 → W p l e R s m args below meth c H1 locs1 cells slots Q (F0 m pc ls1 [])) : W p l e R s m args below meth c H locs cells slots Q (F0 m 0 ls []) := by
  have hx := E.1.1
  have hb := E.1.2
  have hts := E.2.1
  obtain ⟨n0, n4, n5, n6, n8, n7, n1, n2, n3⟩ := id hI.1
  have i_X3 : ∀ w ∈ wsX30, w ∈ wsX5_decideTheDay := by decide +kernel
  have i_X5 : ∀ w ∈ wsX50, w ∈ wsX5_decideTheDay := by decide +kernel
  have hs : s_X5_decideTheDay σ = (lf_X5_decideTheDay_2 σ 61 0 σ) := rfl
  refine lv_iconst (v := 0) hx hb dX5_decideTheDay_0 (by decide) ?_
  refine lv_istore_n (lv' := [(1, .int (0 : Int32)), (0, .ref (g 0 0))]) hx hb dX5_decideTheDay_1 rfl hl (by decide) rfl (fun ls hl => ?_)
  obtain ⟨C, hC, eC⟩ : ∃ C : Nat, C = N 6 ∧ σ 54 2 = nI C := ⟨N 6, rfl, hI.2.1.2.2.1⟩
  have L_5 : ∀ (n : Nat) (i : Nat) (τ : St) (H : Heap) (locs : List Loc) (ls : Array Slot), i + n = 61 → i ≤ C → lf_X5_decideTheDay_2 σ n i τ = lf_X5_decideTheDay_2 σ 61 0 σ → KI cap N τ → cP D cI cO A g cap N τ H → va_S A s.heap H locs → lv_has ls 4 [(1, .int (nI i)), (0, .ref (g 0 0))] → W p l e R s m args below meth c H locs cells slots Q (F0 m 2 ls []) := by
    intro n
    induction n with
    | zero => intro i τ H locs ls hin hiC; omega
    | succ n ih =>
      intro i τ H locs ls hin hiC hfin hKτ hP hS hl
      have hIτ := hKτ
      have eCτ : τ 54 2 = nI C := by rw [hC]; exact hIτ.2.1.2.2.1
      have hfin : (if (τ 54 2) ≤ (nI i) then τ else (lf_X5_decideTheDay_2 σ n (i + 1) (if (τ 22 (nI i).toNatClampNeg) = 0 then (if ((τ 26 (nI i).toNatClampNeg) / (1440 : Int32)) = ((τ 1 0) / (1440 : Int32)) then (if (q_X5_reasonAtDecision τ (nI i)) = 0 then τ else (s_X5_cancel τ (nI i) (q_X5_reasonAtDecision τ (nI i)))) else τ) else τ))) = lf_X5_decideTheDay_2 σ 61 0 σ := hfin
      refine lv_iload_n hx hb dX5_decideTheDay_2 rfl (lv_at hl 0 rfl) ?_
      refine lv_aload_n hx hb dX5_decideTheDay_3 rfl (lv_at hl 1 rfl) ?_
      refine cg_X5_sailings E i_X5 hP (by omega) (by decide +kernel) dX5_decideTheDay_4 ?_
      refine kcV_i E hml hP hS (kr_1 E.2.2.2 hP ⟨by decide, by omega, fun z => absurd z (by decide)⟩) (c_AL_size l τ 2 ⟨by decide, by omega, fun z => absurd z (by decide)⟩) (cwV 0 hts gX5_decideTheDay_Jx4a65c_size_8abf5 rfl rfl rfl (by decide +kernel) ⟨Nat.le_trans (Nat.le_of_ble_eq_true rfl) hR.1, Nat.le_trans (Nat.le_of_ble_eq_true rfl) hR.2⟩) rfl hl.1 rfl (Nat.le_of_ble_eq_true rfl) dX5_decideTheDay_7 hf (fun H locs hP hS => ?_)
      refine lv_icmp_ge (tgt := 73) hx hb dX5_decideTheDay_10 (by decide) (fun c_1 => ?_) (fun c_1 => ?_)
      · have hfin := (if_pos c_1).symm.trans hfin
        subst hfin
        have hKR5 := hKτ
        have hl := lv_sub hl [1] rfl
        exact kr _ H locs ls dX5_decideTheDay_73 (by rw [hs]; exact hP) hS
      have hfin := (if_neg c_1).symm.trans hfin
      have hlt : i < C := m_lt eCτ c_1 (by omega) (by omega)
      refine lv_aload_n hx hb dX5_decideTheDay_13 rfl (lv_at hl 1 rfl) ?_
      refine cg_X5_sailings E i_X5 hP (by omega) (by decide +kernel) dX5_decideTheDay_14 ?_
      refine lv_iload_n hx hb dX5_decideTheDay_17 rfl (lv_at hl 0 rfl) ?_
      refine kcV_r (v := g 6 (nI i).toNatClampNeg) E hml hP hS (kr_1 E.2.2.2 hP ⟨by decide, by omega, fun z => absurd z (by decide)⟩) (c_AL_get l τ 2 (nI i) ⟨by decide, by omega, fun z => absurd z (by decide)⟩ n2 (hIτ.2.2.2.2.2 _ (by omega)) (by rw [hIτ.2.1.2.2.1, nI_clamp (by omega)]; exact (vp_in_nI (n := i) (by omega) (by omega)))) (cwV 1 hts gX5_decideTheDay_Jx4a65c_get_915e3 rfl rfl rfl (by decide +kernel) ⟨Nat.le_trans (Nat.le_of_ble_eq_true rfl) hR.1, Nat.le_trans (Nat.le_of_ble_eq_true rfl) hR.2⟩) rfl hl.1 rfl (Nat.le_of_ble_eq_true rfl) dX5_decideTheDay_18 hf (fun H locs hP hS => ?_)
      refine kcast E (E.2.2.2.1 6 _ rfl).2 (kr_6 E.2.2.2 hP ⟨by decide, vp_lt (vp_in_nI (n := i) (by omega) (by omega)), fun z => absurd z (by decide)⟩) (by decide +kernel) dX5_decideTheDay_21 ?_
      refine lv_astore_n (lv' := [(2, .ref (g 6 (nI i).toNatClampNeg)), (1, .int (nI i)), (0, .ref (g 0 0))]) hx hb dX5_decideTheDay_24 rfl hl (by decide) rfl (fun ls hl => ?_)
      refine lv_aload_n hx hb dX5_decideTheDay_25 rfl (lv_at hl 0 rfl) ?_
      refine cg_X3_state E i_X3 hP (vp_in_nI (n := i) (by omega) (by omega)) (by decide +kernel) dX5_decideTheDay_26 ?_
      have J_2 : ∀ (ρ2 : St) (H : Heap) (locs : List Loc) (ls : Array Slot), ρ2 = (if (τ 22 (nI i).toNatClampNeg) = 0 then (if ((τ 26 (nI i).toNatClampNeg) / (1440 : Int32)) = ((τ 1 0) / (1440 : Int32)) then (if (q_X5_reasonAtDecision τ (nI i)) = 0 then τ else (s_X5_cancel τ (nI i) (q_X5_reasonAtDecision τ (nI i)))) else τ) else τ) → KI cap N ρ2 → cP D cI cO A g cap N ρ2 H → va_S A s.heap H locs → lv_has ls 4 [(2, .ref (g 6 (nI i).toNatClampNeg)), (1, .int (nI i)), (0, .ref (g 0 0))] → W p l e R s m args below meth c H locs cells slots Q (F0 m 67 ls []) := by
        intro ρ2 H locs ls e_ρ2 hK2 hP hS hl
        subst e_ρ2
        refine lv_iinc (v := nI (i + 1)) (lv' := [(1, .int (nI (i + 1))), (2, .ref (g 6 (nI i).toNatClampNeg)), (0, .ref (g 0 0))]) hx hb dX5_decideTheDay_67 hl (k := 1) rfl (by first | rfl | exact nI_1 _) (by decide) rfl (fun ls hl => ?_)
        refine lv_goto (tgt := 2) hx hb dX5_decideTheDay_70 (by decide) ?_
        exact ih (i + 1) (if (τ 22 (nI i).toNatClampNeg) = 0 then (if ((τ 26 (nI i).toNatClampNeg) / (1440 : Int32)) = ((τ 1 0) / (1440 : Int32)) then (if (q_X5_reasonAtDecision τ (nI i)) = 0 then τ else (s_X5_cancel τ (nI i) (q_X5_reasonAtDecision τ (nI i)))) else τ) else τ) H locs ls (by omega) (by omega) hfin hK2 hP hS (lv_sub hl [0, 2] rfl)
      refine lv_if_ne (tgt := 67) hx hb dX5_decideTheDay_29 (by decide) (fun c_2 => ?_) (fun c_2 => ?_)
      · exact J_2 τ H locs ls (if_neg c_2).symm hKτ hP hS (lv_sub hl [0, 1, 2] rfl)
      refine lv_aload_n hx hb dX5_decideTheDay_32 rfl (lv_at hl 0 rfl) ?_
      refine cg_X3_departure E i_X3 hP (vp_in_nI (n := i) (by omega) (by omega)) (by decide +kernel) dX5_decideTheDay_33 ?_
      refine lv_sipush (v := 1440) hx hb dX5_decideTheDay_36 (by decide) ?_
      refine lv_idiv hx hb dX5_decideTheDay_39 (by decide) ?_
      refine lv_aload_n hx hb dX5_decideTheDay_40 rfl (lv_at hl 2 rfl) ?_
      refine cg_X5_now E i_X5 hP (by omega) (by decide +kernel) dX5_decideTheDay_41 ?_
      refine lv_sipush (v := 1440) hx hb dX5_decideTheDay_44 (by decide) ?_
      refine lv_idiv hx hb dX5_decideTheDay_47 (by decide) ?_
      refine lv_icmp_ne (tgt := 67) hx hb dX5_decideTheDay_48 (by decide) (fun c_3 => ?_) (fun c_3 => ?_)
      · exact J_2 τ H locs ls ((if_neg c_3).symm.trans (if_pos c_2).symm) hKτ hP hS (lv_sub hl [0, 1, 2] rfl)
      refine lv_aload_n hx hb dX5_decideTheDay_51 rfl (lv_at hl 2 rfl) ?_
      refine lv_aload_n hx hb dX5_decideTheDay_52 rfl (lv_at hl 0 rfl) ?_
      refine kcV_i E hml hP hS (kr_0 E.2.2.2 hP ⟨by decide, by omega, fun z => absurd z (by decide)⟩) (c_X5_reasonAtDecision l τ (nI i) hIτ (vp_in_nI (n := i) (by omega) (by omega))) (cwV 1 hts gX5_decideTheDay_X5_reasonAtDecision rfl rfl rfl (by decide +kernel) ⟨Nat.le_trans (Nat.le_of_ble_eq_true rfl) hR.1, Nat.le_trans (Nat.le_of_ble_eq_true rfl) hR.2⟩) rfl hl.1 rfl (Nat.le_of_ble_eq_true rfl) dX5_decideTheDay_53 hf (fun H locs hP hS => ?_)
      refine lv_istore_n (lv' := [(3, .int (q_X5_reasonAtDecision τ (nI i))), (2, .ref (g 6 (nI i).toNatClampNeg)), (1, .int (nI i)), (0, .ref (g 0 0))]) hx hb dX5_decideTheDay_56 rfl hl (by decide) rfl (fun ls hl => ?_)
      refine lv_iload_n hx hb dX5_decideTheDay_57 rfl (lv_at hl 0 rfl) ?_
      refine lv_if_eq (tgt := 67) hx hb dX5_decideTheDay_58 (by decide) (fun c_4 => ?_) (fun c_4 => ?_)
      · exact J_2 τ H locs ls ((if_pos c_4).symm.trans ((if_pos c_3).symm.trans (if_pos c_2).symm)) hKτ hP hS (lv_sub hl [1, 2, 3] rfl)
      refine lv_aload_n hx hb dX5_decideTheDay_61 rfl (lv_at hl 3 rfl) ?_
      refine lv_aload_n hx hb dX5_decideTheDay_62 rfl (lv_at hl 1 rfl) ?_
      refine lv_iload_n hx hb dX5_decideTheDay_63 rfl (lv_at hl 0 rfl) ?_
      refine kcV_v E hml hP hS (kr_0 E.2.2.2 hP ⟨by decide, by omega, fun z => absurd z (by decide)⟩) (c_X5_cancel l τ (nI i) (q_X5_reasonAtDecision τ (nI i)) hIτ (vp_in_nI (n := i) (by omega) (by omega))) (cwV 2 hts gX5_decideTheDay_X5_cancel rfl rfl rfl (by decide +kernel) ⟨Nat.le_trans (Nat.le_of_ble_eq_true rfl) hR.1, Nat.le_trans (Nat.le_of_ble_eq_true rfl) hR.2⟩) rfl hl.1 rfl (Nat.le_of_ble_eq_true rfl) dX5_decideTheDay_64 hf (fun H locs hP hS => ?_)
      exact J_2 (s_X5_cancel τ (nI i) (q_X5_reasonAtDecision τ (nI i))) H locs ls ((if_neg c_4).symm.trans ((if_pos c_3).symm.trans (if_pos c_2).symm)) (KI_s_X5_cancel hIτ (vp_in_nI (n := i) (by omega) (by omega))) hP hS (lv_sub hl [1, 2, 3] rfl)
  exact L_5 61 0 σ H locs ls (by omega) (Nat.zero_le _) rfl hI hP hS (lv_sub hl [0, 1] rfl)
set_option maxHeartbeats 4000000 in
set_option maxRecDepth 100000 in
theorem c_X5_decideTheDay (l : Launch) {D : va_G} {A : Nat → Prop} {cI cO : ClassId} {g : Gh} {cap N : Nat → Nat} (σ : St) (hI : KI cap N σ) : Met l yX5_decideTheDay wsX5_decideTheDay ({ frames := 6, cells := 0, slots := 0, locals := 135 }) (va_Pc [.ref (g 0 0)] (cU D cI cO A g cap N σ)) (va_Qv (fun (_ : Unit) => True) (fun _ t => cU D cI cO A g cap N (s_X5_decideTheDay σ) t) A) 0 0 A := by
  refine Met.ofW (cc := cX5_decideTheDay) (maxL := 4) (ret := none) (by decide) rfl ?_
  intro p e s m args below meth c s₁ B hml hv
  obtain ⟨rfl, hP, hK⟩ := hv
  have E : kE p c cX5_decideTheDay s m ([.ref (g 0 0)] : List Value).toArray wsX5_decideTheDay RX5 D cI cO := ⟨⟨B.exec, B.bytes⟩, atoms_spec (ws := wsX5_decideTheDay) B.pre, findClass_of_methodNamed B.named, hK⟩
  have hr := B.returns
  have hlocks := B.notSynchronized
  have hl := lv_entry ([.ref (g 0 0)]) (n := 4) (Nat.le_of_ble_eq_true rfl)
  rw [lg_entry_eq]
  generalize (lg_sl ([.ref (g 0 0)]) ++ List.replicate (4 - (lg_sl ([.ref (g 0 0)])).length) Slot.unset).toArray = ls at hl ⊢
  refine w_X5_decideTheDay σ hI E hml ⟨Nat.le_of_ble_eq_true rfl, Nat.le_of_ble_eq_true rfl⟩ ⟨Nat.zero_le _, Nat.zero_le _⟩ hP va_S.rf hl (fun pc H1 locs1 ls1 hd hP1 hS1 => ?_)
  exact W.vret B.exec B.bytes hr (fun t ht hW => ⟨⟨(), rfl, trivial, by rw [ht]; exact hP1, va_K.moved hW.alike hK⟩, hS1.F ht⟩) hS1.2.2 hd
def k32l2_X5_nextMinuteOfNote (σ : St) (last : Int32) : Int32 := if (σ 1 0) < (((σ 1 0) - ((σ 1 0) - (σ 1 0) / (1440 : Int32) * (1440 : Int32))) + (300 : Int32)) then (((σ 1 0) - ((σ 1 0) - (σ 1 0) / (1440 : Int32) * (1440 : Int32))) + (300 : Int32)) else (((σ 1 0) - ((σ 1 0) - (σ 1 0) / (1440 : Int32) * (1440 : Int32))) + (300 : Int32) + (1440 : Int32))
def lf_X5_nextMinuteOfNote_41 (σ : St) (last : Int32) : Nat → Nat → Int32 → Int32
  | 0, _, x3 => x3
  | n + 1, i, x3 => if (σ 54 2) ≤ (nI i) then x3 else (lf_X5_nextMinuteOfNote_41 σ last n (i + 1) (if (if (σ 22 (nI i).toNatClampNeg) = 0 then (σ 26 (nI i).toNatClampNeg) else (q_X3_arrival σ (nI i))) ≤ (σ 1 0) then x3 else (if x3 ≤ (if (σ 22 (nI i).toNatClampNeg) = 0 then (σ 26 (nI i).toNatClampNeg) else (q_X3_arrival σ (nI i))) then x3 else (if (σ 22 (nI i).toNatClampNeg) = 0 then (σ 26 (nI i).toNatClampNeg) else (q_X3_arrival σ (nI i))))))
def q_X5_nextMinuteOfNote (σ : St) (last : Int32) : Int32 := (lf_X5_nextMinuteOfNote_41 σ last 61 0 (if (k32l2_X5_nextMinuteOfNote σ last) < last then (k32l2_X5_nextMinuteOfNote σ last) else last))
set_option maxHeartbeats 1000000 in
set_option maxRecDepth 100000 in
theorem w_X5_nextMinuteOfNote {p : Program} {l : Launch} {e : Env} {R : Room} {s : State} {m : MethodId} {args : Array Value} {below : List Frame} {meth : Method} {c : Code} {H : Heap} {locs : List Loc} {cells slots : Nat} {Q : State → Prop} {D : va_G} {A : Nat → Prop} {cI cO : ClassId} {g : Gh} {cap N : Nat → Nat} {ls : Array Slot} (σ : St) (last : Int32) (hI : KI cap N σ) (E : kE p c cX5_nextMinuteOfNote s m args wsX5_nextMinuteOfNote RX5 D cI cO) (hml : c.maxLocals = 7) (hR : 3 ≤ R.frames ∧ 64 ≤ R.locals) (hf : cells ≤ R.cells ∧ slots ≤ R.slots) (hP : cP D cI cO A g cap N σ H) (hS : va_S A s.heap H locs) (hl : lv_has ls 7 [(0, .ref (g 0 0)), (1, .int last)]) (kr : ∀ (pc : Nat) (rv : Int32) (H1 : Heap) (locs1 : List Loc) (ls1 : Array Slot), decode cX5_nextMinuteOfNote pc = .ok (.ireturn, 1) → rv = q_X5_nextMinuteOfNote σ last → cP D cI cO A g cap N σ H1 → va_S A s.heap H1 locs1 → W p l e R s m args below meth c H1 locs1 cells slots Q (F0 m pc ls1 [.int rv])) : W p l e R s m args below meth c H locs cells slots Q (F0 m 0 ls []) := by
  have hx := E.1.1
  have hb := E.1.2
  have hts := E.2.1
  obtain ⟨n0, n4, n5, n6, n8, n7, n1, n2, n3⟩ := id hI.1
  have i_X3 : ∀ w ∈ wsX30, w ∈ wsX5_nextMinuteOfNote := by decide +kernel
  have i_X5 : ∀ w ∈ wsX50, w ∈ wsX5_nextMinuteOfNote := by decide +kernel
  have hq : q_X5_nextMinuteOfNote σ last = (lf_X5_nextMinuteOfNote_41 σ last 61 0 (if (k32l2_X5_nextMinuteOfNote σ last) < last then (k32l2_X5_nextMinuteOfNote σ last) else last)) := rfl
  refine lv_aload_n hx hb dX5_nextMinuteOfNote_0 rfl (lv_at hl 0 rfl) ?_
  refine cg_X5_now E i_X5 hP (by omega) (by decide +kernel) dX5_nextMinuteOfNote_1 ?_
  refine lv_aload_n hx hb dX5_nextMinuteOfNote_4 rfl (lv_at hl 0 rfl) ?_
  refine cg_X5_now E i_X5 hP (by omega) (by decide +kernel) dX5_nextMinuteOfNote_5 ?_
  refine lv_sipush (v := 1440) hx hb dX5_nextMinuteOfNote_8 (by decide) ?_
  refine lv_irem hx hb dX5_nextMinuteOfNote_11 (by decide) ?_
  refine lv_isub hx hb dX5_nextMinuteOfNote_12 ?_
  refine lv_sipush (v := 300) hx hb dX5_nextMinuteOfNote_13 (by decide) ?_
  refine lv_iadd hx hb dX5_nextMinuteOfNote_16 ?_
  refine lv_istore_n (lv' := [(2, .int (((σ 1 0) - ((σ 1 0) - (σ 1 0) / (1440 : Int32) * (1440 : Int32))) + (300 : Int32))), (0, .ref (g 0 0)), (1, .int last)]) hx hb dX5_nextMinuteOfNote_17 rfl hl (by decide) rfl (fun ls hl => ?_)
  refine lv_iload_n hx hb dX5_nextMinuteOfNote_18 rfl (lv_at hl 0 rfl) ?_
  refine lv_aload_n hx hb dX5_nextMinuteOfNote_19 rfl (lv_at hl 1 rfl) ?_
  refine cg_X5_now E i_X5 hP (by omega) (by decide +kernel) dX5_nextMinuteOfNote_20 ?_
  have J_1 : ∀ (y1_l2 : Int32) (H : Heap) (locs : List Loc) (ls : Array Slot), y1_l2 = (k32l2_X5_nextMinuteOfNote σ last) → cP D cI cO A g cap N σ H → va_S A s.heap H locs → lv_has ls 7 [(2, .int y1_l2), (0, .ref (g 0 0)), (1, .int last)] → W p l e R s m args below meth c H locs cells slots Q (F0 m 32 ls []) := by
    intro y1_l2 H locs ls e_y1_l2 hP hS hl
    subst e_y1_l2
    refine lv_iload_n hx hb dX5_nextMinuteOfNote_32 rfl (lv_at hl 2 rfl) ?_
    refine lv_iload_n hx hb dX5_nextMinuteOfNote_33 rfl (lv_at hl 0 rfl) ?_
    refine kmmin E hml hl.1 ⟨by decide +kernel, by decide +kernel, by decide +kernel, by decide +kernel⟩ (Nat.le_trans (Nat.le_of_ble_eq_true rfl) hR.1) (Nat.le_trans (Nat.le_of_ble_eq_true rfl) hR.2) hf dX5_nextMinuteOfNote_34 ?_
    refine lv_istore_n (lv' := [(3, .int (if (k32l2_X5_nextMinuteOfNote σ last) < last then (k32l2_X5_nextMinuteOfNote σ last) else last)), (2, .int (k32l2_X5_nextMinuteOfNote σ last)), (0, .ref (g 0 0)), (1, .int last)]) hx hb dX5_nextMinuteOfNote_37 rfl hl (by decide) rfl (fun ls hl => ?_)
    refine lv_iconst (v := 0) hx hb dX5_nextMinuteOfNote_38 (by decide) ?_
    refine lv_istore (lv' := [(4, .int (0 : Int32)), (3, .int (if (k32l2_X5_nextMinuteOfNote σ last) < last then (k32l2_X5_nextMinuteOfNote σ last) else last)), (2, .int (k32l2_X5_nextMinuteOfNote σ last)), (0, .ref (g 0 0)), (1, .int last)]) hx hb dX5_nextMinuteOfNote_39 hl (by decide) rfl (fun ls hl => ?_)
    obtain ⟨C, hC, eC⟩ : ∃ C : Nat, C = N 6 ∧ σ 54 2 = nI C := ⟨N 6, rfl, hI.2.1.2.2.1⟩
    have L_6 : ∀ (n : Nat) (i : Nat) (x3 : Int32) (H : Heap) (locs : List Loc) (ls : Array Slot), i + n = 61 → i ≤ C → lf_X5_nextMinuteOfNote_41 σ last n i x3 = lf_X5_nextMinuteOfNote_41 σ last 61 0 (if (k32l2_X5_nextMinuteOfNote σ last) < last then (k32l2_X5_nextMinuteOfNote σ last) else last) → cP D cI cO A g cap N σ H → va_S A s.heap H locs → lv_has ls 7 [(4, .int (nI i)), (3, .int x3), (2, .int (k32l2_X5_nextMinuteOfNote σ last)), (0, .ref (g 0 0)), (1, .int last)] → W p l e R s m args below meth c H locs cells slots Q (F0 m 41 ls []) := by
      intro n
      induction n with
      | zero => intro i x3 H locs ls hin hiC; omega
      | succ n ih =>
        intro i x3 H locs ls hin hiC hfin hP hS hl
        have hfin : (if (σ 54 2) ≤ (nI i) then x3 else (lf_X5_nextMinuteOfNote_41 σ last n (i + 1) (if (if (σ 22 (nI i).toNatClampNeg) = 0 then (σ 26 (nI i).toNatClampNeg) else (q_X3_arrival σ (nI i))) ≤ (σ 1 0) then x3 else (if x3 ≤ (if (σ 22 (nI i).toNatClampNeg) = 0 then (σ 26 (nI i).toNatClampNeg) else (q_X3_arrival σ (nI i))) then x3 else (if (σ 22 (nI i).toNatClampNeg) = 0 then (σ 26 (nI i).toNatClampNeg) else (q_X3_arrival σ (nI i))))))) = lf_X5_nextMinuteOfNote_41 σ last 61 0 (if (k32l2_X5_nextMinuteOfNote σ last) < last then (k32l2_X5_nextMinuteOfNote σ last) else last) := hfin
        refine lv_iload hx hb dX5_nextMinuteOfNote_41 (lv_at hl 0 rfl) ?_
        refine lv_aload_n hx hb dX5_nextMinuteOfNote_43 rfl (lv_at hl 3 rfl) ?_
        refine cg_X5_sailings E i_X5 hP (by omega) (by decide +kernel) dX5_nextMinuteOfNote_44 ?_
        refine kcV_i E hml hP hS (kr_1 E.2.2.2 hP ⟨by decide, by omega, fun z => absurd z (by decide)⟩) (c_AL_size l σ 2 ⟨by decide, by omega, fun z => absurd z (by decide)⟩) (cwV 0 hts gX5_nextMinuteOfNote_Jx4a65c_size_8abf5 rfl rfl rfl (by decide +kernel) ⟨Nat.le_trans (Nat.le_of_ble_eq_true rfl) hR.1, Nat.le_trans (Nat.le_of_ble_eq_true rfl) hR.2⟩) rfl hl.1 rfl (Nat.le_of_ble_eq_true rfl) dX5_nextMinuteOfNote_47 hf (fun H locs hP hS => ?_)
        refine lv_icmp_ge (tgt := 114) hx hb dX5_nextMinuteOfNote_50 (by decide) (fun c_2 => ?_) (fun c_2 => ?_)
        · have hfin := (if_pos c_2).symm.trans hfin
          subst hfin
          have hl := lv_sub hl [1, 2, 3, 4] rfl
          refine lv_iload_n hx hb dX5_nextMinuteOfNote_114 rfl (lv_at hl 0 rfl) ?_
          exact kr _ (lf_X5_nextMinuteOfNote_41 σ last 61 0 (if (k32l2_X5_nextMinuteOfNote σ last) < last then (k32l2_X5_nextMinuteOfNote σ last) else last)) H locs ls dX5_nextMinuteOfNote_115 hq.symm hP hS
        have hfin := (if_neg c_2).symm.trans hfin
        have hlt : i < C := m_lt eC c_2 (by omega) (by omega)
        refine lv_aload_n hx hb dX5_nextMinuteOfNote_53 rfl (lv_at hl 3 rfl) ?_
        refine cg_X5_sailings E i_X5 hP (by omega) (by decide +kernel) dX5_nextMinuteOfNote_54 ?_
        refine lv_iload hx hb dX5_nextMinuteOfNote_57 (lv_at hl 0 rfl) ?_
        refine kcV_r (v := g 6 (nI i).toNatClampNeg) E hml hP hS (kr_1 E.2.2.2 hP ⟨by decide, by omega, fun z => absurd z (by decide)⟩) (c_AL_get l σ 2 (nI i) ⟨by decide, by omega, fun z => absurd z (by decide)⟩ n2 (hI.2.2.2.2.2 _ (by omega)) (by rw [hI.2.1.2.2.1, nI_clamp (by omega)]; exact (vp_in_nI (n := i) (by omega) (by omega)))) (cwV 1 hts gX5_nextMinuteOfNote_Jx4a65c_get_915e3 rfl rfl rfl (by decide +kernel) ⟨Nat.le_trans (Nat.le_of_ble_eq_true rfl) hR.1, Nat.le_trans (Nat.le_of_ble_eq_true rfl) hR.2⟩) rfl hl.1 rfl (Nat.le_of_ble_eq_true rfl) dX5_nextMinuteOfNote_59 hf (fun H locs hP hS => ?_)
        refine kcast E (E.2.2.2.1 6 _ rfl).2 (kr_6 E.2.2.2 hP ⟨by decide, vp_lt (vp_in_nI (n := i) (by omega) (by omega)), fun z => absurd z (by decide)⟩) (by decide +kernel) dX5_nextMinuteOfNote_62 ?_
        refine lv_astore (lv' := [(5, .ref (g 6 (nI i).toNatClampNeg)), (4, .int (nI i)), (3, .int x3), (2, .int (k32l2_X5_nextMinuteOfNote σ last)), (0, .ref (g 0 0)), (1, .int last)]) hx hb dX5_nextMinuteOfNote_65 hl (by decide) rfl (fun ls hl => ?_)
        refine lv_aload hx hb dX5_nextMinuteOfNote_67 (lv_at hl 0 rfl) ?_
        refine cg_X3_state E i_X3 hP (vp_in_nI (n := i) (by omega) (by omega)) (by decide +kernel) dX5_nextMinuteOfNote_69 ?_
        have J_3 : ∀ (y3_t0 : Int32) (H : Heap) (locs : List Loc) (ls : Array Slot), y3_t0 = (if (σ 22 (nI i).toNatClampNeg) = 0 then (σ 26 (nI i).toNatClampNeg) else (q_X3_arrival σ (nI i))) → cP D cI cO A g cap N σ H → va_S A s.heap H locs → lv_has ls 7 [(5, .ref (g 6 (nI i).toNatClampNeg)), (4, .int (nI i)), (3, .int x3), (2, .int (k32l2_X5_nextMinuteOfNote σ last)), (0, .ref (g 0 0)), (1, .int last)] → W p l e R s m args below meth c H locs cells slots Q (F0 m 88 ls [.int y3_t0]) := by
          intro y3_t0 H locs ls e_y3_t0 hP hS hl
          subst e_y3_t0
          refine lv_istore (lv' := [(6, .int (if (σ 22 (nI i).toNatClampNeg) = 0 then (σ 26 (nI i).toNatClampNeg) else (q_X3_arrival σ (nI i)))), (5, .ref (g 6 (nI i).toNatClampNeg)), (4, .int (nI i)), (3, .int x3), (2, .int (k32l2_X5_nextMinuteOfNote σ last)), (0, .ref (g 0 0)), (1, .int last)]) hx hb dX5_nextMinuteOfNote_88 hl (by decide) rfl (fun ls hl => ?_)
          refine lv_iload hx hb dX5_nextMinuteOfNote_90 (lv_at hl 0 rfl) ?_
          refine lv_aload_n hx hb dX5_nextMinuteOfNote_92 rfl (lv_at hl 5 rfl) ?_
          refine cg_X5_now E i_X5 hP (by omega) (by decide +kernel) dX5_nextMinuteOfNote_93 ?_
          have J_4 : ∀ (y4_l3 : Int32) (H : Heap) (locs : List Loc) (ls : Array Slot), y4_l3 = (if (if (σ 22 (nI i).toNatClampNeg) = 0 then (σ 26 (nI i).toNatClampNeg) else (q_X3_arrival σ (nI i))) ≤ (σ 1 0) then x3 else (if x3 ≤ (if (σ 22 (nI i).toNatClampNeg) = 0 then (σ 26 (nI i).toNatClampNeg) else (q_X3_arrival σ (nI i))) then x3 else (if (σ 22 (nI i).toNatClampNeg) = 0 then (σ 26 (nI i).toNatClampNeg) else (q_X3_arrival σ (nI i))))) → cP D cI cO A g cap N σ H → va_S A s.heap H locs → lv_has ls 7 [(6, .int (if (σ 22 (nI i).toNatClampNeg) = 0 then (σ 26 (nI i).toNatClampNeg) else (q_X3_arrival σ (nI i)))), (5, .ref (g 6 (nI i).toNatClampNeg)), (4, .int (nI i)), (3, .int y4_l3), (2, .int (k32l2_X5_nextMinuteOfNote σ last)), (0, .ref (g 0 0)), (1, .int last)] → W p l e R s m args below meth c H locs cells slots Q (F0 m 108 ls []) := by
            intro y4_l3 H locs ls e_y4_l3 hP hS hl
            subst e_y4_l3
            refine lv_iinc (v := nI (i + 1)) (lv' := [(4, .int (nI (i + 1))), (6, .int (if (σ 22 (nI i).toNatClampNeg) = 0 then (σ 26 (nI i).toNatClampNeg) else (q_X3_arrival σ (nI i)))), (5, .ref (g 6 (nI i).toNatClampNeg)), (3, .int (if (if (σ 22 (nI i).toNatClampNeg) = 0 then (σ 26 (nI i).toNatClampNeg) else (q_X3_arrival σ (nI i))) ≤ (σ 1 0) then x3 else (if x3 ≤ (if (σ 22 (nI i).toNatClampNeg) = 0 then (σ 26 (nI i).toNatClampNeg) else (q_X3_arrival σ (nI i))) then x3 else (if (σ 22 (nI i).toNatClampNeg) = 0 then (σ 26 (nI i).toNatClampNeg) else (q_X3_arrival σ (nI i)))))), (2, .int (k32l2_X5_nextMinuteOfNote σ last)), (0, .ref (g 0 0)), (1, .int last)]) hx hb dX5_nextMinuteOfNote_108 hl (k := 2) rfl (by first | rfl | exact nI_1 _) (by decide) rfl (fun ls hl => ?_)
            refine lv_goto (tgt := 41) hx hb dX5_nextMinuteOfNote_111 (by decide) ?_
            exact ih (i + 1) (if (if (σ 22 (nI i).toNatClampNeg) = 0 then (σ 26 (nI i).toNatClampNeg) else (q_X3_arrival σ (nI i))) ≤ (σ 1 0) then x3 else (if x3 ≤ (if (σ 22 (nI i).toNatClampNeg) = 0 then (σ 26 (nI i).toNatClampNeg) else (q_X3_arrival σ (nI i))) then x3 else (if (σ 22 (nI i).toNatClampNeg) = 0 then (σ 26 (nI i).toNatClampNeg) else (q_X3_arrival σ (nI i))))) H locs ls (by omega) (by omega) hfin hP hS (lv_sub hl [0, 3, 4, 5, 6] rfl)
          refine lv_icmp_le (tgt := 108) hx hb dX5_nextMinuteOfNote_96 (by decide) (fun c_4 => ?_) (fun c_4 => ?_)
          · exact J_4 x3 H locs ls (if_pos c_4).symm hP hS (lv_sub hl [0, 1, 2, 3, 4, 5, 6] rfl)
          refine lv_iload hx hb dX5_nextMinuteOfNote_99 (lv_at hl 0 rfl) ?_
          refine lv_iload_n hx hb dX5_nextMinuteOfNote_101 rfl (lv_at hl 3 rfl) ?_
          refine lv_icmp_ge (tgt := 108) hx hb dX5_nextMinuteOfNote_102 (by decide) (fun c_5 => ?_) (fun c_5 => ?_)
          · exact J_4 x3 H locs ls ((if_pos c_5).symm.trans (if_neg c_4).symm) hP hS (lv_sub hl [0, 1, 2, 3, 4, 5, 6] rfl)
          refine lv_iload hx hb dX5_nextMinuteOfNote_105 (lv_at hl 0 rfl) ?_
          refine lv_istore_n (lv' := [(3, .int (if (σ 22 (nI i).toNatClampNeg) = 0 then (σ 26 (nI i).toNatClampNeg) else (q_X3_arrival σ (nI i)))), (6, .int (if (σ 22 (nI i).toNatClampNeg) = 0 then (σ 26 (nI i).toNatClampNeg) else (q_X3_arrival σ (nI i)))), (5, .ref (g 6 (nI i).toNatClampNeg)), (4, .int (nI i)), (2, .int (k32l2_X5_nextMinuteOfNote σ last)), (0, .ref (g 0 0)), (1, .int last)]) hx hb dX5_nextMinuteOfNote_107 rfl hl (by decide) rfl (fun ls hl => ?_)
          exact J_4 (if (σ 22 (nI i).toNatClampNeg) = 0 then (σ 26 (nI i).toNatClampNeg) else (q_X3_arrival σ (nI i))) H locs ls ((if_neg c_5).symm.trans (if_neg c_4).symm) hP hS (lv_sub hl [1, 2, 3, 0, 4, 5, 6] rfl)
        refine lv_if_ne (tgt := 83) hx hb dX5_nextMinuteOfNote_72 (by decide) (fun c_3 => ?_) (fun c_3 => ?_)
        · refine lv_aload hx hb dX5_nextMinuteOfNote_83 (lv_at hl 0 rfl) ?_
          refine kcV_i E hml hP hS (kr_6 E.2.2.2 hP ⟨by decide, vp_lt (vp_in_nI (n := i) (by omega) (by omega)), fun z => absurd z (by decide)⟩) (c_X3_arrival l σ (nI i) hI (vp_in_nI (n := i) (by omega) (by omega))) (cwV 0 hts gX5_nextMinuteOfNote_X3_arrival rfl rfl rfl (by decide +kernel) ⟨Nat.le_trans (Nat.le_of_ble_eq_true rfl) hR.1, Nat.le_trans (Nat.le_of_ble_eq_true rfl) hR.2⟩) rfl hl.1 rfl (Nat.le_of_ble_eq_true rfl) dX5_nextMinuteOfNote_85 hf (fun H locs hP hS => ?_)
          exact J_3 (q_X3_arrival σ (nI i)) H locs ls (if_neg c_3).symm hP hS (lv_sub hl [0, 1, 2, 3, 4, 5] rfl)
        refine lv_aload hx hb dX5_nextMinuteOfNote_75 (lv_at hl 0 rfl) ?_
        refine cg_X3_departure E i_X3 hP (vp_in_nI (n := i) (by omega) (by omega)) (by decide +kernel) dX5_nextMinuteOfNote_77 ?_
        refine lv_goto (tgt := 88) hx hb dX5_nextMinuteOfNote_80 (by decide) ?_
        exact J_3 (σ 26 (nI i).toNatClampNeg) H locs ls (if_pos c_3).symm hP hS (lv_sub hl [0, 1, 2, 3, 4, 5] rfl)
    exact L_6 61 0 (if (k32l2_X5_nextMinuteOfNote σ last) < last then (k32l2_X5_nextMinuteOfNote σ last) else last) H locs ls (by omega) (Nat.zero_le _) rfl hP hS (lv_sub hl [0, 1, 2, 3, 4] rfl)
  refine lv_icmp_gt (tgt := 32) hx hb dX5_nextMinuteOfNote_23 (by decide) (fun c_1 => ?_) (fun c_1 => ?_)
  · exact J_1 (((σ 1 0) - ((σ 1 0) - (σ 1 0) / (1440 : Int32) * (1440 : Int32))) + (300 : Int32)) H locs ls (if_pos c_1).symm hP hS (lv_sub hl [0, 1, 2] rfl)
  refine lv_iincW (v := ((σ 1 0) - ((σ 1 0) - (σ 1 0) / (1440 : Int32) * (1440 : Int32))) + (300 : Int32) + (1440 : Int32)) (lv' := [(2, .int (((σ 1 0) - ((σ 1 0) - (σ 1 0) / (1440 : Int32) * (1440 : Int32))) + (300 : Int32) + (1440 : Int32))), (0, .ref (g 0 0)), (1, .int last)]) hx hb dX5_nextMinuteOfNote_26 hl (k := 0) rfl rfl (by decide) rfl (fun ls hl => ?_)
  exact J_1 (((σ 1 0) - ((σ 1 0) - (σ 1 0) / (1440 : Int32) * (1440 : Int32))) + (300 : Int32) + (1440 : Int32)) H locs ls (if_neg c_1).symm hP hS (lv_sub hl [0, 1, 2] rfl)
set_option maxHeartbeats 4000000 in
set_option maxRecDepth 100000 in
theorem c_X5_nextMinuteOfNote (l : Launch) {D : va_G} {A : Nat → Prop} {cI cO : ClassId} {g : Gh} {cap N : Nat → Nat} (σ : St) (last : Int32) (hI : KI cap N σ) : Met l yX5_nextMinuteOfNote wsX5_nextMinuteOfNote ({ frames := 3, cells := 0, slots := 0, locals := 64 }) (va_Pc [.ref (g 0 0), .int last] (cU D cI cO A g cap N σ)) (va_Qi (fun r (_ : Unit) => r = q_X5_nextMinuteOfNote σ last) (fun _ t => cU D cI cO A g cap N (σ) t) A) 0 0 A := by
  refine Met.ofW (cc := cX5_nextMinuteOfNote) (maxL := 7) (ret := (some .int)) (by decide) rfl ?_
  intro p e s m args below meth c s₁ B hml hv
  obtain ⟨rfl, hP, hK⟩ := hv
  have E : kE p c cX5_nextMinuteOfNote s m ([.ref (g 0 0), .int last] : List Value).toArray wsX5_nextMinuteOfNote RX5 D cI cO := ⟨⟨B.exec, B.bytes⟩, atoms_spec (ws := wsX5_nextMinuteOfNote) B.pre, findClass_of_methodNamed B.named, hK⟩
  have hr := B.returns
  have hlocks := B.notSynchronized
  have hl := lv_entry ([.ref (g 0 0), .int last]) (n := 7) (Nat.le_of_ble_eq_true rfl)
  rw [lg_entry_eq]
  generalize (lg_sl ([.ref (g 0 0), .int last]) ++ List.replicate (7 - (lg_sl ([.ref (g 0 0), .int last])).length) Slot.unset).toArray = ls at hl ⊢
  refine w_X5_nextMinuteOfNote σ last hI E hml ⟨Nat.le_of_ble_eq_true rfl, Nat.le_of_ble_eq_true rfl⟩ ⟨Nat.zero_le _, Nat.zero_le _⟩ hP va_S.rf hl (fun pc v H1 locs1 ls1 hd hv hP1 hS1 => ?_)
  exact W.iret (v := v) B.exec B.bytes hr (fun t ht hW => ⟨⟨v, (), rfl, hv, by rw [ht]; exact hP1, va_K.moved hW.alike hK⟩, hS1.F ht⟩) hS1.2.2 hd
def k68t0_X5_fare (σ : St) (b_ : Int32) : Int32 := if (σ 37 b_.toNatClampNeg) = 0 then (((σ 38 b_.toNatClampNeg) * (σ 48 (σ 37 b_.toNatClampNeg).toNatClampNeg)) / (2 : Int32)) else ((σ 38 b_.toNatClampNeg) * (σ 48 (σ 37 b_.toNatClampNeg).toNatClampNeg))
def q_X5_fare (σ : St) (b_ : Int32) : Int32 := if (σ 35 b_.toNatClampNeg) = (1 : Int32) then (if (σ 37 b_.toNatClampNeg) < 0 then (0 : Int32) else (if (σ 37 b_.toNatClampNeg) < (3 : Int32) then (if (5000 : Int32) < (k68t0_X5_fare σ b_) then (5000 : Int32) else (k68t0_X5_fare σ b_)) else (0 : Int32))) else (if (σ 35 b_.toNatClampNeg) = (2 : Int32) then (if (σ 37 b_.toNatClampNeg) < 0 then (0 : Int32) else (if (σ 37 b_.toNatClampNeg) < (3 : Int32) then (if (5000 : Int32) < (k68t0_X5_fare σ b_) then (5000 : Int32) else (k68t0_X5_fare σ b_)) else (0 : Int32))) else (0 : Int32))
set_option maxHeartbeats 1000000 in
set_option maxRecDepth 100000 in
theorem w_X5_fare {p : Program} {l : Launch} {e : Env} {R : Room} {s : State} {m : MethodId} {args : Array Value} {below : List Frame} {meth : Method} {c : Code} {H : Heap} {locs : List Loc} {cells slots : Nat} {Q : State → Prop} {D : va_G} {A : Nat → Prop} {cI cO : ClassId} {g : Gh} {cap N : Nat → Nat} {ls : Array Slot} (σ : St) (b_ : Int32) (hI : KI cap N σ) (h_b_ : vp_in b_ (N 8)) (E : kE p c cX5_fare s m args wsX5_fare RX5 D cI cO) (hml : c.maxLocals = 3) (hR : 1 ≤ R.frames ∧ 13 ≤ R.locals) (hf : cells ≤ R.cells ∧ slots ≤ R.slots) (hP : cP D cI cO A g cap N σ H) (hS : va_S A s.heap H locs) (hl : lv_has ls 3 [(0, .ref (g 0 0)), (1, .ref (g 8 b_.toNatClampNeg))]) (kr : ∀ (pc : Nat) (rv : Int32) (H1 : Heap) (locs1 : List Loc) (ls1 : Array Slot), decode cX5_fare pc = .ok (.ireturn, 1) → rv = q_X5_fare σ b_ → cP D cI cO A g cap N σ H1 → va_S A s.heap H1 locs1 → W p l e R s m args below meth c H1 locs1 cells slots Q (F0 m pc ls1 [.int rv])) : W p l e R s m args below meth c H locs cells slots Q (F0 m 0 ls []) := by
  have hx := E.1.1
  have hb := E.1.2
  have hts := E.2.1
  obtain ⟨n0, n4, n5, n6, n8, n7, n1, n2, n3⟩ := id hI.1
  have i_X1 : ∀ w ∈ wsX10, w ∈ wsX5_fare := by decide +kernel
  have i_X5 : ∀ w ∈ wsX50, w ∈ wsX5_fare := by decide +kernel
  have hq : q_X5_fare σ b_ = if (σ 35 b_.toNatClampNeg) = (1 : Int32) then (if (σ 37 b_.toNatClampNeg) < 0 then (0 : Int32) else (if (σ 37 b_.toNatClampNeg) < (3 : Int32) then (if (5000 : Int32) < (k68t0_X5_fare σ b_) then (5000 : Int32) else (k68t0_X5_fare σ b_)) else (0 : Int32))) else (if (σ 35 b_.toNatClampNeg) = (2 : Int32) then (if (σ 37 b_.toNatClampNeg) < 0 then (0 : Int32) else (if (σ 37 b_.toNatClampNeg) < (3 : Int32) then (if (5000 : Int32) < (k68t0_X5_fare σ b_) then (5000 : Int32) else (k68t0_X5_fare σ b_)) else (0 : Int32))) else (0 : Int32)) := rfl
  refine lv_aload_n hx hb dX5_fare_0 rfl (lv_at hl 1 rfl) ?_
  refine cg_X1_state E i_X1 hP h_b_ (by decide +kernel) dX5_fare_1 ?_
  refine lv_iconst (v := 1) hx hb dX5_fare_4 (by decide) ?_
  refine lv_icmp_eq (tgt := 18) hx hb dX5_fare_5 (by decide) (fun c_1 => ?_) (fun c_1 => ?_)
  · have hq := hq.trans (if_pos c_1)
    refine lv_aload_n hx hb dX5_fare_18 rfl (lv_at hl 1 rfl) ?_
    refine cg_X1_kind E i_X1 hP h_b_ (by decide +kernel) dX5_fare_19 ?_
    refine lv_if_lt (tgt := 37) hx hb dX5_fare_22 (by decide) (fun c_2 => ?_) (fun c_2 => ?_)
    · have hq := hq.trans (if_pos c_2)
      refine lv_iconst (v := 0) hx hb dX5_fare_37 (by decide) ?_
      exact kr _ (0 : Int32) H locs ls dX5_fare_38 hq.symm hP hS
    have hq := hq.trans (if_neg c_2)
    refine lv_aload_n hx hb dX5_fare_25 rfl (lv_at hl 1 rfl) ?_
    refine cg_X1_kind E i_X1 hP h_b_ (by decide +kernel) dX5_fare_26 ?_
    refine lv_aload_n hx hb dX5_fare_29 rfl (lv_at hl 0 rfl) ?_
    refine cg_X5_rates E i_X5 hP (by omega) (by decide +kernel) dX5_fare_30 ?_
    refine kg_rates_len E hP n3 dX5_fare_33 ?_
    refine lv_icmp_lt (tgt := 39) hx hb dX5_fare_34 (by decide) (fun c_3 => ?_) (fun c_3 => ?_)
    · have hq := hq.trans (if_pos c_3)
      refine lv_aload_n hx hb dX5_fare_39 rfl (lv_at hl 1 rfl) ?_
      refine cg_X1_length E i_X1 hP h_b_ (by decide +kernel) dX5_fare_40 ?_
      refine lv_aload_n hx hb dX5_fare_43 rfl (lv_at hl 0 rfl) ?_
      refine cg_X5_rates E i_X5 hP (by omega) (by decide +kernel) dX5_fare_44 ?_
      refine lv_aload_n hx hb dX5_fare_47 rfl (lv_at hl 1 rfl) ?_
      refine cg_X1_kind E i_X1 hP h_b_ (by decide +kernel) dX5_fare_48 ?_
      refine kg_rates_ld E hP n3 (in3 (by assumption) (by assumption)) dX5_fare_51 ?_
      refine lv_imul hx hb dX5_fare_52 ?_
      refine lv_istore_n (lv' := [(2, .int ((σ 38 b_.toNatClampNeg) * (σ 48 (σ 37 b_.toNatClampNeg).toNatClampNeg))), (0, .ref (g 0 0)), (1, .ref (g 8 b_.toNatClampNeg))]) hx hb dX5_fare_53 rfl hl (by decide) rfl (fun ls hl => ?_)
      refine lv_aload_n hx hb dX5_fare_54 rfl (lv_at hl 2 rfl) ?_
      refine cg_X1_kind E i_X1 hP h_b_ (by decide +kernel) dX5_fare_55 ?_
      have J_4 : ∀ (y4_t0 : Int32) (H : Heap) (locs : List Loc) (ls : Array Slot), y4_t0 = (k68t0_X5_fare σ b_) → cP D cI cO A g cap N σ H → va_S A s.heap H locs → lv_has ls 3 [(2, .int ((σ 38 b_.toNatClampNeg) * (σ 48 (σ 37 b_.toNatClampNeg).toNatClampNeg))), (0, .ref (g 0 0)), (1, .ref (g 8 b_.toNatClampNeg))] → W p l e R s m args below meth c H locs cells slots Q (F0 m 68 ls [.int y4_t0]) := by
        intro y4_t0 H locs ls e_y4_t0 hP hS hl
        subst e_y4_t0
        refine lv_sipush (v := 5000) hx hb dX5_fare_68 (by decide) ?_
        refine kmmin E hml hl.1 ⟨by decide +kernel, by decide +kernel, by decide +kernel, by decide +kernel⟩ (Nat.le_trans (Nat.le_of_ble_eq_true rfl) hR.1) (Nat.le_trans (Nat.le_of_ble_eq_true rfl) hR.2) hf dX5_fare_71 ?_
        exact kr _ (if (5000 : Int32) < (k68t0_X5_fare σ b_) then (5000 : Int32) else (k68t0_X5_fare σ b_)) H locs ls dX5_fare_74 hq.symm hP hS
      refine lv_if_ne (tgt := 67) hx hb dX5_fare_58 (by decide) (fun c_4 => ?_) (fun c_4 => ?_)
      · refine lv_iload_n hx hb dX5_fare_67 rfl (lv_at hl 0 rfl) ?_
        exact J_4 ((σ 38 b_.toNatClampNeg) * (σ 48 (σ 37 b_.toNatClampNeg).toNatClampNeg)) H locs ls (if_neg c_4).symm hP hS (lv_sub hl [0, 1, 2] rfl)
      refine lv_iload_n hx hb dX5_fare_61 rfl (lv_at hl 0 rfl) ?_
      refine lv_iconst (v := 2) hx hb dX5_fare_62 (by decide) ?_
      refine lv_idiv hx hb dX5_fare_63 (by decide) ?_
      refine lv_goto (tgt := 68) hx hb dX5_fare_64 (by decide) ?_
      exact J_4 (((σ 38 b_.toNatClampNeg) * (σ 48 (σ 37 b_.toNatClampNeg).toNatClampNeg)) / (2 : Int32)) H locs ls (if_pos c_4).symm hP hS (lv_sub hl [0, 1, 2] rfl)
    have hq := hq.trans (if_neg c_3)
    refine lv_iconst (v := 0) hx hb dX5_fare_37 (by decide) ?_
    exact kr _ (0 : Int32) H locs ls dX5_fare_38 hq.symm hP hS
  have hq := hq.trans (if_neg c_1)
  refine lv_aload_n hx hb dX5_fare_8 rfl (lv_at hl 1 rfl) ?_
  refine cg_X1_state E i_X1 hP h_b_ (by decide +kernel) dX5_fare_9 ?_
  refine lv_iconst (v := 2) hx hb dX5_fare_12 (by decide) ?_
  refine lv_icmp_eq (tgt := 18) hx hb dX5_fare_13 (by decide) (fun c_5 => ?_) (fun c_5 => ?_)
  · have hq := hq.trans (if_pos c_5)
    refine lv_aload_n hx hb dX5_fare_18 rfl (lv_at hl 1 rfl) ?_
    refine cg_X1_kind E i_X1 hP h_b_ (by decide +kernel) dX5_fare_19 ?_
    refine lv_if_lt (tgt := 37) hx hb dX5_fare_22 (by decide) (fun c_6 => ?_) (fun c_6 => ?_)
    · have hq := hq.trans (if_pos c_6)
      refine lv_iconst (v := 0) hx hb dX5_fare_37 (by decide) ?_
      exact kr _ (0 : Int32) H locs ls dX5_fare_38 hq.symm hP hS
    have hq := hq.trans (if_neg c_6)
    refine lv_aload_n hx hb dX5_fare_25 rfl (lv_at hl 1 rfl) ?_
    refine cg_X1_kind E i_X1 hP h_b_ (by decide +kernel) dX5_fare_26 ?_
    refine lv_aload_n hx hb dX5_fare_29 rfl (lv_at hl 0 rfl) ?_
    refine cg_X5_rates E i_X5 hP (by omega) (by decide +kernel) dX5_fare_30 ?_
    refine kg_rates_len E hP n3 dX5_fare_33 ?_
    refine lv_icmp_lt (tgt := 39) hx hb dX5_fare_34 (by decide) (fun c_7 => ?_) (fun c_7 => ?_)
    · have hq := hq.trans (if_pos c_7)
      refine lv_aload_n hx hb dX5_fare_39 rfl (lv_at hl 1 rfl) ?_
      refine cg_X1_length E i_X1 hP h_b_ (by decide +kernel) dX5_fare_40 ?_
      refine lv_aload_n hx hb dX5_fare_43 rfl (lv_at hl 0 rfl) ?_
      refine cg_X5_rates E i_X5 hP (by omega) (by decide +kernel) dX5_fare_44 ?_
      refine lv_aload_n hx hb dX5_fare_47 rfl (lv_at hl 1 rfl) ?_
      refine cg_X1_kind E i_X1 hP h_b_ (by decide +kernel) dX5_fare_48 ?_
      refine kg_rates_ld E hP n3 (in3 (by assumption) (by assumption)) dX5_fare_51 ?_
      refine lv_imul hx hb dX5_fare_52 ?_
      refine lv_istore_n (lv' := [(2, .int ((σ 38 b_.toNatClampNeg) * (σ 48 (σ 37 b_.toNatClampNeg).toNatClampNeg))), (0, .ref (g 0 0)), (1, .ref (g 8 b_.toNatClampNeg))]) hx hb dX5_fare_53 rfl hl (by decide) rfl (fun ls hl => ?_)
      refine lv_aload_n hx hb dX5_fare_54 rfl (lv_at hl 2 rfl) ?_
      refine cg_X1_kind E i_X1 hP h_b_ (by decide +kernel) dX5_fare_55 ?_
      have J_8 : ∀ (y8_t0 : Int32) (H : Heap) (locs : List Loc) (ls : Array Slot), y8_t0 = (k68t0_X5_fare σ b_) → cP D cI cO A g cap N σ H → va_S A s.heap H locs → lv_has ls 3 [(2, .int ((σ 38 b_.toNatClampNeg) * (σ 48 (σ 37 b_.toNatClampNeg).toNatClampNeg))), (0, .ref (g 0 0)), (1, .ref (g 8 b_.toNatClampNeg))] → W p l e R s m args below meth c H locs cells slots Q (F0 m 68 ls [.int y8_t0]) := by
        intro y8_t0 H locs ls e_y8_t0 hP hS hl
        subst e_y8_t0
        refine lv_sipush (v := 5000) hx hb dX5_fare_68 (by decide) ?_
        refine kmmin E hml hl.1 ⟨by decide +kernel, by decide +kernel, by decide +kernel, by decide +kernel⟩ (Nat.le_trans (Nat.le_of_ble_eq_true rfl) hR.1) (Nat.le_trans (Nat.le_of_ble_eq_true rfl) hR.2) hf dX5_fare_71 ?_
        exact kr _ (if (5000 : Int32) < (k68t0_X5_fare σ b_) then (5000 : Int32) else (k68t0_X5_fare σ b_)) H locs ls dX5_fare_74 hq.symm hP hS
      refine lv_if_ne (tgt := 67) hx hb dX5_fare_58 (by decide) (fun c_8 => ?_) (fun c_8 => ?_)
      · refine lv_iload_n hx hb dX5_fare_67 rfl (lv_at hl 0 rfl) ?_
        exact J_8 ((σ 38 b_.toNatClampNeg) * (σ 48 (σ 37 b_.toNatClampNeg).toNatClampNeg)) H locs ls (if_neg c_8).symm hP hS (lv_sub hl [0, 1, 2] rfl)
      refine lv_iload_n hx hb dX5_fare_61 rfl (lv_at hl 0 rfl) ?_
      refine lv_iconst (v := 2) hx hb dX5_fare_62 (by decide) ?_
      refine lv_idiv hx hb dX5_fare_63 (by decide) ?_
      refine lv_goto (tgt := 68) hx hb dX5_fare_64 (by decide) ?_
      exact J_8 (((σ 38 b_.toNatClampNeg) * (σ 48 (σ 37 b_.toNatClampNeg).toNatClampNeg)) / (2 : Int32)) H locs ls (if_pos c_8).symm hP hS (lv_sub hl [0, 1, 2] rfl)
    have hq := hq.trans (if_neg c_7)
    refine lv_iconst (v := 0) hx hb dX5_fare_37 (by decide) ?_
    exact kr _ (0 : Int32) H locs ls dX5_fare_38 hq.symm hP hS
  have hq := hq.trans (if_neg c_5)
  refine lv_iconst (v := 0) hx hb dX5_fare_16 (by decide) ?_
  exact kr _ (0 : Int32) H locs ls dX5_fare_17 hq.symm hP hS
set_option maxHeartbeats 4000000 in
set_option maxRecDepth 100000 in
theorem c_X5_fare (l : Launch) {D : va_G} {A : Nat → Prop} {cI cO : ClassId} {g : Gh} {cap N : Nat → Nat} (σ : St) (b_ : Int32) (hI : KI cap N σ) (h_b_ : vp_in b_ (N 8)) : Met l yX5_fare wsX5_fare ({ frames := 1, cells := 0, slots := 0, locals := 13 }) (va_Pc [.ref (g 0 0), .ref (g 8 b_.toNatClampNeg)] (cU D cI cO A g cap N σ)) (va_Qi (fun r (_ : Unit) => r = q_X5_fare σ b_) (fun _ t => cU D cI cO A g cap N (σ) t) A) 0 0 A := by
  refine Met.ofW (cc := cX5_fare) (maxL := 3) (ret := (some .int)) (by decide) rfl ?_
  intro p e s m args below meth c s₁ B hml hv
  obtain ⟨rfl, hP, hK⟩ := hv
  have E : kE p c cX5_fare s m ([.ref (g 0 0), .ref (g 8 b_.toNatClampNeg)] : List Value).toArray wsX5_fare RX5 D cI cO := ⟨⟨B.exec, B.bytes⟩, atoms_spec (ws := wsX5_fare) B.pre, findClass_of_methodNamed B.named, hK⟩
  have hr := B.returns
  have hlocks := B.notSynchronized
  have hl := lv_entry ([.ref (g 0 0), .ref (g 8 b_.toNatClampNeg)]) (n := 3) (Nat.le_of_ble_eq_true rfl)
  rw [lg_entry_eq]
  generalize (lg_sl ([.ref (g 0 0), .ref (g 8 b_.toNatClampNeg)]) ++ List.replicate (3 - (lg_sl ([.ref (g 0 0), .ref (g 8 b_.toNatClampNeg)])).length) Slot.unset).toArray = ls at hl ⊢
  refine w_X5_fare σ b_ hI h_b_ E hml ⟨Nat.le_of_ble_eq_true rfl, Nat.le_of_ble_eq_true rfl⟩ ⟨Nat.zero_le _, Nat.zero_le _⟩ hP va_S.rf hl (fun pc v H1 locs1 ls1 hd hv hP1 hS1 => ?_)
  exact W.iret (v := v) B.exec B.bytes hr (fun t ht hW => ⟨⟨v, (), rfl, hv, by rw [ht]; exact hP1, va_K.moved hW.alike hK⟩, hS1.F ht⟩) hS1.2.2 hd
