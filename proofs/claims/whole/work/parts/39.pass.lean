/-! minutes pass -/
theorem PZ_arr {N : Nat → Nat} {τ : St} {v : Int32} {P : Prop} {hd : Decidable P} : PZ N τ (if P then s_X5_decideTheDay (s_X5_letArrive (st τ 1 0 v)) else s_X5_letArrive (st τ 1 0 v)) := PZ_if (PZ_decide (PZ_letArrive (PZ_o (by decide) PZ_rf))) (PZ_letArrive (PZ_o (by decide) PZ_rf))
theorem PZ_dep {cap N : Nat → Nat} {X : St} (hI : KI cap N X) : PZ N X (s_X5_letDepart X) := PZ_lfD 61 0 X X (by omega) hI.1.2.2.2.1 hI.2.1.2.2.1 PZ_rf
theorem PZ_dep2 {N : Nat → Nat} {X : St} (h6 : N 6 ≤ 60) (h2 : X 54 2 = nI (N 6)) : PZ N X (s_X5_letDepart X) := PZ_lfD 61 0 X X (by omega) h6 h2 PZ_rf
def lf_X5_pass_17 (σ : St) (minutes : Int32) : Nat → Nat → St → St
  | 0, _, τ => τ
  | n + 1, i, τ => if minutes ≤ (nI i) then τ else (if ((σ 1 0) + minutes) ≤ (τ 1 0) then τ else (lf_X5_pass_17 σ minutes n (i + 1) (s_X5_letDepart (if (((s_X5_letArrive (st τ 1 0 (q_X5_nextMinuteOfNote τ ((σ 1 0) + minutes)))) 1 0) - ((s_X5_letArrive (st τ 1 0 (q_X5_nextMinuteOfNote τ ((σ 1 0) + minutes)))) 1 0) / (1440 : Int32) * (1440 : Int32)) = (300 : Int32) then (s_X5_decideTheDay (s_X5_letArrive (st τ 1 0 (q_X5_nextMinuteOfNote τ ((σ 1 0) + minutes))))) else (s_X5_letArrive (st τ 1 0 (q_X5_nextMinuteOfNote τ ((σ 1 0) + minutes))))))))
def q_X5_pass (σ : St) (minutes : Int32) : Int32 := (lf_X5_pass_17 σ minutes 1501 0 σ) 1 0
def s_X5_pass (σ : St) (minutes : Int32) : St := (lf_X5_pass_17 σ minutes 1501 0 σ)
theorem PZ_lfP {N : Nat → Nat} {σ : St} {minutes : Int32} : ∀ (n i : Nat) (a τ : St), (N 6 ≤ 60) → τ 54 2 = nI (N 6) → PZ N a τ → PZ N a (lf_X5_pass_17 σ minutes n i τ) := by
  intro n
  induction n with
  | zero => intro i a τ _ _ h; exact h
  | succ n ih =>
    intro i a τ h6 h2 h
    show PZ N a (if _ then τ else (if _ then τ else lf_X5_pass_17 σ minutes n (i + 1) (s_X5_letDepart _)))
    have hX := PZ_arr (N := N) (τ := τ) (v := q_X5_nextMinuteOfNote τ ((σ 1 0) + minutes)) (P := (s_X5_letArrive (st τ 1 0 (q_X5_nextMinuteOfNote τ ((σ 1 0) + minutes)))) 1 0 - (s_X5_letArrive (st τ 1 0 (q_X5_nextMinuteOfNote τ ((σ 1 0) + minutes)))) 1 0 / (1440 : Int32) * (1440 : Int32) = (300 : Int32)) (hd := inferInstance)
    have hD := PZ_dep2 h6 (hX.2.2.trans h2)
    exact PZ_if h (PZ_if h (ih _ _ _ h6 (hD.2.2.trans (hX.2.2.trans h2)) (PZ_tr h (PZ_tr hX hD))))
set_option maxHeartbeats 1000000 in
set_option maxRecDepth 100000 in
theorem w_X5_pass {p : Program} {l : Launch} {e : Env} {R : Room} {s : State} {m : MethodId} {args : Array Value} {below : List Frame} {meth : Method} {c : Code} {H : Heap} {locs : List Loc} {Q : State → Prop} {D : va_G} {A : Nat → Prop} {cI cO : ClassId} {aE : Nat} {g : Gh} {N : Nat → Nat} {ls : Array Slot} (σ : St) (minutes : Int32) (hZ : KPz N σ) (hmin : ¬ minutes < (1 : Int32) ∧ minutes ≤ (1500 : Int32)) (E : kE p c cX5_pass s m args wsX5_pass RX5 D cI cO) (hml : c.maxLocals = 4) (hR : 10 ≤ R.frames ∧ 285 ≤ R.locals) (hfm : 1 + 2 * (cn8 N (s_X5_pass σ minutes) - cn8 N σ) ≤ R.cells ∧ 6 + 300 * (cn8 N (s_X5_pass σ minutes) - cn8 N σ) ≤ R.slots) (hY : cY A aE cO s) (hP : cG D cI cO A aE g N σ H) (hS : va_S A s.heap H locs) (hl : lv_has ls 4 [(0, .ref (g 0 0)), (1, .int minutes)]) (kr : ∀ (pc : Nat) (rv : Int32) (H1 : Heap) (locs1 : List Loc) (ls1 : Array Slot), decode cX5_pass pc = .ok (.ireturn, 1) → rv = q_X5_pass σ minutes → cG D cI cO A aE g N (s_X5_pass σ minutes) H1 → va_S A s.heap H1 locs1 → W p l e R s m args below meth c H1 locs1 (1 + 2 * (cn8 N (s_X5_pass σ minutes) - cn8 N σ)) (6 + 300 * (cn8 N (s_X5_pass σ minutes) - cn8 N σ)) Q (F0 m pc ls1 [.int rv])) : W p l e R s m args below meth c H locs (0 + 1) (0 + 6) Q (F0 m 8 ls []) := by
  have hx := E.1.1
  have hb := E.1.2
  have hts := E.2.1
  obtain ⟨ga, cap, hG, hI, hP⟩ := hP
  have hf : 0 + 1 ≤ R.cells ∧ 0 + 6 ≤ R.slots := ⟨by omega, by omega⟩
  obtain ⟨n0, n4, n5, n6, n8, n7, n1, n2, n3⟩ := id hI.1
  have nz : 0 < N 0 := by omega
  have nq0 : 0 < N 1 := by omega
  have nq1 : 1 < N 1 := by omega
  have nq2 : 2 < N 1 := by omega
  have nq3 : 3 < N 1 := by omega
  have i_X5 : ∀ w ∈ wsX50, w ∈ wsX5_pass := by decide +kernel
  have hq : q_X5_pass σ minutes = (lf_X5_pass_17 σ minutes 1501 0 σ) 1 0 := rfl
  have hs : s_X5_pass σ minutes = (lf_X5_pass_17 σ minutes 1501 0 σ) := rfl
  refine lv_aload_n hx hb dX5_pass_8 rfl (lv_at hl 0 rfl) ?_
  refine cg_X5_now (g := gw g ga) E i_X5 hP nz (by decide +kernel) dX5_pass_9 ?_
  refine lv_iload_n hx hb dX5_pass_12 rfl (lv_at hl 1 rfl) ?_
  refine lv_iadd hx hb dX5_pass_13 ?_
  refine lv_istore_n (lv' := [(2, .int ((σ 1 0) + minutes)), (0, .ref (g 0 0)), (1, .int minutes)]) hx hb dX5_pass_14 rfl hl (by decide) rfl (fun ls hl => ?_)
  refine lv_iconst (v := 0) hx hb dX5_pass_15 (by decide) ?_
  refine lv_istore_n (lv' := [(3, .int (0 : Int32)), (2, .int ((σ 1 0) + minutes)), (0, .ref (g 0 0)), (1, .int minutes)]) hx hb dX5_pass_16 rfl hl (by decide) rfl (fun ls hl => ?_)
  obtain ⟨C, hC, eC⟩ := nI_of2 (x := minutes) (M := 1500) (n := 1500) (by decide) (fun z => hmin.1 (Int32.lt_trans z (by decide))) hmin.2
  have L_5 : ∀ (n : Nat) (i : Nat) (τ : St) (H : Heap) (locs : List Loc) (ls : Array Slot), i + n = 1501 → i ≤ C → lf_X5_pass_17 σ minutes n i τ = lf_X5_pass_17 σ minutes 1501 0 σ → KPz N τ ∧ cn8 N σ ≤ cn8 N τ → cG D cI cO A aE g N τ H → va_S A s.heap H locs → lv_has ls 4 [(3, .int (nI i)), (2, .int ((σ 1 0) + minutes)), (0, .ref (g 0 0)), (1, .int minutes)] → W p l e R s m args below meth c H locs (1 + 2 * (cn8 N τ - cn8 N σ)) (6 + 300 * (cn8 N τ - cn8 N σ)) Q (F0 m 17 ls []) := by
    intro n
    induction n with
    | zero => intro i τ H locs ls hin hiC; omega
    | succ n ih =>
      intro i τ H locs ls hin hiC hfin hv hP hS hl
      obtain ⟨ga, cap, hG, hIτ, hP⟩ := hP
      have eC6 := hIτ.2.1.2.2.1
      have hmf : cn8 N τ ≤ cn8 N (lf_X5_pass_17 σ minutes 1501 0 σ) := by rw [← hfin]; exact (PZ_lfP (n + 1) i τ τ n6 eC6 PZ_rf).1
      have h9 := hfm
      rw [hs] at h9
      have hf : 1 + 2 * (cn8 N τ - cn8 N σ) ≤ R.cells ∧ 6 + 300 * (cn8 N τ - cn8 N σ) ≤ R.slots := ⟨by omega, by omega⟩
      have hfin : (if minutes ≤ (nI i) then τ else (if ((σ 1 0) + minutes) ≤ (τ 1 0) then τ else (lf_X5_pass_17 σ minutes n (i + 1) (s_X5_letDepart (if (((s_X5_letArrive (st τ 1 0 (q_X5_nextMinuteOfNote τ ((σ 1 0) + minutes)))) 1 0) - ((s_X5_letArrive (st τ 1 0 (q_X5_nextMinuteOfNote τ ((σ 1 0) + minutes)))) 1 0) / (1440 : Int32) * (1440 : Int32)) = (300 : Int32) then (s_X5_decideTheDay (s_X5_letArrive (st τ 1 0 (q_X5_nextMinuteOfNote τ ((σ 1 0) + minutes))))) else (s_X5_letArrive (st τ 1 0 (q_X5_nextMinuteOfNote τ ((σ 1 0) + minutes))))))))) = lf_X5_pass_17 σ minutes 1501 0 σ := hfin
      refine lv_iload_n hx hb dX5_pass_17 rfl (lv_at hl 0 rfl) ?_
      refine lv_iload_n hx hb dX5_pass_18 rfl (lv_at hl 3 rfl) ?_
      refine lv_icmp_ge (tgt := 71) hx hb dX5_pass_19 (by decide) (fun c_1 => ?_) (fun c_1 => ?_)
      · have hfin := (if_pos c_1).symm.trans hfin
        subst hfin
        have hKR5 := hIτ
        have hl := lv_sub hl [1, 2, 3] rfl
        refine lv_aload_n hx hb dX5_pass_71 rfl (lv_at hl 1 rfl) ?_
        refine cg_X5_now (g := gw g ga) E i_X5 hP nz (by decide +kernel) dX5_pass_72 ?_
        exact W.widen (k := 1 + 2 * (cn8 N (s_X5_pass σ minutes) - cn8 N σ)) (n := 6 + 300 * (cn8 N (s_X5_pass σ minutes) - cn8 N σ)) (Nat.le_of_eq (by rw [hs])) (Nat.le_of_eq (by rw [hs])) (kr _ ((lf_X5_pass_17 σ minutes 1501 0 σ) 1 0) H locs ls dX5_pass_75 hq.symm (by rw [hs]; exact ⟨ga, cap, hG, hKR5, hP⟩) hS)
      have hfin := (if_neg c_1).symm.trans hfin
      have hlt : i < C := m_lt eC c_1 (by omega) (by omega)
      refine lv_aload_n hx hb dX5_pass_22 rfl (lv_at hl 2 rfl) ?_
      refine cg_X5_now (g := gw g ga) E i_X5 hP nz (by decide +kernel) dX5_pass_23 ?_
      refine lv_iload_n hx hb dX5_pass_26 rfl (lv_at hl 1 rfl) ?_
      refine lv_icmp_ge (tgt := 71) hx hb dX5_pass_27 (by decide) (fun c_2 => ?_) (fun c_2 => ?_)
      · have hfin := (if_pos c_2).symm.trans hfin
        subst hfin
        have hKR5 := hIτ
        have hl := lv_sub hl [1, 2, 3] rfl
        refine lv_aload_n hx hb dX5_pass_71 rfl (lv_at hl 1 rfl) ?_
        refine cg_X5_now (g := gw g ga) E i_X5 hP nz (by decide +kernel) dX5_pass_72 ?_
        exact W.widen (k := 1 + 2 * (cn8 N (s_X5_pass σ minutes) - cn8 N σ)) (n := 6 + 300 * (cn8 N (s_X5_pass σ minutes) - cn8 N σ)) (Nat.le_of_eq (by rw [hs])) (Nat.le_of_eq (by rw [hs])) (kr _ ((lf_X5_pass_17 σ minutes 1501 0 σ) 1 0) H locs ls dX5_pass_75 hq.symm (by rw [hs]; exact ⟨ga, cap, hG, hKR5, hP⟩) hS)
      have hfin := (if_neg c_2).symm.trans hfin
      refine lv_aload_n hx hb dX5_pass_30 rfl (lv_at hl 2 rfl) ?_
      refine lv_aload_n hx hb dX5_pass_31 rfl (lv_at hl 2 rfl) ?_
      refine lv_iload_n hx hb dX5_pass_32 rfl (lv_at hl 1 rfl) ?_
      refine kcV_i E hml hP hS (kr_0 E.2.2.2 hP ⟨by decide, nz, fun z => absurd z (by decide)⟩) (c_X5_nextMinuteOfNote l τ ((σ 1 0) + minutes) hIτ) (cwV 1 hts gX5_pass_X5_nextMinuteOfNote rfl rfl rfl (by decide +kernel) ⟨Nat.le_trans (Nat.le_of_ble_eq_true rfl) hR.1, Nat.le_trans (Nat.le_of_ble_eq_true rfl) hR.2⟩) rfl hl.1 rfl (Nat.le_of_ble_eq_true rfl) dX5_pass_33 hf (fun H locs hP hS => ?_)
      refine cp_X5_now (g := gw g ga) E i_X5 hP hS nz (by decide +kernel) dX5_pass_36 (fun H locs hP hS => ?_)
      refine lv_aload_n hx hb dX5_pass_39 rfl (lv_at hl 2 rfl) ?_
      refine kcV_v E hml hP hS (kr_0 E.2.2.2 hP ⟨by decide, nz, fun z => absurd z (by decide)⟩) (c_X5_letArrive l (st τ 1 0 (q_X5_nextMinuteOfNote τ ((σ 1 0) + minutes))) (KI_o hIτ (by decide))) (cwV 0 hts gX5_pass_X5_letArrive rfl rfl rfl (by decide +kernel) ⟨Nat.le_trans (Nat.le_of_ble_eq_true rfl) hR.1, Nat.le_trans (Nat.le_of_ble_eq_true rfl) hR.2⟩) rfl hl.1 rfl (Nat.le_of_ble_eq_true rfl) dX5_pass_40 hf (fun H locs hP hS => ?_)
      refine lv_aload_n hx hb dX5_pass_43 rfl (lv_at hl 2 rfl) ?_
      refine cg_X5_now (g := gw g ga) E i_X5 hP nz (by decide +kernel) dX5_pass_44 ?_
      refine lv_sipush (v := 1440) hx hb dX5_pass_47 (by decide) ?_
      refine lv_irem hx hb dX5_pass_50 (by decide) ?_
      refine lv_sipush (v := 300) hx hb dX5_pass_51 (by decide) ?_
      have J_3 : ∀ (ρ3 : St) (H : Heap) (locs : List Loc) (ls : Array Slot), ρ3 = (if (((s_X5_letArrive (st τ 1 0 (q_X5_nextMinuteOfNote τ ((σ 1 0) + minutes)))) 1 0) - ((s_X5_letArrive (st τ 1 0 (q_X5_nextMinuteOfNote τ ((σ 1 0) + minutes)))) 1 0) / (1440 : Int32) * (1440 : Int32)) = (300 : Int32) then (s_X5_decideTheDay (s_X5_letArrive (st τ 1 0 (q_X5_nextMinuteOfNote τ ((σ 1 0) + minutes))))) else (s_X5_letArrive (st τ 1 0 (q_X5_nextMinuteOfNote τ ((σ 1 0) + minutes))))) → cG D cI cO A aE g N ρ3 H → va_S A s.heap H locs → lv_has ls 4 [(3, .int (nI i)), (2, .int ((σ 1 0) + minutes)), (0, .ref (g 0 0)), (1, .int minutes)] → W p l e R s m args below meth c H locs (1 + 2 * (cn8 N τ - cn8 N σ)) (6 + 300 * (cn8 N τ - cn8 N σ)) Q (F0 m 61 ls []) := by
        intro ρ3 H locs ls e_ρ3 hP hS hl
        subst e_ρ3
        obtain ⟨ga, cap, hG, hIJ3, hP⟩ := hP
        refine lv_aload_n hx hb dX5_pass_61 rfl (lv_at hl 2 rfl) ?_
        have hX : PZ N τ (if (((s_X5_letArrive (st τ 1 0 (q_X5_nextMinuteOfNote τ ((σ 1 0) + minutes)))) 1 0) - ((s_X5_letArrive (st τ 1 0 (q_X5_nextMinuteOfNote τ ((σ 1 0) + minutes)))) 1 0) / (1440 : Int32) * (1440 : Int32)) = (300 : Int32) then (s_X5_decideTheDay (s_X5_letArrive (st τ 1 0 (q_X5_nextMinuteOfNote τ ((σ 1 0) + minutes))))) else (s_X5_letArrive (st τ 1 0 (q_X5_nextMinuteOfNote τ ((σ 1 0) + minutes))))) := PZ_arr
        have hD : PZ N (if (((s_X5_letArrive (st τ 1 0 (q_X5_nextMinuteOfNote τ ((σ 1 0) + minutes)))) 1 0) - ((s_X5_letArrive (st τ 1 0 (q_X5_nextMinuteOfNote τ ((σ 1 0) + minutes)))) 1 0) / (1440 : Int32) * (1440 : Int32)) = (300 : Int32) then (s_X5_decideTheDay (s_X5_letArrive (st τ 1 0 (q_X5_nextMinuteOfNote τ ((σ 1 0) + minutes))))) else (s_X5_letArrive (st τ 1 0 (q_X5_nextMinuteOfNote τ ((σ 1 0) + minutes))))) (s_X5_letDepart (if (((s_X5_letArrive (st τ 1 0 (q_X5_nextMinuteOfNote τ ((σ 1 0) + minutes)))) 1 0) - ((s_X5_letArrive (st τ 1 0 (q_X5_nextMinuteOfNote τ ((σ 1 0) + minutes)))) 1 0) / (1440 : Int32) * (1440 : Int32)) = (300 : Int32) then (s_X5_decideTheDay (s_X5_letArrive (st τ 1 0 (q_X5_nextMinuteOfNote τ ((σ 1 0) + minutes))))) else (s_X5_letArrive (st τ 1 0 (q_X5_nextMinuteOfNote τ ((σ 1 0) + minutes)))))) := PZ_dep hIJ3
        have hX1 := hX.1
        have hD1 := hD.1
        have hA : cn8 N (s_X5_letDepart (if (((s_X5_letArrive (st τ 1 0 (q_X5_nextMinuteOfNote τ ((σ 1 0) + minutes)))) 1 0) - ((s_X5_letArrive (st τ 1 0 (q_X5_nextMinuteOfNote τ ((σ 1 0) + minutes)))) 1 0) / (1440 : Int32) * (1440 : Int32)) = (300 : Int32) then (s_X5_decideTheDay (s_X5_letArrive (st τ 1 0 (q_X5_nextMinuteOfNote τ ((σ 1 0) + minutes))))) else (s_X5_letArrive (st τ 1 0 (q_X5_nextMinuteOfNote τ ((σ 1 0) + minutes)))))) ≤ cn8 N (lf_X5_pass_17 σ minutes 1501 0 σ) := by rw [← hfin]; exact (PZ_lfP n (i + 1) _ _ n6 (hD.2.2.trans (hX.2.2.trans eC6)) PZ_rf).1
        refine kqV_v (As := []) (rest := []) E hml hS (kr_0 E.2.2.2 hP ⟨by decide, nz, fun z => absurd z (by decide)⟩) gyBl (fun U hU hW => ⟨⟨by rw [hU]; exact ⟨ga, cap, hG, hIJ3, hP⟩, va_K.moved hW.alike E.2.2.2⟩, cY_at hY hS hU hW⟩) (c_X5_letDepart l (g := g) (if (((s_X5_letArrive (st τ 1 0 (q_X5_nextMinuteOfNote τ ((σ 1 0) + minutes)))) 1 0) - ((s_X5_letArrive (st τ 1 0 (q_X5_nextMinuteOfNote τ ((σ 1 0) + minutes)))) 1 0) / (1440 : Int32) * (1440 : Int32)) = (300 : Int32) then (s_X5_decideTheDay (s_X5_letArrive (st τ 1 0 (q_X5_nextMinuteOfNote τ ((σ 1 0) + minutes))))) else (s_X5_letArrive (st τ 1 0 (q_X5_nextMinuteOfNote τ ((σ 1 0) + minutes))))) (hX.2.1 hv.1)) (cwV 0 hts gX5_pass_X5_letDepart rfl rfl rfl (by decide +kernel) ⟨Nat.le_trans (Nat.le_of_ble_eq_true rfl) hR.1, Nat.le_trans (Nat.le_of_ble_eq_true rfl) hR.2⟩) rfl hl.1 rfl (Nat.le_of_ble_eq_true rfl) dX5_pass_62 ⟨by omega, by omega⟩ (fun u t H locs ht hvm hw hB hz hk hS => ?_)
        obtain ⟨ga, cap, hG, hIc4, hP⟩ := (show cG D cI cO A aE g N (s_X5_letDepart (if (((s_X5_letArrive (st τ 1 0 (q_X5_nextMinuteOfNote τ ((σ 1 0) + minutes)))) 1 0) - ((s_X5_letArrive (st τ 1 0 (q_X5_nextMinuteOfNote τ ((σ 1 0) + minutes)))) 1 0) / (1440 : Int32) * (1440 : Int32)) = (300 : Int32) then (s_X5_decideTheDay (s_X5_letArrive (st τ 1 0 (q_X5_nextMinuteOfNote τ ((σ 1 0) + minutes))))) else (s_X5_letArrive (st τ 1 0 (q_X5_nextMinuteOfNote τ ((σ 1 0) + minutes)))))) H by rw [← ht]; exact hB.1)
        refine lv_iinc (v := nI (i + 1)) (lv' := [(3, .int (nI (i + 1))), (2, .int ((σ 1 0) + minutes)), (0, .ref (g 0 0)), (1, .int minutes)]) hx hb dX5_pass_65 hl (k := 0) rfl (by first | rfl | exact nI_1 _) (by decide) rfl (fun ls hl => ?_)
        refine lv_goto (tgt := 17) hx hb dX5_pass_68 (by decide) ?_
        exact W.widen (k := _) (n := _) (by omega) (by omega) (ih (i + 1) (s_X5_letDepart (if (((s_X5_letArrive (st τ 1 0 (q_X5_nextMinuteOfNote τ ((σ 1 0) + minutes)))) 1 0) - ((s_X5_letArrive (st τ 1 0 (q_X5_nextMinuteOfNote τ ((σ 1 0) + minutes)))) 1 0) / (1440 : Int32) * (1440 : Int32)) = (300 : Int32) then (s_X5_decideTheDay (s_X5_letArrive (st τ 1 0 (q_X5_nextMinuteOfNote τ ((σ 1 0) + minutes))))) else (s_X5_letArrive (st τ 1 0 (q_X5_nextMinuteOfNote τ ((σ 1 0) + minutes)))))) H locs ls (by omega) (by omega) hfin ⟨hD.2.1 (hX.2.1 hv.1), Nat.le_trans hv.2 (Nat.le_trans hX.1 hD.1)⟩ ⟨ga, cap, hG, hIc4, hP⟩ hS (lv_sub hl [0, 1, 2, 3] rfl))
      refine lv_icmp_ne (tgt := 61) hx hb dX5_pass_54 (by decide) (fun c_3 => ?_) (fun c_3 => ?_)
      · exact J_3 (s_X5_letArrive (st τ 1 0 (q_X5_nextMinuteOfNote τ ((σ 1 0) + minutes)))) H locs ls (if_neg c_3).symm ⟨ga, cap, hG, (KI_s_X5_letArrive (KI_o hIτ (by decide))), hP⟩ hS (lv_sub hl [0, 1, 2, 3] rfl)
      refine lv_aload_n hx hb dX5_pass_57 rfl (lv_at hl 2 rfl) ?_
      refine kcV_v E hml hP hS (kr_0 E.2.2.2 hP ⟨by decide, nz, fun z => absurd z (by decide)⟩) (c_X5_decideTheDay l (s_X5_letArrive (st τ 1 0 (q_X5_nextMinuteOfNote τ ((σ 1 0) + minutes)))) (KI_s_X5_letArrive (KI_o hIτ (by decide)))) (cwV 0 hts gX5_pass_X5_decideTheDay rfl rfl rfl (by decide +kernel) ⟨Nat.le_trans (Nat.le_of_ble_eq_true rfl) hR.1, Nat.le_trans (Nat.le_of_ble_eq_true rfl) hR.2⟩) rfl hl.1 rfl (Nat.le_of_ble_eq_true rfl) dX5_pass_58 hf (fun H locs hP hS => ?_)
      exact J_3 (s_X5_decideTheDay (s_X5_letArrive (st τ 1 0 (q_X5_nextMinuteOfNote τ ((σ 1 0) + minutes))))) H locs ls (if_pos c_3).symm ⟨ga, cap, hG, (KI_s_X5_decideTheDay (KI_s_X5_letArrive (KI_o hIτ (by decide)))), hP⟩ hS (lv_sub hl [0, 1, 2, 3] rfl)
  exact W.widen (k := _) (n := _) (by omega) (by omega) (L_5 1501 0 σ H locs ls (by omega) (Nat.zero_le _) rfl ⟨hZ, Nat.le_refl _⟩ ⟨ga, cap, hG, hI, hP⟩ hS (lv_sub hl [0, 1, 2, 3] rfl))
def cGX (D : va_G) (cI cO : ClassId) (A : Nat → Prop) (aE : Nat) (g : Gh) (N : Nat → Nat) (τ : St) (U : State) : Prop := cGY D cI cO A aE g N τ U ∧ cX A U
theorem gxBl {D : va_G} {cI cO : ClassId} {A : Nat → Prop} {aE : Nat} {g : Gh} {N : Nat → Nat} {τ : St} {av : List Value} : FrameBlind (va_Pc av (cGX D cI cO A aE g N τ)) := fun a U g mk q => ⟨q.1, (gyBl (av := av) a U g mk ⟨q.1, q.2.1⟩).2, q.2.2.1.moved (u := U) (U := U.calling g mk a) (Vm.Alike.refl U.vm), q.2.2.2.1.moved (u := U) (U := U.calling g mk a) (Vm.Alike.refl U.vm), fun z hz => (q.2.2.2.2.1 z hz).elim fun b w => ⟨b, w.same rfl⟩, fun w hw => va_Nw.same (u := U) (U := U.calling g mk a) (xwd_on w hw) rfl (q.2.2.2.2.2.1 w hw), q.2.2.2.2.2.2⟩
set_option maxHeartbeats 4000000 in
set_option maxRecDepth 100000 in
theorem c_X5_pass (l : Launch) (hst : l.stackTraces = false) {D : va_G} {A : Nat → Prop} {cI cO : ClassId} {aE : Nat} {g : Gh} {N : Nat → Nat} (σ : St) (minutes : Int32) (hZ : KPz N σ) : vx_Met l yX5_pass wsX5_pass ({ frames := 10, cells := 1 + 2 * (cn8 N (s_X5_pass σ minutes) - cn8 N σ), slots := 6 + 300 * (cn8 N (s_X5_pass σ minutes) - cn8 N σ), locals := 285 }) (va_Pc [.ref (g 0 0), .int minutes] (cGX D cI cO A aE g N σ)) (va_Qi (fun r (_ : Unit) => r = q_X5_pass σ minutes ∧ (¬ minutes < (1 : Int32) ∧ minutes ≤ (1500 : Int32))) (fun _ t => cGU D cI cO A aE g N (s_X5_pass σ minutes) t) A) (vx_X (fun (_ : Unit) => ¬ (¬ minutes < (1 : Int32) ∧ minutes ≤ (1500 : Int32))) (fun E _ t => E = "java/lang/IllegalArgumentException" ∧ cGU D cI cO A aE g N σ t) A) (1 + 2 * (cn8 N (s_X5_pass σ minutes) - cn8 N σ)) (6 + 300 * (cn8 N (s_X5_pass σ minutes) - cn8 N σ)) A := by
  refine vx_ofW (cc := cX5_pass) (maxL := 4) (ret := (some .int)) (by decide) rfl ?_
  intro p e s m args below meth c s₁ B hml htab hv
  obtain ⟨rfl, ⟨⟨hP, hK⟩, hY⟩, hX⟩ := hv
  have E : kE p c cX5_pass s m ([.ref (g 0 0), .int minutes] : List Value).toArray wsX5_pass RX5 D cI cO := ⟨⟨B.exec, B.bytes⟩, atoms_spec (ws := wsX5_pass) B.pre, findClass_of_methodNamed B.named, hK⟩
  have hx := E.1.1
  have hb := E.1.2
  have hts := E.2.1
  have hr := B.returns
  have hlocks := B.notSynchronized
  have hS : va_S A s.heap s.heap [] := va_S.rf
  have hR : 10 ≤ ((headSpec wsX5_pass ({ frames := 10, cells := 1 + 2 * (cn8 N (s_X5_pass σ minutes) - cn8 N σ), slots := 6 + 300 * (cn8 N (s_X5_pass σ minutes) - cn8 N σ), locals := 285 })).room).frames ∧ 285 ≤ ((headSpec wsX5_pass ({ frames := 10, cells := 1 + 2 * (cn8 N (s_X5_pass σ minutes) - cn8 N σ), slots := 6 + 300 * (cn8 N (s_X5_pass σ minutes) - cn8 N σ), locals := 285 })).room).locals := ⟨Nat.le_of_ble_eq_true rfl, Nat.le_of_ble_eq_true rfl⟩
  have hfm : (1 + 2 * (cn8 N (s_X5_pass σ minutes) - cn8 N σ)) ≤ ((headSpec wsX5_pass ({ frames := 10, cells := 1 + 2 * (cn8 N (s_X5_pass σ minutes) - cn8 N σ), slots := 6 + 300 * (cn8 N (s_X5_pass σ minutes) - cn8 N σ), locals := 285 })).room).cells ∧ (6 + 300 * (cn8 N (s_X5_pass σ minutes) - cn8 N σ)) ≤ ((headSpec wsX5_pass ({ frames := 10, cells := 1 + 2 * (cn8 N (s_X5_pass σ minutes) - cn8 N σ), slots := 6 + 300 * (cn8 N (s_X5_pass σ minutes) - cn8 N σ), locals := 285 })).room).slots := ⟨Nat.le_refl _, Nat.le_refl _⟩
  have hl := lv_entry ([.ref (g 0 0), .int minutes]) (n := 4) (Nat.le_of_ble_eq_true rfl)
  rw [lg_entry_eq]
  generalize (lg_sl ([.ref (g 0 0), .int minutes]) ++ List.replicate (4 - (lg_sl ([.ref (g 0 0), .int minutes])).length) Slot.unset).toArray = ls at hl ⊢
  generalize (headSpec wsX5_pass ({ frames := 10, cells := 1 + 2 * (cn8 N (s_X5_pass σ minutes) - cn8 N σ), slots := 6 + 300 * (cn8 N (s_X5_pass σ minutes) - cn8 N σ), locals := 285 })).room = R at hR hfm ⊢
  obtain ⟨ga, cap, hG, hI, hP⟩ := hP
  refine lv_iload_n hx hb dX5_pass_0 rfl (lv_at hl 1 rfl) ?_
  refine lv_iconst (v := 1) hx hb dX5_pass_1 (by decide) ?_
  refine lv_sipush (v := 1500) hx hb dX5_pass_2 (by decide) ?_
  refine kxS (g := gw g ga) E hml hX hP hS (c_X5_needWithin l hst σ minutes (1 : Int32) (1500 : Int32)) (va_cwS 3 hts gX5_pass_X5_needWithin rfl rfl rfl (by decide +kernel) ⟨Nat.le_trans (Nat.le_of_ble_eq_true rfl) hR.1, Nat.le_trans (Nat.le_of_ble_eq_true rfl) hR.2⟩) rfl hl.1 rfl (Nat.le_of_ble_eq_true rfl) dX5_pass_5 ⟨by omega, by omega⟩ (fun c1 => ?_) (fun c1 => ?_)
  · intro q9 ce H locs hP hS hce hcv hcl
    exact vx_out (fun x hx => (htab x hx).elim) hlocks hce hcv hcl (fun t9 ht9 hW9 => ⟨(), c1, ⟨rfl, by rw [ht9]; exact ⟨ga, cap, hG, hI, hP⟩, va_K.moved hW9 hK⟩, hS.F ht9⟩) hS.2.2 (by omega) (by omega)
  intro H locs hP hS
  refine w_X5_pass σ minutes hZ c1 E hml ⟨Nat.le_trans (Nat.le_of_ble_eq_true rfl) hR.1, Nat.le_trans (Nat.le_of_ble_eq_true rfl) hR.2⟩ hfm hY ⟨ga, cap, hG, hI, hP⟩ hS hl (fun pc v H1 locs1 ls1 hd hv hP1 hS1 => ?_)
  exact vx_ret (W.iret (v := v) B.exec B.bytes hr (fun t ht hW => ⟨⟨v, (), rfl, ⟨hv, c1⟩, by rw [ht]; exact hP1, va_K.moved hW.alike hK⟩, hS1.F ht⟩) hS1.2.2 hd)
