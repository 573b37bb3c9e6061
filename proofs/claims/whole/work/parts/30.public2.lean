theorem KI_s23 {cap N : Nat → Nat} {σ : St} (h : KI cap N σ) {j : Nat} {v : Int32} (hv : vp_in v (N 5)) : KI cap N (st σ 23 j v) := by
  obtain ⟨h1, h2, h3, h4, h5, h6⟩ := h
  refine ⟨h1, h2, fun n hn => ⟨?_, (h3 n hn).2⟩, h4, h5, fun q hq => ?_⟩
  · rw [st_at]
    by_cases hk : n = j
    · rw [if_pos ⟨rfl, hk⟩]; exact hv
    · rw [if_neg (fun z => hk z.2)]; exact (h3 n hn).1
  · obtain ⟨C, a, b, c, d⟩ := h6 q hq
    unfold KL
    rw [st_nf σ j v (f := 23) (g := 54) (by decide), st_nf σ j v (f := 23) (g := 100 + q) (by omega)]
    exact ⟨C, a, b, c, d⟩
theorem lvL_if {P : Prop} {hd : Decidable P} {N cap : Nat → Nat} {a b : Nat} (ha : lv N cap 1 a ∧ 4 ≤ a) (hb : lv N cap 1 b ∧ 4 ≤ b) : lv N cap 1 (if P then a else b) ∧ 4 ≤ (if P then a else b) := by
  by_cases h : P
  · rw [if_pos h]; exact ha
  · rw [if_neg h]; exact hb
theorem plc_in {cap N : Nat → Nat} {σ : St} {q : Nat} {x : Int32} (h : KL cap N σ q) (h0 : 0 ≤ x) (h1 : ¬ σ 54 q ≤ x) : vp_in x (σ 54 q).toNatClampNeg := by
  obtain ⟨C, e, hc, h100, -⟩ := h
  rw [e] at h1 ⊢
  obtain ⟨j, hj, rfl⟩ := nI_of (x := x) (by rw [Int32.not_lt]; exact h0)
  rw [nI_clamp (by omega)]
  refine vp_in_nI ?_ (by omega)
  rcases Nat.lt_or_ge j C with q | q
  · exact q
  · exact absurd (nI_le q hj) h1
def lf_X5_relieve_68 (σ : St) (boat : Int32) (other : Int32) : Nat → Nat → Int32 → St → Int32 × St
  | 0, _, x5, τ => (x5, τ)
  | n + 1, i, x5, τ => if (τ 54 2) ≤ (nI i) then (x5, τ) else (lf_X5_relieve_68 σ boat other n (i + 1) (if (τ 22 (nI i).toNatClampNeg) = 0 then (if (τ 23 (nI i).toNatClampNeg) = boat then (x5 + (1 : Int32)) else x5) else x5) (if (τ 22 (nI i).toNatClampNeg) = 0 then (if (τ 23 (nI i).toNatClampNeg) = boat then (st τ 23 (nI i).toNatClampNeg other) else τ) else τ))
def q_X5_relieve (σ : St) (boat : Int32) (other : Int32) : Int32 := if ¬ boat < 0 ∧ boat < (σ 54 1) then (if ¬ other < 0 ∧ other < (σ 54 1) then (if boat = other then (0 : Int32) else ((lf_X5_relieve_68 σ boat other 61 0 (0 : Int32) σ).1)) else (0 : Int32)) else (0 : Int32)
def s_X5_relieve (σ : St) (boat : Int32) (other : Int32) : St := if ¬ boat < 0 ∧ boat < (σ 54 1) then (if ¬ other < 0 ∧ other < (σ 54 1) then (if boat = other then σ else ((lf_X5_relieve_68 σ boat other 61 0 (0 : Int32) σ).2)) else σ) else σ
def t_X5_relieve (σ : St) (boat : Int32) (other : Int32) : Int32 := if ¬ boat < 0 ∧ boat < (σ 54 1) then (if ¬ other < 0 ∧ other < (σ 54 1) then (if boat = other then (1 : Int32) else (0 : Int32)) else (3 : Int32)) else (3 : Int32)
set_option maxHeartbeats 1000000 in
set_option maxRecDepth 100000 in
theorem w_X5_relieve {p : Program} {l : Launch} {e : Env} {R : Room} {s : State} {m : MethodId} {args : Array Value} {below : List Frame} {meth : Method} {c : Code} {H : Heap} {locs : List Loc} {Qc : Array Value → State → Outcome → State → Prop} {XC : String → State → State → Prop} {D : va_G} {A : Nat → Prop} {cI cO : ClassId} {g : Gh} {cap N : Nat → Nat} {ls : Array Slot} (hst : l.stackTraces = false) (σ : St) (boat : Int32) (other : Int32) (hI : KI cap N σ) (E : kE p c cX5_relieve s m args wsX5_relieve RX5 D cI cO) (hml : c.maxLocals = 8) (hR : 7 ≤ R.frames ∧ 103 ≤ R.locals) (hfm : 3 ≤ R.cells ∧ 18 ≤ R.slots) (hlocks : meth.locks = false) (htab : ∀ x ∈ c.exceptionTable.toList, False) (hX : cX A s) (hP : cP D cI cO A g cap N σ H) (hS : va_S A s.heap H locs) (hl : lv_has ls 8 [(0, .ref (g 0 0)), (1, .int boat), (2, .int other)]) (kr : ∀ (pc : Nat) (rv : Int32) (H1 : Heap) (locs1 : List Loc) (ls1 : Array Slot), decode cX5_relieve pc = .ok (.ireturn, 1) → rv = q_X5_relieve σ boat other → t_X5_relieve σ boat other = 0 → cP D cI cO A g cap N (s_X5_relieve σ boat other) H1 → va_S A s.heap H1 locs1 → W p l e R s m args below meth c H1 locs1 3 18 (vx_MQ below Qc XC args s 3 18 A) (F0 m pc ls1 [.int rv])) (kt : ∀ (E9 : String) (t9 : State), E9 = exN (t_X5_relieve σ boat other) → ¬ t_X5_relieve σ boat other = 0 → s.vm.Alike t9.vm → cP D cI cO A g cap N (s_X5_relieve σ boat other) t9.heap → va_F A s t9 → XC E9 s t9) : W p l e R s m args below meth c H locs 0 0 (vx_MQ below Qc XC args s 3 18 A) (F0 m 0 ls []) := by
  have hx := E.1.1
  have hb := E.1.2
  have hts := E.2.1
  obtain ⟨n0, n4, n5, n6, n8, n7, n1, n2, n3⟩ := id hI.1
  have i_X3 : ∀ w ∈ wsX30, w ∈ wsX5_relieve := by decide +kernel
  have i_X5 : ∀ w ∈ wsX50, w ∈ wsX5_relieve := by decide +kernel
  have hq : q_X5_relieve σ boat other = if ¬ boat < 0 ∧ boat < (σ 54 1) then (if ¬ other < 0 ∧ other < (σ 54 1) then (if boat = other then (0 : Int32) else ((lf_X5_relieve_68 σ boat other 61 0 (0 : Int32) σ).1)) else (0 : Int32)) else (0 : Int32) := rfl
  have hs : s_X5_relieve σ boat other = if ¬ boat < 0 ∧ boat < (σ 54 1) then (if ¬ other < 0 ∧ other < (σ 54 1) then (if boat = other then σ else ((lf_X5_relieve_68 σ boat other 61 0 (0 : Int32) σ).2)) else σ) else σ := rfl
  have ht : t_X5_relieve σ boat other = if ¬ boat < 0 ∧ boat < (σ 54 1) then (if ¬ other < 0 ∧ other < (σ 54 1) then (if boat = other then (1 : Int32) else (0 : Int32)) else (3 : Int32)) else (3 : Int32) := rfl
  have hf : 0 ≤ R.cells ∧ 0 ≤ R.slots := ⟨Nat.zero_le _, Nat.zero_le _⟩
  refine lv_iload_n hx hb dX5_relieve_0 rfl (lv_at hl 1 rfl) ?_
  refine lv_aload_n hx hb dX5_relieve_1 rfl (lv_at hl 0 rfl) ?_
  refine cg_X5_boats E i_X5 hP (by omega) (by decide +kernel) dX5_relieve_2 ?_
  refine kcV_i E hml hP hS (kr_1 E.2.2.2 hP ⟨by decide, by omega, fun z => absurd z (by decide)⟩) (c_AL_size l σ 1 ⟨by decide, by omega, fun z => absurd z (by decide)⟩) (cwV 0 hts gX5_relieve_Jx4a65c_size_8abf5 rfl rfl rfl (by decide +kernel) ⟨Nat.le_trans (Nat.le_of_ble_eq_true rfl) hR.1, Nat.le_trans (Nat.le_of_ble_eq_true rfl) hR.2⟩) rfl hl.1 rfl (Nat.le_of_ble_eq_true rfl) dX5_relieve_5 hf (fun H locs hP hS => ?_)
  refine kxS E hml hX hP hS (c_X5_needNumber l hst σ boat (σ 54 1)) (va_cwS 2 hts gX5_relieve_X5_needNumber rfl rfl rfl (by decide +kernel) ⟨Nat.le_trans (Nat.le_of_ble_eq_true rfl) hR.1, Nat.le_trans (Nat.le_of_ble_eq_true rfl) hR.2⟩) rfl hl.1 rfl (Nat.le_of_ble_eq_true rfl) dX5_relieve_8 ⟨Nat.le_trans (Nat.le_of_ble_eq_true rfl) hfm.1, Nat.le_trans (Nat.le_of_ble_eq_true rfl) hfm.2⟩ (fun c_1 => ?_) (fun c_1 => ?_)
  · have hq := hq.trans (if_neg c_1)
    have hs := hs.trans (if_neg c_1)
    have ht := ht.trans (if_neg c_1)
    intro q9 ce H locs hP hS hce hcv hcl
    exact vx_out (fun x hx => (htab x hx).elim) hlocks hce hcv hcl (fun t9 ht9 hW9 => kt _ t9 (by rw [ht]; rfl) (by rw [ht]; decide) hW9 (by rw [ht9, hs]; exact hP) (hS.F ht9)) hS.2.2 (Nat.le_of_ble_eq_true rfl) (Nat.le_of_ble_eq_true rfl)
  have hq := hq.trans (if_pos c_1)
  have hs := hs.trans (if_pos c_1)
  have ht := ht.trans (if_pos c_1)
  intro H locs hP hS
  have hf : 0 + 1 ≤ R.cells ∧ 0 + 6 ≤ R.slots := ⟨Nat.le_trans (Nat.le_of_ble_eq_true rfl) hfm.1, Nat.le_trans (Nat.le_of_ble_eq_true rfl) hfm.2⟩
  refine lv_iload_n hx hb dX5_relieve_11 rfl (lv_at hl 2 rfl) ?_
  refine lv_aload_n hx hb dX5_relieve_12 rfl (lv_at hl 0 rfl) ?_
  refine cg_X5_boats E i_X5 hP (by omega) (by decide +kernel) dX5_relieve_13 ?_
  refine kcV_i E hml hP hS (kr_1 E.2.2.2 hP ⟨by decide, by omega, fun z => absurd z (by decide)⟩) (c_AL_size l σ 1 ⟨by decide, by omega, fun z => absurd z (by decide)⟩) (cwV 0 hts gX5_relieve_Jx4a65c_size_8abf5 rfl rfl rfl (by decide +kernel) ⟨Nat.le_trans (Nat.le_of_ble_eq_true rfl) hR.1, Nat.le_trans (Nat.le_of_ble_eq_true rfl) hR.2⟩) rfl hl.1 rfl (Nat.le_of_ble_eq_true rfl) dX5_relieve_16 hf (fun H locs hP hS => ?_)
  refine kxS E hml hX hP hS (c_X5_needNumber l hst σ other (σ 54 1)) (va_cwS 2 hts gX5_relieve_X5_needNumber rfl rfl rfl (by decide +kernel) ⟨Nat.le_trans (Nat.le_of_ble_eq_true rfl) hR.1, Nat.le_trans (Nat.le_of_ble_eq_true rfl) hR.2⟩) rfl hl.1 rfl (Nat.le_of_ble_eq_true rfl) dX5_relieve_19 ⟨Nat.le_trans (Nat.le_of_ble_eq_true rfl) hfm.1, Nat.le_trans (Nat.le_of_ble_eq_true rfl) hfm.2⟩ (fun c_2 => ?_) (fun c_2 => ?_)
  · have hq := hq.trans (if_neg c_2)
    have hs := hs.trans (if_neg c_2)
    have ht := ht.trans (if_neg c_2)
    intro q9 ce H locs hP hS hce hcv hcl
    exact vx_out (fun x hx => (htab x hx).elim) hlocks hce hcv hcl (fun t9 ht9 hW9 => kt _ t9 (by rw [ht]; rfl) (by rw [ht]; decide) hW9 (by rw [ht9, hs]; exact hP) (hS.F ht9)) hS.2.2 (Nat.le_of_ble_eq_true rfl) (Nat.le_of_ble_eq_true rfl)
  have hq := hq.trans (if_pos c_2)
  have hs := hs.trans (if_pos c_2)
  have ht := ht.trans (if_pos c_2)
  intro H locs hP hS
  have hf : 0 + 1 + 1 ≤ R.cells ∧ 0 + 6 + 6 ≤ R.slots := ⟨Nat.le_trans (Nat.le_of_ble_eq_true rfl) hfm.1, Nat.le_trans (Nat.le_of_ble_eq_true rfl) hfm.2⟩
  refine lv_iload_n hx hb dX5_relieve_22 rfl (lv_at hl 1 rfl) ?_
  refine lv_iload_n hx hb dX5_relieve_23 rfl (lv_at hl 2 rfl) ?_
  refine lv_icmp_ne (tgt := 37) hx hb dX5_relieve_24 (by decide) (fun c_3 => ?_) (fun c_3 => ?_)
  · have hq := hq.trans (if_neg c_3)
    have hs := hs.trans (if_neg c_3)
    have ht := ht.trans (if_neg c_3)
    refine lv_aload_n hx hb dX5_relieve_37 rfl (lv_at hl 0 rfl) ?_
    refine cg_X5_boats E i_X5 hP (by omega) (by decide +kernel) dX5_relieve_38 ?_
    refine lv_iload_n hx hb dX5_relieve_41 rfl (lv_at hl 1 rfl) ?_
    refine kcV_r (v := g 5 boat.toNatClampNeg) E hml hP hS (kr_1 E.2.2.2 hP ⟨by decide, by omega, fun z => absurd z (by decide)⟩) (c_AL_get l σ 1 boat ⟨by decide, by omega, fun z => absurd z (by decide)⟩ n2 (hI.2.2.2.2.2 _ (by omega)) (by rw [hI.2.1.2.1, nI_clamp (by omega)]; exact (num_in c_1 hI.2.1.2.1 (by omega)))) (cwV 1 hts gX5_relieve_Jx4a65c_get_915e3 rfl rfl rfl (by decide +kernel) ⟨Nat.le_trans (Nat.le_of_ble_eq_true rfl) hR.1, Nat.le_trans (Nat.le_of_ble_eq_true rfl) hR.2⟩) rfl hl.1 rfl (Nat.le_of_ble_eq_true rfl) dX5_relieve_42 hf (fun H locs hP hS => ?_)
    refine kcast E (E.2.2.2.1 3 _ rfl).2 (kr_5 E.2.2.2 hP ⟨by decide, vp_lt (num_in c_1 hI.2.1.2.1 (by omega)), fun z => absurd z (by decide)⟩) (by decide +kernel) dX5_relieve_45 ?_
    refine lv_astore_n (lv' := [(3, .ref (g 5 boat.toNatClampNeg)), (0, .ref (g 0 0)), (1, .int boat), (2, .int other)]) hx hb dX5_relieve_48 rfl hl (by decide) rfl (fun ls hl => ?_)
    refine lv_aload_n hx hb dX5_relieve_49 rfl (lv_at hl 1 rfl) ?_
    refine cg_X5_boats E i_X5 hP (by omega) (by decide +kernel) dX5_relieve_50 ?_
    refine lv_iload_n hx hb dX5_relieve_53 rfl (lv_at hl 3 rfl) ?_
    refine kcV_r (v := g 5 other.toNatClampNeg) E hml hP hS (kr_1 E.2.2.2 hP ⟨by decide, by omega, fun z => absurd z (by decide)⟩) (c_AL_get l σ 1 other ⟨by decide, by omega, fun z => absurd z (by decide)⟩ n2 (hI.2.2.2.2.2 _ (by omega)) (by rw [hI.2.1.2.1, nI_clamp (by omega)]; exact (num_in c_2 hI.2.1.2.1 (by omega)))) (cwV 1 hts gX5_relieve_Jx4a65c_get_915e3 rfl rfl rfl (by decide +kernel) ⟨Nat.le_trans (Nat.le_of_ble_eq_true rfl) hR.1, Nat.le_trans (Nat.le_of_ble_eq_true rfl) hR.2⟩) rfl hl.1 rfl (Nat.le_of_ble_eq_true rfl) dX5_relieve_54 hf (fun H locs hP hS => ?_)
    refine kcast E (E.2.2.2.1 3 _ rfl).2 (kr_5 E.2.2.2 hP ⟨by decide, vp_lt (num_in c_2 hI.2.1.2.1 (by omega)), fun z => absurd z (by decide)⟩) (by decide +kernel) dX5_relieve_57 ?_
    refine lv_astore (lv' := [(4, .ref (g 5 other.toNatClampNeg)), (3, .ref (g 5 boat.toNatClampNeg)), (0, .ref (g 0 0)), (1, .int boat), (2, .int other)]) hx hb dX5_relieve_60 hl (by decide) rfl (fun ls hl => ?_)
    refine lv_iconst (v := 0) hx hb dX5_relieve_62 (by decide) ?_
    refine lv_istore (lv' := [(5, .int (0 : Int32)), (4, .ref (g 5 other.toNatClampNeg)), (3, .ref (g 5 boat.toNatClampNeg)), (0, .ref (g 0 0)), (1, .int boat), (2, .int other)]) hx hb dX5_relieve_63 hl (by decide) rfl (fun ls hl => ?_)
    refine lv_iconst (v := 0) hx hb dX5_relieve_65 (by decide) ?_
    refine lv_istore (lv' := [(6, .int (0 : Int32)), (5, .int (0 : Int32)), (4, .ref (g 5 other.toNatClampNeg)), (3, .ref (g 5 boat.toNatClampNeg)), (0, .ref (g 0 0)), (1, .int boat), (2, .int other)]) hx hb dX5_relieve_66 hl (by decide) rfl (fun ls hl => ?_)
    obtain ⟨C, hC, eC⟩ : ∃ C : Nat, C = N 6 ∧ σ 54 2 = nI C := ⟨N 6, rfl, hI.2.1.2.2.1⟩
    have L_7 : ∀ (n : Nat) (i : Nat) (x5 : Int32) (τ : St) (H : Heap) (locs : List Loc) (ls : Array Slot), i + n = 61 → i ≤ C → lf_X5_relieve_68 σ boat other n i x5 τ = lf_X5_relieve_68 σ boat other 61 0 (0 : Int32) σ → KI cap N τ → cP D cI cO A g cap N τ H → va_S A s.heap H locs → lv_has ls 8 [(6, .int (nI i)), (5, .int x5), (4, .ref (g 5 other.toNatClampNeg)), (3, .ref (g 5 boat.toNatClampNeg)), (0, .ref (g 0 0)), (1, .int boat), (2, .int other)] → W p l e R s m args below meth c H locs (0 + 1 + 1) (0 + 6 + 6) (vx_MQ below Qc XC args s 3 18 A) (F0 m 68 ls []) := by
      intro n
      induction n with
      | zero => intro i x5 τ H locs ls hin hiC; omega
      | succ n ih =>
        intro i x5 τ H locs ls hin hiC hfin hKτ hP hS hl
        have hIτ := hKτ
        have eCτ : τ 54 2 = nI C := by rw [hC]; exact hIτ.2.1.2.2.1
        have hfin : (if (τ 54 2) ≤ (nI i) then (x5, τ) else (lf_X5_relieve_68 σ boat other n (i + 1) (if (τ 22 (nI i).toNatClampNeg) = 0 then (if (τ 23 (nI i).toNatClampNeg) = boat then (x5 + (1 : Int32)) else x5) else x5) (if (τ 22 (nI i).toNatClampNeg) = 0 then (if (τ 23 (nI i).toNatClampNeg) = boat then (st τ 23 (nI i).toNatClampNeg other) else τ) else τ))) = lf_X5_relieve_68 σ boat other 61 0 (0 : Int32) σ := hfin
        refine lv_iload hx hb dX5_relieve_68 (lv_at hl 0 rfl) ?_
        refine lv_aload_n hx hb dX5_relieve_70 rfl (lv_at hl 4 rfl) ?_
        refine cg_X5_sailings E i_X5 hP (by omega) (by decide +kernel) dX5_relieve_71 ?_
        refine kcV_i E hml hP hS (kr_1 E.2.2.2 hP ⟨by decide, by omega, fun z => absurd z (by decide)⟩) (c_AL_size l τ 2 ⟨by decide, by omega, fun z => absurd z (by decide)⟩) (cwV 0 hts gX5_relieve_Jx4a65c_size_8abf5 rfl rfl rfl (by decide +kernel) ⟨Nat.le_trans (Nat.le_of_ble_eq_true rfl) hR.1, Nat.le_trans (Nat.le_of_ble_eq_true rfl) hR.2⟩) rfl hl.1 rfl (Nat.le_of_ble_eq_true rfl) dX5_relieve_74 hf (fun H locs hP hS => ?_)
        refine lv_icmp_ge (tgt := 127) hx hb dX5_relieve_77 (by decide) (fun c_4 => ?_) (fun c_4 => ?_)
        · have hfin := (if_pos c_4).symm.trans hfin
          have e_x5 : x5 = (lf_X5_relieve_68 σ boat other 61 0 (0 : Int32) σ).1 := congrArg (fun z => z.1) hfin
          have e_τ : τ = (lf_X5_relieve_68 σ boat other 61 0 (0 : Int32) σ).2 := congrArg (fun z => z.2) hfin
          clear hfin
          subst e_x5
          subst e_τ
          have hKR7 := hKτ
          have hl := lv_sub hl [1, 2, 3, 4, 5, 6] rfl
          refine lv_iload hx hb dX5_relieve_127 (lv_at hl 0 rfl) ?_
          exact W.widen (k := 3) (n := 18) (Nat.le_of_ble_eq_true rfl) (Nat.le_of_ble_eq_true rfl) (kr _ ((lf_X5_relieve_68 σ boat other 61 0 (0 : Int32) σ).1) H locs ls dX5_relieve_129 hq.symm ht (by rw [hs]; exact hP) hS)
        have hfin := (if_neg c_4).symm.trans hfin
        have hlt : i < C := m_lt eCτ c_4 (by omega) (by omega)
        refine lv_aload_n hx hb dX5_relieve_80 rfl (lv_at hl 4 rfl) ?_
        refine cg_X5_sailings E i_X5 hP (by omega) (by decide +kernel) dX5_relieve_81 ?_
        refine lv_iload hx hb dX5_relieve_84 (lv_at hl 0 rfl) ?_
        refine kcV_r (v := g 6 (nI i).toNatClampNeg) E hml hP hS (kr_1 E.2.2.2 hP ⟨by decide, by omega, fun z => absurd z (by decide)⟩) (c_AL_get l τ 2 (nI i) ⟨by decide, by omega, fun z => absurd z (by decide)⟩ n2 (hIτ.2.2.2.2.2 _ (by omega)) (by rw [hIτ.2.1.2.2.1, nI_clamp (by omega)]; exact (vp_in_nI (n := i) (by omega) (by omega)))) (cwV 1 hts gX5_relieve_Jx4a65c_get_915e3 rfl rfl rfl (by decide +kernel) ⟨Nat.le_trans (Nat.le_of_ble_eq_true rfl) hR.1, Nat.le_trans (Nat.le_of_ble_eq_true rfl) hR.2⟩) rfl hl.1 rfl (Nat.le_of_ble_eq_true rfl) dX5_relieve_86 hf (fun H locs hP hS => ?_)
        refine kcast E (E.2.2.2.1 6 _ rfl).2 (kr_6 E.2.2.2 hP ⟨by decide, vp_lt (vp_in_nI (n := i) (by omega) (by omega)), fun z => absurd z (by decide)⟩) (by decide +kernel) dX5_relieve_89 ?_
        refine lv_astore (lv' := [(7, .ref (g 6 (nI i).toNatClampNeg)), (6, .int (nI i)), (5, .int x5), (4, .ref (g 5 other.toNatClampNeg)), (3, .ref (g 5 boat.toNatClampNeg)), (0, .ref (g 0 0)), (1, .int boat), (2, .int other)]) hx hb dX5_relieve_92 hl (by decide) rfl (fun ls hl => ?_)
        refine lv_aload hx hb dX5_relieve_94 (lv_at hl 0 rfl) ?_
        refine cg_X3_state E i_X3 hP (vp_in_nI (n := i) (by omega) (by omega)) (by decide +kernel) dX5_relieve_96 ?_
        have J_5 : ∀ (y5_l5 : Int32) (ρ5 : St) (H : Heap) (locs : List Loc) (ls : Array Slot), y5_l5 = (if (τ 22 (nI i).toNatClampNeg) = 0 then (if (τ 23 (nI i).toNatClampNeg) = boat then (x5 + (1 : Int32)) else x5) else x5) → ρ5 = (if (τ 22 (nI i).toNatClampNeg) = 0 then (if (τ 23 (nI i).toNatClampNeg) = boat then (st τ 23 (nI i).toNatClampNeg other) else τ) else τ) → KI cap N ρ5 → cP D cI cO A g cap N ρ5 H → va_S A s.heap H locs → lv_has ls 8 [(5, .int y5_l5), (7, .ref (g 6 (nI i).toNatClampNeg)), (6, .int (nI i)), (4, .ref (g 5 other.toNatClampNeg)), (3, .ref (g 5 boat.toNatClampNeg)), (0, .ref (g 0 0)), (1, .int boat), (2, .int other)] → W p l e R s m args below meth c H locs (0 + 1 + 1) (0 + 6 + 6) (vx_MQ below Qc XC args s 3 18 A) (F0 m 121 ls []) := by
          intro y5_l5 ρ5 H locs ls e_y5_l5 e_ρ5 hK5 hP hS hl
          subst e_y5_l5
          subst e_ρ5
          refine lv_iinc (v := nI (i + 1)) (lv' := [(6, .int (nI (i + 1))), (5, .int (if (τ 22 (nI i).toNatClampNeg) = 0 then (if (τ 23 (nI i).toNatClampNeg) = boat then (x5 + (1 : Int32)) else x5) else x5)), (7, .ref (g 6 (nI i).toNatClampNeg)), (4, .ref (g 5 other.toNatClampNeg)), (3, .ref (g 5 boat.toNatClampNeg)), (0, .ref (g 0 0)), (1, .int boat), (2, .int other)]) hx hb dX5_relieve_121 hl (k := 2) rfl (by first | rfl | exact nI_1 _) (by decide) rfl (fun ls hl => ?_)
          refine lv_goto (tgt := 68) hx hb dX5_relieve_124 (by decide) ?_
          exact ih (i + 1) (if (τ 22 (nI i).toNatClampNeg) = 0 then (if (τ 23 (nI i).toNatClampNeg) = boat then (x5 + (1 : Int32)) else x5) else x5) (if (τ 22 (nI i).toNatClampNeg) = 0 then (if (τ 23 (nI i).toNatClampNeg) = boat then (st τ 23 (nI i).toNatClampNeg other) else τ) else τ) H locs ls (by omega) (by omega) hfin hK5 hP hS (lv_sub hl [0, 1, 3, 4, 5, 6, 7] rfl)
        refine lv_if_ne (tgt := 121) hx hb dX5_relieve_99 (by decide) (fun c_5 => ?_) (fun c_5 => ?_)
        · exact J_5 x5 τ H locs ls (if_neg c_5).symm (if_neg c_5).symm hKτ hP hS (lv_sub hl [2, 0, 1, 3, 4, 5, 6, 7] rfl)
        refine lv_aload hx hb dX5_relieve_102 (lv_at hl 0 rfl) ?_
        refine cg_X3_boat E i_X3 hP (vp_in_nI (n := i) (by omega) (by omega)) (by decide +kernel) dX5_relieve_104 ?_
        refine lv_aload_n hx hb dX5_relieve_107 rfl (lv_at hl 4 rfl) ?_
        refine kacmp_ne (tgt := 121) E hP ⟨by decide, by decide⟩ ((hIτ.2.2.1 _ (vp_lt (vp_in_nI (n := i) (by omega) (by omega)))).1) (num_in c_1 hI.2.1.2.1 (by omega)) (by omega) dX5_relieve_108 (by decide) (fun c_6 => ?_) (fun c_6 => ?_)
        · exact J_5 x5 τ H locs ls ((if_neg c_6).symm.trans (if_pos c_5).symm) ((if_neg c_6).symm.trans (if_pos c_5).symm) hKτ hP hS (lv_sub hl [2, 0, 1, 3, 4, 5, 6, 7] rfl)
        refine lv_aload hx hb dX5_relieve_111 (lv_at hl 0 rfl) ?_
        refine lv_aload hx hb dX5_relieve_113 (lv_at hl 3 rfl) ?_
        refine cp_X3_boat E i_X3 hP hS (vp_in_nI (n := i) (by omega) (by omega)) (by decide +kernel) dX5_relieve_115 (fun H locs hP hS => ?_)
        refine lv_iinc (v := x5 + (1 : Int32)) (lv' := [(5, .int (x5 + (1 : Int32))), (7, .ref (g 6 (nI i).toNatClampNeg)), (6, .int (nI i)), (4, .ref (g 5 other.toNatClampNeg)), (3, .ref (g 5 boat.toNatClampNeg)), (0, .ref (g 0 0)), (1, .int boat), (2, .int other)]) hx hb dX5_relieve_118 hl (k := 2) rfl rfl (by decide) rfl (fun ls hl => ?_)
        exact J_5 (x5 + (1 : Int32)) (st τ 23 (nI i).toNatClampNeg other) H locs ls ((if_pos c_6).symm.trans (if_pos c_5).symm) ((if_pos c_6).symm.trans (if_pos c_5).symm) (KI_s23 hIτ (num_in c_2 hI.2.1.2.1 (by omega))) hP hS (lv_sub hl [0, 1, 2, 3, 4, 5, 6, 7] rfl)
    exact L_7 61 0 (0 : Int32) σ H locs ls (by omega) (Nat.zero_le _) rfl hI hP hS (lv_sub hl [0, 1, 2, 3, 4, 5, 6] rfl)
  have hq := hq.trans (if_pos c_3)
  have hs := hs.trans (if_pos c_3)
  have ht := ht.trans (if_pos c_3)
  obtain ⟨sa, hsa⟩ := hX.2.2.1 (82, "a boat can't relieve itself") (by decide +kernel)
  exact vx_throwS (cls := "java/lang/IllegalArgumentException") (text := "a boat can't relieve itself") (names := ["java/lang/RuntimeException", "java/lang/Exception"]) (ik := 80) (is := 82) (ic := 84) (sa := sa) (A := A) hx hb hst E.2.2.1 (by decide +kernel) (by decide +kernel) (hts (.classLink RX5 80 "java/lang/IllegalArgumentException") (by decide +kernel)) (hts (.initialized "java/lang/IllegalArgumentException") (by decide +kernel)) hsa (vx_hat (B := xwd) (fun w hw => hts w (by unfold wsX5_relieve; first | with_reducible exact List.mem_cons_of_mem _ (List.mem_append_right _ hw) | with_reducible exact List.mem_cons_of_mem _ (List.mem_append_left _ (List.mem_append_right _ hw)) | with_reducible exact List.mem_cons_of_mem _ (List.mem_append_left _ (List.mem_append_left _ (List.mem_append_right _ hw))))) (by decide +kernel) (fun w hw => (hX.2.2.2.1 w hw).use (xwd_on w hw))) (by decide +kernel) hX.1 hX.2.1 hS (hl.1.trans hml.symm) dX5_relieve_27 dX5_relieve_30 dX5_relieve_31 dX5_relieve_33 dX5_relieve_36 (fun x hx => (htab x hx).elim) (Nat.lt_of_lt_of_le (by decide) hR.1) (Nat.le_trans (Nat.le_of_ble_eq_true rfl) hR.2) (Nat.le_trans (Nat.le_of_ble_eq_true rfl) hfm.1) (Nat.le_trans (Nat.le_of_ble_eq_true rfl) hfm.2) hlocks (fun t9 hA hz hk => kt _ t9 (by rw [ht]; rfl) (by rw [ht]; decide) hA (by rw [hs]; exact cP_kept hP (fun q hq _ => hk q hq)) ⟨Nat.le_trans hS.1 hz, fun q h1 h2 => (hk q (Nat.lt_of_lt_of_le h1 hS.1)).trans (hS.2.1 q h1 h2)⟩) hS.2.2 (Nat.le_of_ble_eq_true rfl) (Nat.le_of_ble_eq_true rfl)
set_option maxHeartbeats 4000000 in
set_option maxRecDepth 100000 in
theorem c_X5_relieve (l : Launch) (hst : l.stackTraces = false) {D : va_G} {A : Nat → Prop} {cI cO : ClassId} {g : Gh} {cap N : Nat → Nat} (σ : St) (boat : Int32) (other : Int32) (hI : KI cap N σ) : vx_Met l yX5_relieve wsX5_relieve ({ frames := 7, cells := 3, slots := 18, locals := 103 }) (va_Pc [.ref (g 0 0), .int boat, .int other] (cUX D cI cO A g cap N σ)) (va_Qi (fun r (_ : Unit) => r = q_X5_relieve σ boat other ∧ t_X5_relieve σ boat other = 0) (fun _ t => cU D cI cO A g cap N (s_X5_relieve σ boat other) t) A) (vx_X (fun (_ : Unit) => ¬ t_X5_relieve σ boat other = 0) (fun E _ t => E = exN (t_X5_relieve σ boat other) ∧ cU D cI cO A g cap N (s_X5_relieve σ boat other) t) A) 3 18 A := by
  refine vx_ofW (cc := cX5_relieve) (maxL := 8) (ret := (some .int)) (by decide) rfl ?_
  intro p e s m args below meth c s₁ B hml htab hv
  obtain ⟨rfl, ⟨hP, hK⟩, hX⟩ := hv
  have E : kE p c cX5_relieve s m ([.ref (g 0 0), .int boat, .int other] : List Value).toArray wsX5_relieve RX5 D cI cO := ⟨⟨B.exec, B.bytes⟩, atoms_spec (ws := wsX5_relieve) B.pre, findClass_of_methodNamed B.named, hK⟩
  have hr := B.returns
  have hlocks := B.notSynchronized
  have hl := lv_entry ([.ref (g 0 0), .int boat, .int other]) (n := 8) (Nat.le_of_ble_eq_true rfl)
  rw [lg_entry_eq]
  generalize (lg_sl ([.ref (g 0 0), .int boat, .int other]) ++ List.replicate (8 - (lg_sl ([.ref (g 0 0), .int boat, .int other])).length) Slot.unset).toArray = ls at hl ⊢
  refine w_X5_relieve hst σ boat other hI E hml ⟨Nat.le_of_ble_eq_true rfl, Nat.le_of_ble_eq_true rfl⟩ ⟨Nat.le_refl _, Nat.le_refl _⟩ hlocks htab hX hP va_S.rf hl (fun pc v H1 locs1 ls1 hd hv h0 hP1 hS1 => ?_) (fun E9 t9 h1 h2 hW9 hP9 hF9 => ⟨(), h2, ⟨h1, hP9, va_K.moved hW9 hK⟩, hF9⟩)
  exact vx_ret (W.iret (v := v) B.exec B.bytes hr (fun t ht hW => ⟨⟨v, (), rfl, ⟨hv, h0⟩, by rw [ht]; exact hP1, va_K.moved hW.alike hK⟩, hS1.F ht⟩) hS1.2.2 hd)
def k82t0_X5_plan (σ : St) (sailing : Int32) (place : Int32) (isOff : Int32) : Int32 := if (σ 54 (if isOff = 0 then (((2 : Int32) * sailing + 4).toNatClampNeg) else (((2 : Int32) * sailing + 5).toNatClampNeg))) ≤ place then ((-1) : Int32) else (σ 55 (σ (100 + (if isOff = 0 then (((2 : Int32) * sailing + 4).toNatClampNeg) else (((2 : Int32) * sailing + 5).toNatClampNeg))) place.toNatClampNeg).toNatClampNeg)
def q_X5_plan (σ : St) (sailing : Int32) (place : Int32) (isOff : Int32) : Int32 := if ¬ sailing < 0 ∧ sailing < (σ 54 2) then (if 0 ≤ place then (k82t0_X5_plan σ sailing place isOff) else (0 : Int32)) else (0 : Int32)
def t_X5_plan (σ : St) (sailing : Int32) (place : Int32) (isOff : Int32) : Int32 := if ¬ sailing < 0 ∧ sailing < (σ 54 2) then (if 0 ≤ place then (0 : Int32) else (3 : Int32)) else (3 : Int32)
set_option maxHeartbeats 1000000 in
set_option maxRecDepth 100000 in
theorem w_X5_plan {p : Program} {l : Launch} {e : Env} {R : Room} {s : State} {m : MethodId} {args : Array Value} {below : List Frame} {meth : Method} {c : Code} {H : Heap} {locs : List Loc} {Qc : Array Value → State → Outcome → State → Prop} {XC : String → State → State → Prop} {D : va_G} {A : Nat → Prop} {cI cO : ClassId} {g : Gh} {cap N : Nat → Nat} {ls : Array Slot} (hst : l.stackTraces = false) (σ : St) (sailing : Int32) (place : Int32) (isOff : Int32) (hI : KI cap N σ) (E : kE p c cX5_plan s m args wsX5_plan RX5 D cI cO) (hml : c.maxLocals = 6) (hR : 7 ≤ R.frames ∧ 103 ≤ R.locals) (hfm : 2 ≤ R.cells ∧ 12 ≤ R.slots) (hlocks : meth.locks = false) (htab : ∀ x ∈ c.exceptionTable.toList, False) (hX : cX A s) (hP : cP D cI cO A g cap N σ H) (hS : va_S A s.heap H locs) (hl : lv_has ls 6 [(0, .ref (g 0 0)), (1, .int sailing), (2, .int place), (3, .int isOff)]) (kr : ∀ (pc : Nat) (rv : Int32) (H1 : Heap) (locs1 : List Loc) (ls1 : Array Slot), decode cX5_plan pc = .ok (.ireturn, 1) → rv = q_X5_plan σ sailing place isOff → t_X5_plan σ sailing place isOff = 0 → cP D cI cO A g cap N σ H1 → va_S A s.heap H1 locs1 → W p l e R s m args below meth c H1 locs1 2 12 (vx_MQ below Qc XC args s 2 12 A) (F0 m pc ls1 [.int rv])) (kt : ∀ (E9 : String) (t9 : State), E9 = exN (t_X5_plan σ sailing place isOff) → ¬ t_X5_plan σ sailing place isOff = 0 → s.vm.Alike t9.vm → cP D cI cO A g cap N σ t9.heap → va_F A s t9 → XC E9 s t9) : W p l e R s m args below meth c H locs 0 0 (vx_MQ below Qc XC args s 2 12 A) (F0 m 0 ls []) := by
  have hx := E.1.1
  have hb := E.1.2
  have hts := E.2.1
  obtain ⟨n0, n4, n5, n6, n8, n7, n1, n2, n3⟩ := id hI.1
  have i_X1 : ∀ w ∈ wsX10, w ∈ wsX5_plan := by decide +kernel
  have i_X3 : ∀ w ∈ wsX30, w ∈ wsX5_plan := by decide +kernel
  have i_X5 : ∀ w ∈ wsX50, w ∈ wsX5_plan := by decide +kernel
  have hq : q_X5_plan σ sailing place isOff = if ¬ sailing < 0 ∧ sailing < (σ 54 2) then (if 0 ≤ place then (k82t0_X5_plan σ sailing place isOff) else (0 : Int32)) else (0 : Int32) := rfl
  have ht : t_X5_plan σ sailing place isOff = if ¬ sailing < 0 ∧ sailing < (σ 54 2) then (if 0 ≤ place then (0 : Int32) else (3 : Int32)) else (3 : Int32) := rfl
  have hf : 0 ≤ R.cells ∧ 0 ≤ R.slots := ⟨Nat.zero_le _, Nat.zero_le _⟩
  refine lv_iload_n hx hb dX5_plan_0 rfl (lv_at hl 1 rfl) ?_
  refine lv_aload_n hx hb dX5_plan_1 rfl (lv_at hl 0 rfl) ?_
  refine cg_X5_sailings E i_X5 hP (by omega) (by decide +kernel) dX5_plan_2 ?_
  refine kcV_i E hml hP hS (kr_1 E.2.2.2 hP ⟨by decide, by omega, fun z => absurd z (by decide)⟩) (c_AL_size l σ 2 ⟨by decide, by omega, fun z => absurd z (by decide)⟩) (cwV 0 hts gX5_plan_Jx4a65c_size_8abf5 rfl rfl rfl (by decide +kernel) ⟨Nat.le_trans (Nat.le_of_ble_eq_true rfl) hR.1, Nat.le_trans (Nat.le_of_ble_eq_true rfl) hR.2⟩) rfl hl.1 rfl (Nat.le_of_ble_eq_true rfl) dX5_plan_5 hf (fun H locs hP hS => ?_)
  refine kxS E hml hX hP hS (c_X5_needNumber l hst σ sailing (σ 54 2)) (va_cwS 2 hts gX5_plan_X5_needNumber rfl rfl rfl (by decide +kernel) ⟨Nat.le_trans (Nat.le_of_ble_eq_true rfl) hR.1, Nat.le_trans (Nat.le_of_ble_eq_true rfl) hR.2⟩) rfl hl.1 rfl (Nat.le_of_ble_eq_true rfl) dX5_plan_8 ⟨Nat.le_trans (Nat.le_of_ble_eq_true rfl) hfm.1, Nat.le_trans (Nat.le_of_ble_eq_true rfl) hfm.2⟩ (fun c_1 => ?_) (fun c_1 => ?_)
  · have hq := hq.trans (if_neg c_1)
    have ht := ht.trans (if_neg c_1)
    intro q9 ce H locs hP hS hce hcv hcl
    exact vx_out (fun x hx => (htab x hx).elim) hlocks hce hcv hcl (fun t9 ht9 hW9 => kt _ t9 (by rw [ht]; rfl) (by rw [ht]; decide) hW9 (by rw [ht9]; exact hP) (hS.F ht9)) hS.2.2 (Nat.le_of_ble_eq_true rfl) (Nat.le_of_ble_eq_true rfl)
  have hq := hq.trans (if_pos c_1)
  have ht := ht.trans (if_pos c_1)
  intro H locs hP hS
  have hf : 0 + 1 ≤ R.cells ∧ 0 + 6 ≤ R.slots := ⟨Nat.le_trans (Nat.le_of_ble_eq_true rfl) hfm.1, Nat.le_trans (Nat.le_of_ble_eq_true rfl) hfm.2⟩
  refine lv_iload_n hx hb dX5_plan_11 rfl (lv_at hl 2 rfl) ?_
  refine lv_if_ge (tgt := 25) hx hb dX5_plan_12 (by decide) (fun c_2 => ?_) (fun c_2 => ?_)
  · have hq := hq.trans (if_pos c_2)
    have ht := ht.trans (if_pos c_2)
    refine lv_aload_n hx hb dX5_plan_25 rfl (lv_at hl 0 rfl) ?_
    refine cg_X5_sailings E i_X5 hP (by omega) (by decide +kernel) dX5_plan_26 ?_
    refine lv_iload_n hx hb dX5_plan_29 rfl (lv_at hl 1 rfl) ?_
    refine kcV_r (v := g 6 sailing.toNatClampNeg) E hml hP hS (kr_1 E.2.2.2 hP ⟨by decide, by omega, fun z => absurd z (by decide)⟩) (c_AL_get l σ 2 sailing ⟨by decide, by omega, fun z => absurd z (by decide)⟩ n2 (hI.2.2.2.2.2 _ (by omega)) (by rw [hI.2.1.2.2.1, nI_clamp (by omega)]; exact (num_in c_1 hI.2.1.2.2.1 (by omega)))) (cwV 1 hts gX5_plan_Jx4a65c_get_915e3 rfl rfl rfl (by decide +kernel) ⟨Nat.le_trans (Nat.le_of_ble_eq_true rfl) hR.1, Nat.le_trans (Nat.le_of_ble_eq_true rfl) hR.2⟩) rfl hl.1 rfl (Nat.le_of_ble_eq_true rfl) dX5_plan_30 hf (fun H locs hP hS => ?_)
    refine kcast E (E.2.2.2.1 6 _ rfl).2 (kr_6 E.2.2.2 hP ⟨by decide, vp_lt (num_in c_1 hI.2.1.2.2.1 (by omega)), fun z => absurd z (by decide)⟩) (by decide +kernel) dX5_plan_33 ?_
    refine lv_astore (lv' := [(4, .ref (g 6 sailing.toNatClampNeg)), (0, .ref (g 0 0)), (1, .int sailing), (2, .int place), (3, .int isOff)]) hx hb dX5_plan_36 hl (by decide) rfl (fun ls hl => ?_)
    refine lv_iload_n hx hb dX5_plan_38 rfl (lv_at hl 4 rfl) ?_
    have J_3 : ∀ (y3_t0 : Nat) (H : Heap) (locs : List Loc) (ls : Array Slot), y3_t0 = (if isOff = 0 then (((2 : Int32) * sailing + 4).toNatClampNeg) else (((2 : Int32) * sailing + 5).toNatClampNeg)) → cP D cI cO A g cap N σ H → va_S A s.heap H locs → lv_has ls 6 [(4, .ref (g 6 sailing.toNatClampNeg)), (0, .ref (g 0 0)), (1, .int sailing), (2, .int place), (3, .int isOff)] → W p l e R s m args below meth c H locs (0 + 1) (0 + 6) (vx_MQ below Qc XC args s 2 12 A) (F0 m 55 ls [.ref (g 1 y3_t0)]) := by
      intro y3_t0 H locs ls e_y3_t0 hP hS hl
      subst e_y3_t0
      refine lv_astore (lv' := [(5, .ref (g 1 (if isOff = 0 then (((2 : Int32) * sailing + 4).toNatClampNeg) else (((2 : Int32) * sailing + 5).toNatClampNeg)))), (4, .ref (g 6 sailing.toNatClampNeg)), (0, .ref (g 0 0)), (1, .int sailing), (2, .int place), (3, .int isOff)]) hx hb dX5_plan_55 hl (by decide) rfl (fun ls hl => ?_)
      refine lv_iload_n hx hb dX5_plan_57 rfl (lv_at hl 4 rfl) ?_
      refine lv_aload hx hb dX5_plan_58 (lv_at hl 0 rfl) ?_
      refine kcV_i E hml hP hS (kr_1 E.2.2.2 hP (lvL_if (lvL4 (cap := cap) hI.1 (num_in c_1 hI.2.1.2.2.1 (by omega))) (lvL5 (cap := cap) hI.1 (num_in c_1 hI.2.1.2.2.1 (by omega)))).1) (c_AL_size l σ (if isOff = 0 then (((2 : Int32) * sailing + 4).toNatClampNeg) else (((2 : Int32) * sailing + 5).toNatClampNeg)) (lvL_if (lvL4 (cap := cap) hI.1 (num_in c_1 hI.2.1.2.2.1 (by omega))) (lvL5 (cap := cap) hI.1 (num_in c_1 hI.2.1.2.2.1 (by omega)))).1) (cwV 0 hts gX5_plan_Jx4a65c_size_8abf5 rfl rfl rfl (by decide +kernel) ⟨Nat.le_trans (Nat.le_of_ble_eq_true rfl) hR.1, Nat.le_trans (Nat.le_of_ble_eq_true rfl) hR.2⟩) rfl hl.1 rfl (Nat.le_of_ble_eq_true rfl) dX5_plan_60 hf (fun H locs hP hS => ?_)
      have J_4 : ∀ (y4_t0 : Int32) (H : Heap) (locs : List Loc) (ls : Array Slot), y4_t0 = (k82t0_X5_plan σ sailing place isOff) → cP D cI cO A g cap N σ H → va_S A s.heap H locs → lv_has ls 6 [(5, .ref (g 1 (if isOff = 0 then (((2 : Int32) * sailing + 4).toNatClampNeg) else (((2 : Int32) * sailing + 5).toNatClampNeg)))), (4, .ref (g 6 sailing.toNatClampNeg)), (0, .ref (g 0 0)), (1, .int sailing), (2, .int place), (3, .int isOff)] → W p l e R s m args below meth c H locs (0 + 1) (0 + 6) (vx_MQ below Qc XC args s 2 12 A) (F0 m 82 ls [.int y4_t0]) := by
        intro y4_t0 H locs ls e_y4_t0 hP hS hl
        subst e_y4_t0
        exact W.widen (k := 2) (n := 12) (Nat.le_of_ble_eq_true rfl) (Nat.le_of_ble_eq_true rfl) (kr _ (k82t0_X5_plan σ sailing place isOff) H locs ls dX5_plan_82 hq.symm ht hP hS)
      refine lv_icmp_ge (tgt := 81) hx hb dX5_plan_63 (by decide) (fun c_4 => ?_) (fun c_4 => ?_)
      · refine lv_iconst (v := -1) hx hb dX5_plan_81 (by decide) ?_
        exact J_4 ((-1) : Int32) H locs ls (if_pos c_4).symm hP hS (lv_sub hl [0, 1, 2, 3, 4, 5] rfl)
      refine lv_aload hx hb dX5_plan_66 (lv_at hl 0 rfl) ?_
      refine lv_iload_n hx hb dX5_plan_68 rfl (lv_at hl 4 rfl) ?_
      refine kcV_r (v := g 8 (σ (100 + (if isOff = 0 then (((2 : Int32) * sailing + 4).toNatClampNeg) else (((2 : Int32) * sailing + 5).toNatClampNeg))) place.toNatClampNeg).toNatClampNeg) E hml hP hS (kr_1 E.2.2.2 hP (lvL_if (lvL4 (cap := cap) hI.1 (num_in c_1 hI.2.1.2.2.1 (by omega))) (lvL5 (cap := cap) hI.1 (num_in c_1 hI.2.1.2.2.1 (by omega)))).1) (c_AL_getA l σ (if isOff = 0 then (((2 : Int32) * sailing + 4).toNatClampNeg) else (((2 : Int32) * sailing + 5).toNatClampNeg)) place (lvL_if (lvL4 (cap := cap) hI.1 (num_in c_1 hI.2.1.2.2.1 (by omega))) (lvL5 (cap := cap) hI.1 (num_in c_1 hI.2.1.2.2.1 (by omega)))).1 n2 (hI.2.2.2.2.2 _ (lvL_if (lvL4 (cap := cap) hI.1 (num_in c_1 hI.2.1.2.2.1 (by omega))) (lvL5 (cap := cap) hI.1 (num_in c_1 hI.2.1.2.2.1 (by omega)))).1.2.1) (plc_in (hI.2.2.2.2.2 _ (lvL_if (lvL4 (cap := cap) hI.1 (num_in c_1 hI.2.1.2.2.1 (by omega))) (lvL5 (cap := cap) hI.1 (num_in c_1 hI.2.1.2.2.1 (by omega)))).1.2.1) (by assumption) (by assumption)) (lvL_if (lvL4 (cap := cap) hI.1 (num_in c_1 hI.2.1.2.2.1 (by omega))) (lvL5 (cap := cap) hI.1 (num_in c_1 hI.2.1.2.2.1 (by omega)))).2) (cwV 1 hts gX5_plan_Jx4a65c_get_915e3 rfl rfl rfl (by decide +kernel) ⟨Nat.le_trans (Nat.le_of_ble_eq_true rfl) hR.1, Nat.le_trans (Nat.le_of_ble_eq_true rfl) hR.2⟩) rfl hl.1 rfl (Nat.le_of_ble_eq_true rfl) dX5_plan_69 hf (fun H locs hP hS => ?_)
      refine kcast E (E.2.2.2.1 4 _ rfl).2 (kr_8 E.2.2.2 hP ⟨by decide, vp_lt (KL_in (hI.2.2.2.2.2 _ (lvL_if (lvL4 (cap := cap) hI.1 (num_in c_1 hI.2.1.2.2.1 (by omega))) (lvL5 (cap := cap) hI.1 (num_in c_1 hI.2.1.2.2.1 (by omega)))).1.2.1) (lvL_if (lvL4 (cap := cap) hI.1 (num_in c_1 hI.2.1.2.2.1 (by omega))) (lvL5 (cap := cap) hI.1 (num_in c_1 hI.2.1.2.2.1 (by omega)))).2 (plc_in (hI.2.2.2.2.2 _ (lvL_if (lvL4 (cap := cap) hI.1 (num_in c_1 hI.2.1.2.2.1 (by omega))) (lvL5 (cap := cap) hI.1 (num_in c_1 hI.2.1.2.2.1 (by omega)))).1.2.1) (by assumption) (by assumption))), fun z => absurd z (by decide)⟩) (by decide +kernel) dX5_plan_72 ?_
      refine cg_X1_number E i_X1 hP (KL_in (hI.2.2.2.2.2 _ (lvL_if (lvL4 (cap := cap) hI.1 (num_in c_1 hI.2.1.2.2.1 (by omega))) (lvL5 (cap := cap) hI.1 (num_in c_1 hI.2.1.2.2.1 (by omega)))).1.2.1) (lvL_if (lvL4 (cap := cap) hI.1 (num_in c_1 hI.2.1.2.2.1 (by omega))) (lvL5 (cap := cap) hI.1 (num_in c_1 hI.2.1.2.2.1 (by omega)))).2 (plc_in (hI.2.2.2.2.2 _ (lvL_if (lvL4 (cap := cap) hI.1 (num_in c_1 hI.2.1.2.2.1 (by omega))) (lvL5 (cap := cap) hI.1 (num_in c_1 hI.2.1.2.2.1 (by omega)))).1.2.1) (by assumption) (by assumption))) (by decide +kernel) dX5_plan_75 ?_
      refine lv_goto (tgt := 82) hx hb dX5_plan_78 (by decide) ?_
      exact J_4 (σ 55 (σ (100 + (if isOff = 0 then (((2 : Int32) * sailing + 4).toNatClampNeg) else (((2 : Int32) * sailing + 5).toNatClampNeg))) place.toNatClampNeg).toNatClampNeg) H locs ls (if_neg c_4).symm hP hS (lv_sub hl [0, 1, 2, 3, 4, 5] rfl)
    refine lv_if_eq (tgt := 50) hx hb dX5_plan_39 (by decide) (fun c_3 => ?_) (fun c_3 => ?_)
    · refine lv_aload hx hb dX5_plan_50 (lv_at hl 0 rfl) ?_
      refine cg_X3_aboard E i_X3 hP (num_in c_1 hI.2.1.2.2.1 (by omega)) (by omega) (by decide +kernel) dX5_plan_52 ?_
      exact J_3 (((2 : Int32) * sailing + 4).toNatClampNeg) H locs ls (if_pos c_3).symm hP hS (lv_sub hl [0, 1, 2, 3, 4] rfl)
    refine lv_aload hx hb dX5_plan_42 (lv_at hl 0 rfl) ?_
    refine cg_X3_off E i_X3 hP (num_in c_1 hI.2.1.2.2.1 (by omega)) (by omega) (by decide +kernel) dX5_plan_44 ?_
    refine lv_goto (tgt := 55) hx hb dX5_plan_47 (by decide) ?_
    exact J_3 (((2 : Int32) * sailing + 5).toNatClampNeg) H locs ls (if_neg c_3).symm hP hS (lv_sub hl [0, 1, 2, 3, 4] rfl)
  have hq := hq.trans (if_neg c_2)
  have ht := ht.trans (if_neg c_2)
  obtain ⟨sa, hsa⟩ := hX.2.2.1 (176, "there is no such place") (by decide +kernel)
  exact vx_throwS (cls := "java/lang/IndexOutOfBoundsException") (text := "there is no such place") (names := ["java/lang/RuntimeException", "java/lang/Exception"]) (ik := 174) (is := 176) (ic := 178) (sa := sa) (A := A) hx hb hst E.2.2.1 (by decide +kernel) (by decide +kernel) (hts (.classLink RX5 174 "java/lang/IndexOutOfBoundsException") (by decide +kernel)) (hts (.initialized "java/lang/IndexOutOfBoundsException") (by decide +kernel)) hsa (vx_hat (B := xwd) (fun w hw => hts w (by unfold wsX5_plan; first | with_reducible exact List.mem_cons_of_mem _ (List.mem_append_right _ hw) | with_reducible exact List.mem_cons_of_mem _ (List.mem_append_left _ (List.mem_append_right _ hw)) | with_reducible exact List.mem_cons_of_mem _ (List.mem_append_left _ (List.mem_append_left _ (List.mem_append_right _ hw))))) (by decide +kernel) (fun w hw => (hX.2.2.2.1 w hw).use (xwd_on w hw))) (by decide +kernel) hX.1 hX.2.1 hS (hl.1.trans hml.symm) dX5_plan_15 dX5_plan_18 dX5_plan_19 dX5_plan_21 dX5_plan_24 (fun x hx => (htab x hx).elim) (Nat.lt_of_lt_of_le (by decide) hR.1) (Nat.le_trans (Nat.le_of_ble_eq_true rfl) hR.2) (Nat.le_trans (Nat.le_of_ble_eq_true rfl) hfm.1) (Nat.le_trans (Nat.le_of_ble_eq_true rfl) hfm.2) hlocks (fun t9 hA hz hk => kt _ t9 (by rw [ht]; rfl) (by rw [ht]; decide) hA (by exact cP_kept hP (fun q hq _ => hk q hq)) ⟨Nat.le_trans hS.1 hz, fun q h1 h2 => (hk q (Nat.lt_of_lt_of_le h1 hS.1)).trans (hS.2.1 q h1 h2)⟩) hS.2.2 (Nat.le_of_ble_eq_true rfl) (Nat.le_of_ble_eq_true rfl)
set_option maxHeartbeats 4000000 in
set_option maxRecDepth 100000 in
theorem c_X5_plan (l : Launch) (hst : l.stackTraces = false) {D : va_G} {A : Nat → Prop} {cI cO : ClassId} {g : Gh} {cap N : Nat → Nat} (σ : St) (sailing : Int32) (place : Int32) (isOff : Int32) (hI : KI cap N σ) : vx_Met l yX5_plan wsX5_plan ({ frames := 7, cells := 2, slots := 12, locals := 103 }) (va_Pc [.ref (g 0 0), .int sailing, .int place, .int isOff] (cUX D cI cO A g cap N σ)) (va_Qi (fun r (_ : Unit) => r = q_X5_plan σ sailing place isOff ∧ t_X5_plan σ sailing place isOff = 0) (fun _ t => cU D cI cO A g cap N (σ) t) A) (vx_X (fun (_ : Unit) => ¬ t_X5_plan σ sailing place isOff = 0) (fun E _ t => E = exN (t_X5_plan σ sailing place isOff) ∧ cU D cI cO A g cap N (σ) t) A) 2 12 A := by
  refine vx_ofW (cc := cX5_plan) (maxL := 6) (ret := (some .int)) (by decide) rfl ?_
  intro p e s m args below meth c s₁ B hml htab hv
  obtain ⟨rfl, ⟨hP, hK⟩, hX⟩ := hv
  have E : kE p c cX5_plan s m ([.ref (g 0 0), .int sailing, .int place, .int isOff] : List Value).toArray wsX5_plan RX5 D cI cO := ⟨⟨B.exec, B.bytes⟩, atoms_spec (ws := wsX5_plan) B.pre, findClass_of_methodNamed B.named, hK⟩
  have hr := B.returns
  have hlocks := B.notSynchronized
  have hl := lv_entry ([.ref (g 0 0), .int sailing, .int place, .int isOff]) (n := 6) (Nat.le_of_ble_eq_true rfl)
  rw [lg_entry_eq]
  generalize (lg_sl ([.ref (g 0 0), .int sailing, .int place, .int isOff]) ++ List.replicate (6 - (lg_sl ([.ref (g 0 0), .int sailing, .int place, .int isOff])).length) Slot.unset).toArray = ls at hl ⊢
  refine w_X5_plan hst σ sailing place isOff hI E hml ⟨Nat.le_of_ble_eq_true rfl, Nat.le_of_ble_eq_true rfl⟩ ⟨Nat.le_refl _, Nat.le_refl _⟩ hlocks htab hX hP va_S.rf hl (fun pc v H1 locs1 ls1 hd hv h0 hP1 hS1 => ?_) (fun E9 t9 h1 h2 hW9 hP9 hF9 => ⟨(), h2, ⟨h1, hP9, va_K.moved hW9 hK⟩, hF9⟩)
  exact vx_ret (W.iret (v := v) B.exec B.bytes hr (fun t ht hW => ⟨⟨v, (), rfl, ⟨hv, h0⟩, by rw [ht]; exact hP1, va_K.moved hW.alike hK⟩, hS1.F ht⟩) hS1.2.2 hd)
def lf_X5_performance_6 (σ : St)  : Nat → Nat → Int32 → Int32 → Int32 × Int32
  | 0, _, x1, x2 => (x1, x2)
  | n + 1, i, x1, x2 => if (σ 54 2) ≤ (nI i) then (x1, x2) else (lf_X5_performance_6 σ n (i + 1) (if (σ 28 (nI i).toNatClampNeg) = 0 then x1 else (if (σ 22 (nI i).toNatClampNeg) = 0 then x1 else (x1 + (1 : Int32)))) (if (σ 28 (nI i).toNatClampNeg) = 0 then x2 else (if (σ 22 (nI i).toNatClampNeg) = 0 then x2 else (x2 + (if (σ 22 (nI i).toNatClampNeg) = (3 : Int32) then (0 : Int32) else (1 : Int32))))))
def q_X5_performance (σ : St) : UInt64 := if ((lf_X5_performance_6 σ 61 0 (0 : Int32) (0 : Int32)).1) = 0 then FP.dconst1 else (FP.ddiv (FP.i2d ((lf_X5_performance_6 σ 61 0 (0 : Int32) (0 : Int32)).2)) (FP.i2d ((lf_X5_performance_6 σ 61 0 (0 : Int32) (0 : Int32)).1)))
theorem perf_rng {σ : St} : ∀ (n i a b : Nat), i + n ≤ 61 → b ≤ a → a ≤ i → ∃ a' b' : Nat, lf_X5_performance_6 σ n i (nI a) (nI b) = (nI a', nI b') ∧ b' ≤ a' ∧ a' < 62 := by
  intro n
  induction n with
  | zero => intro i a b h1 h2 h3; exact ⟨a, b, rfl, h2, by omega⟩
  | succ n ih =>
    intro i a b h1 h2 h3
    show ∃ a' b' : Nat, (if (σ 54 2) ≤ (nI i) then (nI a, nI b) else _) = _ ∧ _
    by_cases hc : (σ 54 2) ≤ (nI i)
    · rw [if_pos hc]; exact ⟨a, b, rfl, h2, by omega⟩
    · rw [if_neg hc]
      by_cases h4 : (σ 28 (nI i).toNatClampNeg) = 0
      · rw [if_pos h4, if_pos h4]; exact ih _ _ _ (by omega) h2 (by omega)
      · rw [if_neg h4, if_neg h4]
        by_cases h5 : (σ 22 (nI i).toNatClampNeg) = 0
        · rw [if_pos h5, if_pos h5]; exact ih _ _ _ (by omega) h2 (by omega)
        · rw [if_neg h5, if_neg h5, nI_1]
          by_cases h6 : (σ 22 (nI i).toNatClampNeg) = (3 : Int32)
          · rw [if_pos h6, show nI b + (0 : Int32) = nI b from nI_add b 0]; exact ih _ _ _ (by omega) (by omega) (by omega)
          · rw [if_neg h6, nI_1]; exact ih _ _ _ (by omega) (by omega) (by omega)
theorem perf_val (σ : St) : ∃ a b : Nat, lf_X5_performance_6 σ 61 0 (0 : Int32) (0 : Int32) = (nI a, nI b) ∧ b ≤ a ∧ a < 62 := perf_rng 61 0 0 0 (by omega) (by omega) (by omega)
theorem perf_nn {σ : St} (h : ¬ ((lf_X5_performance_6 σ 61 0 (0 : Int32) (0 : Int32)).1) = 0) : vf_n64 (FP.ddiv (FP.i2d ((lf_X5_performance_6 σ 61 0 (0 : Int32) (0 : Int32)).2)) (FP.i2d ((lf_X5_performance_6 σ 61 0 (0 : Int32) (0 : Int32)).1))) := by
  obtain ⟨a, b, e, hb, ha⟩ := perf_val σ
  rw [e] at h ⊢
  exact (share_fp a ha b (by omega) hb (fun z => h (by rw [z]; rfl))).1
theorem perf_any {σ : St} : vf_n64 (FP.dsub FP.dconst1 (q_X5_performance σ)) ∧ vf_n64 (FP.dmul (4652007308841189376 : UInt64) (FP.dsub FP.dconst1 (q_X5_performance σ))) := by
  obtain ⟨a, b, e, hb, ha⟩ := perf_val σ
  unfold q_X5_performance
  by_cases h : ((lf_X5_performance_6 σ 61 0 (0 : Int32) (0 : Int32)).1) = 0
  · rw [if_pos h]
    exact ⟨show (FP.dsub FP.dconst1 FP.dconst1 &&& 0x7fffffffffffffff ≤ 0x7ff0000000000000) by decide +kernel, show (FP.dmul (4652007308841189376 : UInt64) (FP.dsub FP.dconst1 FP.dconst1) &&& 0x7fffffffffffffff ≤ 0x7ff0000000000000) by decide +kernel⟩
  · rw [if_neg h]
    rw [e] at h ⊢
    exact (share_fp a ha b (by omega) hb (fun z => h (by rw [z]; rfl))).2
set_option maxHeartbeats 1000000 in
set_option maxRecDepth 100000 in
theorem w_X5_performance {p : Program} {l : Launch} {e : Env} {R : Room} {s : State} {m : MethodId} {args : Array Value} {below : List Frame} {meth : Method} {c : Code} {H : Heap} {locs : List Loc} {cells slots : Nat} {Q : State → Prop} {D : va_G} {A : Nat → Prop} {cI cO : ClassId} {g : Gh} {cap N : Nat → Nat} {ls : Array Slot} (σ : St) (hI : KI cap N σ) (E : kE p c cX5_performance s m args wsX5_performance RX5 D cI cO) (hml : c.maxLocals = 5) (hR : 3 ≤ R.frames ∧ 64 ≤ R.locals) (hf : cells ≤ R.cells ∧ slots ≤ R.slots) (hP : cP D cI cO A g cap N σ H) (hS : va_S A s.heap H locs) (hl : lv_has ls 5 [(0, .ref (g 0 0))]) (kr : ∀ (pc : Nat) (rv : UInt64) (H1 : Heap) (locs1 : List Loc) (ls1 : Array Slot), decode cX5_performance pc = .ok (.dreturn, 1) → rv = q_X5_performance σ → cP D cI cO A g cap N σ H1 → va_S A s.heap H1 locs1 → W p l e R s m args below meth c H1 locs1 cells slots Q (F0 m pc ls1 [.double rv])) : W p l e R s m args below meth c H locs cells slots Q (F0 m 0 ls []) := by
  have hx := E.1.1
  have hb := E.1.2
  have hts := E.2.1
  obtain ⟨n0, n4, n5, n6, n8, n7, n1, n2, n3⟩ := id hI.1
  have i_X3 : ∀ w ∈ wsX30, w ∈ wsX5_performance := by decide +kernel
  have i_X5 : ∀ w ∈ wsX50, w ∈ wsX5_performance := by decide +kernel
  have hq : q_X5_performance σ = if ((lf_X5_performance_6 σ 61 0 (0 : Int32) (0 : Int32)).1) = 0 then FP.dconst1 else (FP.ddiv (FP.i2d ((lf_X5_performance_6 σ 61 0 (0 : Int32) (0 : Int32)).2)) (FP.i2d ((lf_X5_performance_6 σ 61 0 (0 : Int32) (0 : Int32)).1))) := rfl
  refine lv_iconst (v := 0) hx hb dX5_performance_0 (by decide) ?_
  refine lv_istore_n (lv' := [(1, .int (0 : Int32)), (0, .ref (g 0 0))]) hx hb dX5_performance_1 rfl hl (by decide) rfl (fun ls hl => ?_)
  refine lv_iconst (v := 0) hx hb dX5_performance_2 (by decide) ?_
  refine lv_istore_n (lv' := [(2, .int (0 : Int32)), (1, .int (0 : Int32)), (0, .ref (g 0 0))]) hx hb dX5_performance_3 rfl hl (by decide) rfl (fun ls hl => ?_)
  refine lv_iconst (v := 0) hx hb dX5_performance_4 (by decide) ?_
  refine lv_istore_n (lv' := [(3, .int (0 : Int32)), (2, .int (0 : Int32)), (1, .int (0 : Int32)), (0, .ref (g 0 0))]) hx hb dX5_performance_5 rfl hl (by decide) rfl (fun ls hl => ?_)
  obtain ⟨C, hC, eC⟩ : ∃ C : Nat, C = N 6 ∧ σ 54 2 = nI C := ⟨N 6, rfl, hI.2.1.2.2.1⟩
  have L_5 : ∀ (n : Nat) (i : Nat) (x1 : Int32) (x2 : Int32) (H : Heap) (locs : List Loc) (ls : Array Slot), i + n = 61 → i ≤ C → lf_X5_performance_6 σ n i x1 x2 = lf_X5_performance_6 σ 61 0 (0 : Int32) (0 : Int32) → cP D cI cO A g cap N σ H → va_S A s.heap H locs → lv_has ls 5 [(3, .int (nI i)), (2, .int x2), (1, .int x1), (0, .ref (g 0 0))] → W p l e R s m args below meth c H locs cells slots Q (F0 m 6 ls []) := by
    intro n
    induction n with
    | zero => intro i x1 x2 H locs ls hin hiC; omega
    | succ n ih =>
      intro i x1 x2 H locs ls hin hiC hfin hP hS hl
      have hfin : (if (σ 54 2) ≤ (nI i) then (x1, x2) else (lf_X5_performance_6 σ n (i + 1) (if (σ 28 (nI i).toNatClampNeg) = 0 then x1 else (if (σ 22 (nI i).toNatClampNeg) = 0 then x1 else (x1 + (1 : Int32)))) (if (σ 28 (nI i).toNatClampNeg) = 0 then x2 else (if (σ 22 (nI i).toNatClampNeg) = 0 then x2 else (x2 + (if (σ 22 (nI i).toNatClampNeg) = (3 : Int32) then (0 : Int32) else (1 : Int32))))))) = lf_X5_performance_6 σ 61 0 (0 : Int32) (0 : Int32) := hfin
      refine lv_iload_n hx hb dX5_performance_6 rfl (lv_at hl 0 rfl) ?_
      refine lv_aload_n hx hb dX5_performance_7 rfl (lv_at hl 3 rfl) ?_
      refine cg_X5_sailings E i_X5 hP (by omega) (by decide +kernel) dX5_performance_8 ?_
      refine kcV_i E hml hP hS (kr_1 E.2.2.2 hP ⟨by decide, by omega, fun z => absurd z (by decide)⟩) (c_AL_size l σ 2 ⟨by decide, by omega, fun z => absurd z (by decide)⟩) (cwV 0 hts gX5_performance_Jx4a65c_size_8abf5 rfl rfl rfl (by decide +kernel) ⟨Nat.le_trans (Nat.le_of_ble_eq_true rfl) hR.1, Nat.le_trans (Nat.le_of_ble_eq_true rfl) hR.2⟩) rfl hl.1 rfl (Nat.le_of_ble_eq_true rfl) dX5_performance_11 hf (fun H locs hP hS => ?_)
      refine lv_icmp_ge (tgt := 72) hx hb dX5_performance_14 (by decide) (fun c_1 => ?_) (fun c_1 => ?_)
      · have hfin := (if_pos c_1).symm.trans hfin
        have e_x1 : x1 = (lf_X5_performance_6 σ 61 0 (0 : Int32) (0 : Int32)).1 := congrArg (fun z => z.1) hfin
        have e_x2 : x2 = (lf_X5_performance_6 σ 61 0 (0 : Int32) (0 : Int32)).2 := congrArg (fun z => z.2) hfin
        clear hfin
        subst e_x1
        subst e_x2
        have hl := lv_sub hl [1, 2, 3] rfl
        refine lv_iload_n hx hb dX5_performance_72 rfl (lv_at hl 1 rfl) ?_
        have J_6 : ∀ (y6_t0 : UInt64) (H : Heap) (locs : List Loc) (ls : Array Slot), y6_t0 = (if ((lf_X5_performance_6 σ 61 0 (0 : Int32) (0 : Int32)).1) = 0 then FP.dconst1 else (FP.ddiv (FP.i2d ((lf_X5_performance_6 σ 61 0 (0 : Int32) (0 : Int32)).2)) (FP.i2d ((lf_X5_performance_6 σ 61 0 (0 : Int32) (0 : Int32)).1)))) → cP D cI cO A g cap N σ H → va_S A s.heap H locs → lv_has ls 5 [(2, .int ((lf_X5_performance_6 σ 61 0 (0 : Int32) (0 : Int32)).2)), (1, .int ((lf_X5_performance_6 σ 61 0 (0 : Int32) (0 : Int32)).1)), (0, .ref (g 0 0))] → W p l e R s m args below meth c H locs cells slots Q (F0 m 85 ls [.double y6_t0]) := by
          intro y6_t0 H locs ls e_y6_t0 hP hS hl
          subst e_y6_t0
          exact kr _ (if ((lf_X5_performance_6 σ 61 0 (0 : Int32) (0 : Int32)).1) = 0 then FP.dconst1 else (FP.ddiv (FP.i2d ((lf_X5_performance_6 σ 61 0 (0 : Int32) (0 : Int32)).2)) (FP.i2d ((lf_X5_performance_6 σ 61 0 (0 : Int32) (0 : Int32)).1)))) H locs ls dX5_performance_85 hq.symm hP hS
        refine lv_if_ne (tgt := 80) hx hb dX5_performance_73 (by decide) (fun c_6 => ?_) (fun c_6 => ?_)
        · refine lv_iload_n hx hb dX5_performance_80 rfl (lv_at hl 0 rfl) ?_
          refine lv_i2d hx hb dX5_performance_81 ?_
          refine lv_iload_n hx hb dX5_performance_82 rfl (lv_at hl 1 rfl) ?_
          refine lv_i2d hx hb dX5_performance_83 ?_
          refine lv_ddiv hx hb dX5_performance_84 (perf_nn (by assumption)) ?_
          exact J_6 (FP.ddiv (FP.i2d ((lf_X5_performance_6 σ 61 0 (0 : Int32) (0 : Int32)).2)) (FP.i2d ((lf_X5_performance_6 σ 61 0 (0 : Int32) (0 : Int32)).1))) H locs ls (if_neg c_6).symm hP hS (lv_sub hl [0, 1, 2] rfl)
        refine lv_dconst1 hx hb dX5_performance_76 ?_
        refine lv_goto (tgt := 85) hx hb dX5_performance_77 (by decide) ?_
        exact J_6 FP.dconst1 H locs ls (if_pos c_6).symm hP hS (lv_sub hl [0, 1, 2] rfl)
      have hfin := (if_neg c_1).symm.trans hfin
      have hlt : i < C := m_lt eC c_1 (by omega) (by omega)
      refine lv_aload_n hx hb dX5_performance_17 rfl (lv_at hl 3 rfl) ?_
      refine cg_X5_sailings E i_X5 hP (by omega) (by decide +kernel) dX5_performance_18 ?_
      refine lv_iload_n hx hb dX5_performance_21 rfl (lv_at hl 0 rfl) ?_
      refine kcV_r (v := g 6 (nI i).toNatClampNeg) E hml hP hS (kr_1 E.2.2.2 hP ⟨by decide, by omega, fun z => absurd z (by decide)⟩) (c_AL_get l σ 2 (nI i) ⟨by decide, by omega, fun z => absurd z (by decide)⟩ n2 (hI.2.2.2.2.2 _ (by omega)) (by rw [hI.2.1.2.2.1, nI_clamp (by omega)]; exact (vp_in_nI (n := i) (by omega) (by omega)))) (cwV 1 hts gX5_performance_Jx4a65c_get_915e3 rfl rfl rfl (by decide +kernel) ⟨Nat.le_trans (Nat.le_of_ble_eq_true rfl) hR.1, Nat.le_trans (Nat.le_of_ble_eq_true rfl) hR.2⟩) rfl hl.1 rfl (Nat.le_of_ble_eq_true rfl) dX5_performance_22 hf (fun H locs hP hS => ?_)
      refine kcast E (E.2.2.2.1 6 _ rfl).2 (kr_6 E.2.2.2 hP ⟨by decide, vp_lt (vp_in_nI (n := i) (by omega) (by omega)), fun z => absurd z (by decide)⟩) (by decide +kernel) dX5_performance_25 ?_
      refine lv_astore (lv' := [(4, .ref (g 6 (nI i).toNatClampNeg)), (3, .int (nI i)), (2, .int x2), (1, .int x1), (0, .ref (g 0 0))]) hx hb dX5_performance_28 hl (by decide) rfl (fun ls hl => ?_)
      refine lv_aload hx hb dX5_performance_30 (lv_at hl 0 rfl) ?_
      refine cg_X3_isLifeline E i_X3 hP (vp_in_nI (n := i) (by omega) (by omega)) (by decide +kernel) dX5_performance_32 ?_
      have J_2 : ∀ (y2_l2 : Int32) (y2_l1 : Int32) (H : Heap) (locs : List Loc) (ls : Array Slot), y2_l2 = (if (σ 28 (nI i).toNatClampNeg) = 0 then x2 else (if (σ 22 (nI i).toNatClampNeg) = 0 then x2 else (x2 + (if (σ 22 (nI i).toNatClampNeg) = (3 : Int32) then (0 : Int32) else (1 : Int32))))) → y2_l1 = (if (σ 28 (nI i).toNatClampNeg) = 0 then x1 else (if (σ 22 (nI i).toNatClampNeg) = 0 then x1 else (x1 + (1 : Int32)))) → cP D cI cO A g cap N σ H → va_S A s.heap H locs → lv_has ls 5 [(4, .ref (g 6 (nI i).toNatClampNeg)), (3, .int (nI i)), (2, .int y2_l2), (1, .int y2_l1), (0, .ref (g 0 0))] → W p l e R s m args below meth c H locs cells slots Q (F0 m 66 ls []) := by
        intro y2_l2 y2_l1 H locs ls e_y2_l2 e_y2_l1 hP hS hl
        subst e_y2_l2
        subst e_y2_l1
        refine lv_iinc (v := nI (i + 1)) (lv' := [(3, .int (nI (i + 1))), (4, .ref (g 6 (nI i).toNatClampNeg)), (2, .int (if (σ 28 (nI i).toNatClampNeg) = 0 then x2 else (if (σ 22 (nI i).toNatClampNeg) = 0 then x2 else (x2 + (if (σ 22 (nI i).toNatClampNeg) = (3 : Int32) then (0 : Int32) else (1 : Int32)))))), (1, .int (if (σ 28 (nI i).toNatClampNeg) = 0 then x1 else (if (σ 22 (nI i).toNatClampNeg) = 0 then x1 else (x1 + (1 : Int32))))), (0, .ref (g 0 0))]) hx hb dX5_performance_66 hl (k := 1) rfl (by first | rfl | exact nI_1 _) (by decide) rfl (fun ls hl => ?_)
        refine lv_goto (tgt := 6) hx hb dX5_performance_69 (by decide) ?_
        exact ih (i + 1) (if (σ 28 (nI i).toNatClampNeg) = 0 then x1 else (if (σ 22 (nI i).toNatClampNeg) = 0 then x1 else (x1 + (1 : Int32)))) (if (σ 28 (nI i).toNatClampNeg) = 0 then x2 else (if (σ 22 (nI i).toNatClampNeg) = 0 then x2 else (x2 + (if (σ 22 (nI i).toNatClampNeg) = (3 : Int32) then (0 : Int32) else (1 : Int32))))) H locs ls (by omega) (by omega) hfin hP hS (lv_sub hl [0, 2, 3, 4] rfl)
      refine lv_if_eq (tgt := 66) hx hb dX5_performance_35 (by decide) (fun c_2 => ?_) (fun c_2 => ?_)
      · exact J_2 x2 x1 H locs ls (if_pos c_2).symm (if_pos c_2).symm hP hS (lv_sub hl [0, 1, 2, 3, 4] rfl)
      refine lv_aload hx hb dX5_performance_38 (lv_at hl 0 rfl) ?_
      refine cg_X3_state E i_X3 hP (vp_in_nI (n := i) (by omega) (by omega)) (by decide +kernel) dX5_performance_40 ?_
      refine lv_if_eq (tgt := 66) hx hb dX5_performance_43 (by decide) (fun c_3 => ?_) (fun c_3 => ?_)
      · exact J_2 x2 x1 H locs ls ((if_pos c_3).symm.trans (if_neg c_2).symm) ((if_pos c_3).symm.trans (if_neg c_2).symm) hP hS (lv_sub hl [0, 1, 2, 3, 4] rfl)
      refine lv_iinc (v := x1 + (1 : Int32)) (lv' := [(1, .int (x1 + (1 : Int32))), (4, .ref (g 6 (nI i).toNatClampNeg)), (3, .int (nI i)), (2, .int x2), (0, .ref (g 0 0))]) hx hb dX5_performance_46 hl (k := 3) rfl rfl (by decide) rfl (fun ls hl => ?_)
      refine lv_iload_n hx hb dX5_performance_49 rfl (lv_at hl 3 rfl) ?_
      refine lv_aload hx hb dX5_performance_50 (lv_at hl 1 rfl) ?_
      refine cg_X3_state E i_X3 hP (vp_in_nI (n := i) (by omega) (by omega)) (by decide +kernel) dX5_performance_52 ?_
      refine lv_iconst (v := 3) hx hb dX5_performance_55 (by decide) ?_
      have J_4 : ∀ (y4_t0 : Int32) (H : Heap) (locs : List Loc) (ls : Array Slot), y4_t0 = (if (σ 22 (nI i).toNatClampNeg) = (3 : Int32) then (0 : Int32) else (1 : Int32)) → cP D cI cO A g cap N σ H → va_S A s.heap H locs → lv_has ls 5 [(1, .int (x1 + (1 : Int32))), (4, .ref (g 6 (nI i).toNatClampNeg)), (3, .int (nI i)), (2, .int x2), (0, .ref (g 0 0))] → W p l e R s m args below meth c H locs cells slots Q (F0 m 64 ls [.int y4_t0, .int x2]) := by
        intro y4_t0 H locs ls e_y4_t0 hP hS hl
        subst e_y4_t0
        refine lv_iadd hx hb dX5_performance_64 ?_
        refine lv_istore_n (lv' := [(2, .int (x2 + (if (σ 22 (nI i).toNatClampNeg) = (3 : Int32) then (0 : Int32) else (1 : Int32)))), (1, .int (x1 + (1 : Int32))), (4, .ref (g 6 (nI i).toNatClampNeg)), (3, .int (nI i)), (0, .ref (g 0 0))]) hx hb dX5_performance_65 rfl hl (by decide) rfl (fun ls hl => ?_)
        exact J_2 (x2 + (if (σ 22 (nI i).toNatClampNeg) = (3 : Int32) then (0 : Int32) else (1 : Int32))) (x1 + (1 : Int32)) H locs ls ((if_neg c_3).symm.trans (if_neg c_2).symm) ((if_neg c_3).symm.trans (if_neg c_2).symm) hP hS (lv_sub hl [2, 3, 0, 1, 4] rfl)
      refine lv_icmp_ne (tgt := 63) hx hb dX5_performance_56 (by decide) (fun c_4 => ?_) (fun c_4 => ?_)
      · refine lv_iconst (v := 1) hx hb dX5_performance_63 (by decide) ?_
        exact J_4 (1 : Int32) H locs ls (if_neg c_4).symm hP hS (lv_sub hl [0, 1, 2, 3, 4] rfl)
      refine lv_iconst (v := 0) hx hb dX5_performance_59 (by decide) ?_
      refine lv_goto (tgt := 64) hx hb dX5_performance_60 (by decide) ?_
      exact J_4 (0 : Int32) H locs ls (if_pos c_4).symm hP hS (lv_sub hl [0, 1, 2, 3, 4] rfl)
  exact L_5 61 0 (0 : Int32) (0 : Int32) H locs ls (by omega) (Nat.zero_le _) rfl hP hS (lv_sub hl [0, 1, 2, 3] rfl)
set_option maxHeartbeats 4000000 in
set_option maxRecDepth 100000 in
theorem c_X5_performance (l : Launch) {D : va_G} {A : Nat → Prop} {cI cO : ClassId} {g : Gh} {cap N : Nat → Nat} (σ : St) (hI : KI cap N σ) : Met l yX5_performance wsX5_performance ({ frames := 3, cells := 0, slots := 0, locals := 64 }) (va_Pc [.ref (g 0 0)] (cU D cI cO A g cap N σ)) (va_Qd (fun r (_ : Unit) => r = q_X5_performance σ) (fun _ t => cU D cI cO A g cap N (σ) t) A) 0 0 A := by
  refine Met.ofW (cc := cX5_performance) (maxL := 5) (ret := (some .double)) (by decide) rfl ?_
  intro p e s m args below meth c s₁ B hml hv
  obtain ⟨rfl, hP, hK⟩ := hv
  have E : kE p c cX5_performance s m ([.ref (g 0 0)] : List Value).toArray wsX5_performance RX5 D cI cO := ⟨⟨B.exec, B.bytes⟩, atoms_spec (ws := wsX5_performance) B.pre, findClass_of_methodNamed B.named, hK⟩
  have hr := B.returns
  have hlocks := B.notSynchronized
  have hl := lv_entry ([.ref (g 0 0)]) (n := 5) (Nat.le_of_ble_eq_true rfl)
  rw [lg_entry_eq]
  generalize (lg_sl ([.ref (g 0 0)]) ++ List.replicate (5 - (lg_sl ([.ref (g 0 0)])).length) Slot.unset).toArray = ls at hl ⊢
  refine w_X5_performance σ hI E hml ⟨Nat.le_of_ble_eq_true rfl, Nat.le_of_ble_eq_true rfl⟩ ⟨Nat.zero_le _, Nat.zero_le _⟩ hP va_S.rf hl (fun pc v H1 locs1 ls1 hd hv hP1 hS1 => ?_)
  exact W.dret (v := v) B.exec B.bytes hr (fun t ht hW => ⟨⟨v, (), rfl, hv, by rw [ht]; exact hP1, va_K.moved hW.alike hK⟩, hS1.F ht⟩) hS1.2.2 hd
def q_X5_penalty (σ : St) : Int32 := FP.d2i (FP.dmul (4652007308841189376 : UInt64) (FP.dsub FP.dconst1 (q_X5_performance σ)))
set_option maxHeartbeats 1000000 in
set_option maxRecDepth 100000 in
theorem w_X5_penalty {p : Program} {l : Launch} {e : Env} {R : Room} {s : State} {m : MethodId} {args : Array Value} {below : List Frame} {meth : Method} {c : Code} {H : Heap} {locs : List Loc} {cells slots : Nat} {Q : State → Prop} {D : va_G} {A : Nat → Prop} {cI cO : ClassId} {g : Gh} {cap N : Nat → Nat} {ls : Array Slot} (σ : St) (hI : KI cap N σ) (E : kE p c cX5_penalty s m args wsX5_penalty RX5 D cI cO) (hml : c.maxLocals = 1) (hR : 4 ≤ R.frames ∧ 88 ≤ R.locals) (hf : cells ≤ R.cells ∧ slots ≤ R.slots) (hP : cP D cI cO A g cap N σ H) (hS : va_S A s.heap H locs) (hl : lv_has ls 1 [(0, .ref (g 0 0))]) (kr : ∀ (pc : Nat) (rv : Int32) (H1 : Heap) (locs1 : List Loc) (ls1 : Array Slot), decode cX5_penalty pc = .ok (.ireturn, 1) → rv = q_X5_penalty σ → cP D cI cO A g cap N σ H1 → va_S A s.heap H1 locs1 → W p l e R s m args below meth c H1 locs1 cells slots Q (F0 m pc ls1 [.int rv])) : W p l e R s m args below meth c H locs cells slots Q (F0 m 0 ls []) := by
  have hx := E.1.1
  have hb := E.1.2
  have hts := E.2.1
  obtain ⟨n0, n4, n5, n6, n8, n7, n1, n2, n3⟩ := id hI.1
  have hq : q_X5_penalty σ = FP.d2i (FP.dmul (4652007308841189376 : UInt64) (FP.dsub FP.dconst1 (q_X5_performance σ))) := rfl
  refine lv_ldc2d (v := 4652007308841189376) hx hb E.2.2.1 (E.2.1 (.constantDouble RX5 194 (4652007308841189376)) (by decide +kernel)) dX5_penalty_0 ?_
  refine lv_dconst1 hx hb dX5_penalty_3 ?_
  refine lv_aload_n hx hb dX5_penalty_4 rfl (lv_at hl 0 rfl) ?_
  refine kcV_d E hml hP hS (kr_0 E.2.2.2 hP ⟨by decide, by omega, fun z => absurd z (by decide)⟩) (c_X5_performance l σ hI) (cwV 0 hts gX5_penalty_X5_performance rfl rfl rfl (by decide +kernel) ⟨Nat.le_trans (Nat.le_of_ble_eq_true rfl) hR.1, Nat.le_trans (Nat.le_of_ble_eq_true rfl) hR.2⟩) rfl hl.1 rfl (Nat.le_of_ble_eq_true rfl) dX5_penalty_5 hf (fun H locs hP hS => ?_)
  refine lv_dsub hx hb dX5_penalty_8 perf_any.1 ?_
  refine lv_dmul hx hb dX5_penalty_9 perf_any.2 ?_
  refine lv_d2i hx hb dX5_penalty_10 ?_
  exact kr _ (FP.d2i (FP.dmul (4652007308841189376 : UInt64) (FP.dsub FP.dconst1 (q_X5_performance σ)))) H locs ls dX5_penalty_11 hq.symm hP hS
set_option maxHeartbeats 4000000 in
set_option maxRecDepth 100000 in
theorem c_X5_penalty (l : Launch) {D : va_G} {A : Nat → Prop} {cI cO : ClassId} {g : Gh} {cap N : Nat → Nat} (σ : St) (hI : KI cap N σ) : Met l yX5_penalty wsX5_penalty ({ frames := 4, cells := 0, slots := 0, locals := 88 }) (va_Pc [.ref (g 0 0)] (cU D cI cO A g cap N σ)) (va_Qi (fun r (_ : Unit) => r = q_X5_penalty σ) (fun _ t => cU D cI cO A g cap N (σ) t) A) 0 0 A := by
  refine Met.ofW (cc := cX5_penalty) (maxL := 1) (ret := (some .int)) (by decide) rfl ?_
  intro p e s m args below meth c s₁ B hml hv
  obtain ⟨rfl, hP, hK⟩ := hv
  have E : kE p c cX5_penalty s m ([.ref (g 0 0)] : List Value).toArray wsX5_penalty RX5 D cI cO := ⟨⟨B.exec, B.bytes⟩, atoms_spec (ws := wsX5_penalty) B.pre, findClass_of_methodNamed B.named, hK⟩
  have hr := B.returns
  have hlocks := B.notSynchronized
  have hl := lv_entry ([.ref (g 0 0)]) (n := 1) (Nat.le_of_ble_eq_true rfl)
  rw [lg_entry_eq]
  generalize (lg_sl ([.ref (g 0 0)]) ++ List.replicate (1 - (lg_sl ([.ref (g 0 0)])).length) Slot.unset).toArray = ls at hl ⊢
  refine w_X5_penalty σ hI E hml ⟨Nat.le_of_ble_eq_true rfl, Nat.le_of_ble_eq_true rfl⟩ ⟨Nat.zero_le _, Nat.zero_le _⟩ hP va_S.rf hl (fun pc v H1 locs1 ls1 hd hv hP1 hS1 => ?_)
  exact W.iret (v := v) B.exec B.bytes hr (fun t ht hW => ⟨⟨v, (), rfl, hv, by rw [ht]; exact hP1, va_K.moved hW.alike hK⟩, hS1.F ht⟩) hS1.2.2 hd
