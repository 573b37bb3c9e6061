def lf_passes_12 (σ : St)  : Nat → Nat → St → St
  | 0, _, τ => τ
  | n + 1, i, τ => if (τ 21 0) ≤ (nI i) then τ else (lf_passes_12 σ n (i + 1) (if (τ 22 (nI i).toNatClampNeg) = (1 : Int32) then (if ((τ 26 (nI i).toNatClampNeg) + (τ 27 (nI i).toNatClampNeg)) = (τ 1 0) then (s_arrive τ (nI i)) else τ) else τ))
def lf_passes_63 (σ : St)  : Nat → Nat → St → St
  | 0, _, τ => τ
  | n + 1, i, τ => if (τ 21 0) ≤ (nI i) then τ else (if ((τ 1 0) - (τ 1 0) / (1440 : Int32) * (1440 : Int32)) = (300 : Int32) then (lf_passes_63 σ n (i + 1) (s_decide τ (nI i))) else τ)
def lf_passes_98 (σ : St)  : Nat → Nat → St → St
  | 0, _, τ => τ
  | n + 1, i, τ => if (τ 21 0) ≤ (nI i) then τ else (lf_passes_98 σ n (i + 1) (if (τ 22 (nI i).toNatClampNeg) = 0 then (if (τ 26 (nI i).toNatClampNeg) = (τ 1 0) then (s_depart τ (nI i)) else τ) else τ))
def s_passes (σ : St) : St := (lf_passes_98 σ 61 0 (lf_passes_63 σ 61 0 (lf_passes_12 σ 61 0 (st σ 1 0 ((σ 1 0) + (1 : Int32))))))
set_option maxHeartbeats 1000000 in
set_option maxRecDepth 100000 in
theorem w_passes {p : Program} {l : Launch} {e : Env} {R : Room} {s : State} {m : MethodId} {args : Array Value} {below : List Frame} {meth : Method} {c : Code} {H : Heap} {locs : List Loc} {cells slots : Nat} {Q : State → Prop} {D : va_G} {A : Nat → Prop} {cI cZ : ClassId} {h : Nat} {ls : Array Slot} (σ : St) (hI : MI σ) (E : mE p c cX6_passes s m args wsX6_passes D cI cZ) (hml : c.maxLocals = 2) (hA : ∀ i, i < 44 → A (h + i)) (hR : 4 ≤ R.frames ∧ 95 ≤ R.locals) (hf : cells ≤ R.cells ∧ slots ≤ R.slots) (hP : va_P D vwCl (mW cI cZ h σ) H) (hS : va_S A s.heap H locs) (hl : lv_has ls 2 [(0, .ref h)]) (kr : ∀ (pc : Nat) (H1 : Heap) (locs1 : List Loc) (ls1 : Array Slot), decode cX6_passes pc = .ok (.return_, 1) → va_P D vwCl (mW cI cZ h (s_passes σ)) H1 → va_S A s.heap H1 locs1 → W p l e R s m args below meth c H1 locs1 cells slots Q (F0 m pc ls1 [])) : W p l e R s m args below meth c H locs cells slots Q (F0 m 0 ls []) := by
  have hx := E.1.1
  have hb := E.1.2
  have hts := E.2.1
  have hs : s_passes σ = (lf_passes_98 σ 61 0 (lf_passes_63 σ 61 0 (lf_passes_12 σ 61 0 (st σ 1 0 ((σ 1 0) + (1 : Int32)))))) := rfl
  refine lv_aload_n hx hb dX6_passes_0 rfl (lv_at hl 0 rfl) ?_
  refine lv_dup hx hb dX6_passes_1 rfl ?_
  refine mg_now E hP (by decide +kernel) dX6_passes_2 ?_
  refine lv_iconst (v := 1) hx hb dX6_passes_5 (by decide) ?_
  refine lv_iadd hx hb dX6_passes_6 ?_
  refine mp_now E hP hA hS (by decide +kernel) dX6_passes_7 (fun H locs hP hS => ?_)
  refine lv_iconst (v := 0) hx hb dX6_passes_10 (by decide) ?_
  refine lv_istore_n (lv' := [(1, .int (0 : Int32)), (0, .ref h)]) hx hb dX6_passes_11 rfl hl (by decide) rfl (fun ls hl => ?_)
  obtain ⟨C, hC, eC⟩ := MI_n21 hI
  have L_4 : ∀ (n : Nat) (i : Nat) (τ : St) (H : Heap) (locs : List Loc) (ls : Array Slot), i + n = 61 → i ≤ C → lf_passes_12 σ n i τ = lf_passes_12 σ 61 0 (st σ 1 0 ((σ 1 0) + (1 : Int32))) → MK σ τ → va_P D vwCl (mW cI cZ h τ) H → va_S A s.heap H locs → lv_has ls 2 [(1, .int (nI i)), (0, .ref h)] → W p l e R s m args below meth c H locs cells slots Q (F0 m 12 ls []) := by
    intro n
    induction n with
    | zero => intro i τ H locs ls hin hiC; omega
    | succ n ih =>
      intro i τ H locs ls hin hiC hfin hKτ hP hS hl
      have hIτ := hKτ.1
      have eCτ := (MK_n21 hKτ).trans eC
      have hfin : (if (τ 21 0) ≤ (nI i) then τ else (lf_passes_12 σ n (i + 1) (if (τ 22 (nI i).toNatClampNeg) = (1 : Int32) then (if ((τ 26 (nI i).toNatClampNeg) + (τ 27 (nI i).toNatClampNeg)) = (τ 1 0) then (s_arrive τ (nI i)) else τ) else τ))) = lf_passes_12 σ 61 0 (st σ 1 0 ((σ 1 0) + (1 : Int32))) := hfin
      refine lv_iload_n hx hb dX6_passes_12 rfl (lv_at hl 0 rfl) ?_
      refine lv_aload_n hx hb dX6_passes_13 rfl (lv_at hl 1 rfl) ?_
      refine mg_sailings E hP (by decide +kernel) dX6_passes_14 ?_
      refine lv_icmp_ge (tgt := 61) hx hb dX6_passes_17 (by decide) (fun c_1 => ?_) (fun c_1 => ?_)
      · have hfin := (if_pos c_1).symm.trans hfin
        subst hfin
        have hKR4 := hKτ
        have hl := lv_sub hl [1] rfl
        refine lv_iconst (v := 0) hx hb dX6_passes_61 (by decide) ?_
        refine lv_istore_n (lv' := [(1, .int (0 : Int32)), (0, .ref h)]) hx hb dX6_passes_62 rfl hl (by decide) rfl (fun ls hl => ?_)
        obtain ⟨C, hC, eC⟩ := MI_n21 hI
        have L_7 : ∀ (n : Nat) (i : Nat) (τ : St) (H : Heap) (locs : List Loc) (ls : Array Slot), i + n = 61 → i ≤ C → lf_passes_63 σ n i τ = lf_passes_63 σ 61 0 (lf_passes_12 σ 61 0 (st σ 1 0 ((σ 1 0) + (1 : Int32)))) → MK σ τ → va_P D vwCl (mW cI cZ h τ) H → va_S A s.heap H locs → lv_has ls 2 [(1, .int (nI i)), (0, .ref h)] → W p l e R s m args below meth c H locs cells slots Q (F0 m 63 ls []) := by
          intro n
          induction n with
          | zero => intro i τ H locs ls hin hiC; omega
          | succ n ih =>
            intro i τ H locs ls hin hiC hfin hKτ hP hS hl
            have hIτ := hKτ.1
            have eCτ := (MK_n21 hKτ).trans eC
            have hfin : (if (τ 21 0) ≤ (nI i) then τ else (if ((τ 1 0) - (τ 1 0) / (1440 : Int32) * (1440 : Int32)) = (300 : Int32) then (lf_passes_63 σ n (i + 1) (s_decide τ (nI i))) else τ)) = lf_passes_63 σ 61 0 (lf_passes_12 σ 61 0 (st σ 1 0 ((σ 1 0) + (1 : Int32)))) := hfin
            refine lv_iload_n hx hb dX6_passes_63 rfl (lv_at hl 0 rfl) ?_
            refine lv_aload_n hx hb dX6_passes_64 rfl (lv_at hl 1 rfl) ?_
            refine mg_sailings E hP (by decide +kernel) dX6_passes_65 ?_
            refine lv_icmp_ge (tgt := 96) hx hb dX6_passes_68 (by decide) (fun c_5 => ?_) (fun c_5 => ?_)
            · have hfin := (if_pos c_5).symm.trans hfin
              subst hfin
              have hKR7 := hKτ
              have hl := lv_sub hl [1] rfl
              refine lv_iconst (v := 0) hx hb dX6_passes_96 (by decide) ?_
              refine lv_istore_n (lv' := [(1, .int (0 : Int32)), (0, .ref h)]) hx hb dX6_passes_97 rfl hl (by decide) rfl (fun ls hl => ?_)
              obtain ⟨C, hC, eC⟩ := MI_n21 hI
              have L_11 : ∀ (n : Nat) (i : Nat) (τ : St) (H : Heap) (locs : List Loc) (ls : Array Slot), i + n = 61 → i ≤ C → lf_passes_98 σ n i τ = lf_passes_98 σ 61 0 (lf_passes_63 σ 61 0 (lf_passes_12 σ 61 0 (st σ 1 0 ((σ 1 0) + (1 : Int32))))) → MK σ τ → va_P D vwCl (mW cI cZ h τ) H → va_S A s.heap H locs → lv_has ls 2 [(1, .int (nI i)), (0, .ref h)] → W p l e R s m args below meth c H locs cells slots Q (F0 m 98 ls []) := by
                intro n
                induction n with
                | zero => intro i τ H locs ls hin hiC; omega
                | succ n ih =>
                  intro i τ H locs ls hin hiC hfin hKτ hP hS hl
                  have hIτ := hKτ.1
                  have eCτ := (MK_n21 hKτ).trans eC
                  have hfin : (if (τ 21 0) ≤ (nI i) then τ else (lf_passes_98 σ n (i + 1) (if (τ 22 (nI i).toNatClampNeg) = 0 then (if (τ 26 (nI i).toNatClampNeg) = (τ 1 0) then (s_depart τ (nI i)) else τ) else τ))) = lf_passes_98 σ 61 0 (lf_passes_63 σ 61 0 (lf_passes_12 σ 61 0 (st σ 1 0 ((σ 1 0) + (1 : Int32))))) := hfin
                  refine lv_iload_n hx hb dX6_passes_98 rfl (lv_at hl 0 rfl) ?_
                  refine lv_aload_n hx hb dX6_passes_99 rfl (lv_at hl 1 rfl) ?_
                  refine mg_sailings E hP (by decide +kernel) dX6_passes_100 ?_
                  refine lv_icmp_ge (tgt := 139) hx hb dX6_passes_103 (by decide) (fun c_8 => ?_) (fun c_8 => ?_)
                  · have hfin := (if_pos c_8).symm.trans hfin
                    subst hfin
                    have hKR11 := hKτ
                    have hl := lv_sub hl [1] rfl
                    exact kr _ H locs ls dX6_passes_139 (by rw [hs]; exact hP) hS
                  have hfin := (if_neg c_8).symm.trans hfin
                  have hlt : i < C := m_lt eCτ c_8 (by omega) (by omega)
                  refine lv_aload_n hx hb dX6_passes_106 rfl (lv_at hl 1 rfl) ?_
                  refine mg_state E hP (by decide +kernel) dX6_passes_107 ?_
                  refine lv_iload_n hx hb dX6_passes_110 rfl (lv_at hl 0 rfl) ?_
                  refine ml_state E hP (vp_in_nI (n := i) (by omega) (by omega)) dX6_passes_111 ?_
                  have J_9 : ∀ (ρ9 : St) (H : Heap) (locs : List Loc) (ls : Array Slot), ρ9 = (if (τ 22 (nI i).toNatClampNeg) = 0 then (if (τ 26 (nI i).toNatClampNeg) = (τ 1 0) then (s_depart τ (nI i)) else τ) else τ) → MK σ ρ9 → va_P D vwCl (mW cI cZ h ρ9) H → va_S A s.heap H locs → lv_has ls 2 [(1, .int (nI i)), (0, .ref h)] → W p l e R s m args below meth c H locs cells slots Q (F0 m 133 ls []) := by
                    intro ρ9 H locs ls e_ρ9 hK9 hP hS hl
                    subst e_ρ9
                    refine lv_iinc (v := nI (i + 1)) (lv' := [(1, .int (nI (i + 1))), (0, .ref h)]) hx hb dX6_passes_133 hl (k := 0) rfl (by first | rfl | exact nI_1 _) (by decide) rfl (fun ls hl => ?_)
                    refine lv_goto (tgt := 98) hx hb dX6_passes_136 (by decide) ?_
                    exact ih (i + 1) (if (τ 22 (nI i).toNatClampNeg) = 0 then (if (τ 26 (nI i).toNatClampNeg) = (τ 1 0) then (s_depart τ (nI i)) else τ) else τ) H locs ls (by omega) (by omega) hfin hK9 hP hS (lv_sub hl [0, 1] rfl)
                  refine lv_if_ne (tgt := 133) hx hb dX6_passes_112 (by decide) (fun c_9 => ?_) (fun c_9 => ?_)
                  · exact J_9 τ H locs ls (if_neg c_9).symm hKτ hP hS (lv_sub hl [0, 1] rfl)
                  refine lv_aload_n hx hb dX6_passes_115 rfl (lv_at hl 1 rfl) ?_
                  refine mg_departs E hP (by decide +kernel) dX6_passes_116 ?_
                  refine lv_iload_n hx hb dX6_passes_119 rfl (lv_at hl 0 rfl) ?_
                  refine ml_departs E hP (vp_in_nI (n := i) (by omega) (by omega)) dX6_passes_120 ?_
                  refine lv_aload_n hx hb dX6_passes_121 rfl (lv_at hl 1 rfl) ?_
                  refine mg_now E hP (by decide +kernel) dX6_passes_122 ?_
                  refine lv_icmp_ne (tgt := 133) hx hb dX6_passes_125 (by decide) (fun c_10 => ?_) (fun c_10 => ?_)
                  · exact J_9 τ H locs ls ((if_neg c_10).symm.trans (if_pos c_9).symm) hKτ hP hS (lv_sub hl [0, 1] rfl)
                  refine lv_aload_n hx hb dX6_passes_128 rfl (lv_at hl 1 rfl) ?_
                  refine lv_iload_n hx hb dX6_passes_129 rfl (lv_at hl 0 rfl) ?_
                  refine mcV_v E hml hP hS (c_depart l hA τ (nI i) hIτ (vp_in_nI (n := i) (by omega) (by omega))) (cwV 1 hts gX6_passes_X6_depart rfl rfl rfl (by decide +kernel) ⟨Nat.le_trans (Nat.le_of_ble_eq_true rfl) hR.1, Nat.le_trans (Nat.le_of_ble_eq_true rfl) hR.2⟩) rfl hl.1 rfl (Nat.le_of_ble_eq_true rfl) dX6_passes_130 hf (fun H locs hP hS => ?_)
                  exact J_9 (s_depart τ (nI i)) H locs ls ((if_pos c_10).symm.trans (if_pos c_9).symm) (MK_trans hKτ (MK_s_depart hKτ.1 (vp_in_nI (n := i) (by omega) (by omega)))) hP hS (lv_sub hl [0, 1] rfl)
              exact L_11 61 0 (lf_passes_63 σ 61 0 (lf_passes_12 σ 61 0 (st σ 1 0 ((σ 1 0) + (1 : Int32))))) H locs ls (by omega) (Nat.zero_le _) rfl hKR7 hP hS (lv_sub hl [0, 1] rfl)
            have hfin := (if_neg c_5).symm.trans hfin
            have hlt : i < C := m_lt eCτ c_5 (by omega) (by omega)
            refine lv_aload_n hx hb dX6_passes_71 rfl (lv_at hl 1 rfl) ?_
            refine mg_now E hP (by decide +kernel) dX6_passes_72 ?_
            refine lv_sipush (v := 1440) hx hb dX6_passes_75 (by decide) ?_
            refine lv_irem hx hb dX6_passes_78 (by decide) ?_
            refine lv_sipush (v := 300) hx hb dX6_passes_79 (by decide) ?_
            refine lv_icmp_ne (tgt := 96) hx hb dX6_passes_82 (by decide) (fun c_6 => ?_) (fun c_6 => ?_)
            · have hfin := (if_neg c_6).symm.trans hfin
              subst hfin
              have hKR7 := hKτ
              have hl := lv_sub hl [1] rfl
              refine lv_iconst (v := 0) hx hb dX6_passes_96 (by decide) ?_
              refine lv_istore_n (lv' := [(1, .int (0 : Int32)), (0, .ref h)]) hx hb dX6_passes_97 rfl hl (by decide) rfl (fun ls hl => ?_)
              obtain ⟨C, hC, eC⟩ := MI_n21 hI
              have L_11 : ∀ (n : Nat) (i : Nat) (τ : St) (H : Heap) (locs : List Loc) (ls : Array Slot), i + n = 61 → i ≤ C → lf_passes_98 σ n i τ = lf_passes_98 σ 61 0 (lf_passes_63 σ 61 0 (lf_passes_12 σ 61 0 (st σ 1 0 ((σ 1 0) + (1 : Int32))))) → MK σ τ → va_P D vwCl (mW cI cZ h τ) H → va_S A s.heap H locs → lv_has ls 2 [(1, .int (nI i)), (0, .ref h)] → W p l e R s m args below meth c H locs cells slots Q (F0 m 98 ls []) := by
                intro n
                induction n with
                | zero => intro i τ H locs ls hin hiC; omega
                | succ n ih =>
                  intro i τ H locs ls hin hiC hfin hKτ hP hS hl
                  have hIτ := hKτ.1
                  have eCτ := (MK_n21 hKτ).trans eC
                  have hfin : (if (τ 21 0) ≤ (nI i) then τ else (lf_passes_98 σ n (i + 1) (if (τ 22 (nI i).toNatClampNeg) = 0 then (if (τ 26 (nI i).toNatClampNeg) = (τ 1 0) then (s_depart τ (nI i)) else τ) else τ))) = lf_passes_98 σ 61 0 (lf_passes_63 σ 61 0 (lf_passes_12 σ 61 0 (st σ 1 0 ((σ 1 0) + (1 : Int32))))) := hfin
                  refine lv_iload_n hx hb dX6_passes_98 rfl (lv_at hl 0 rfl) ?_
                  refine lv_aload_n hx hb dX6_passes_99 rfl (lv_at hl 1 rfl) ?_
                  refine mg_sailings E hP (by decide +kernel) dX6_passes_100 ?_
                  refine lv_icmp_ge (tgt := 139) hx hb dX6_passes_103 (by decide) (fun c_8 => ?_) (fun c_8 => ?_)
                  · have hfin := (if_pos c_8).symm.trans hfin
                    subst hfin
                    have hKR11 := hKτ
                    have hl := lv_sub hl [1] rfl
                    exact kr _ H locs ls dX6_passes_139 (by rw [hs]; exact hP) hS
                  have hfin := (if_neg c_8).symm.trans hfin
                  have hlt : i < C := m_lt eCτ c_8 (by omega) (by omega)
                  refine lv_aload_n hx hb dX6_passes_106 rfl (lv_at hl 1 rfl) ?_
                  refine mg_state E hP (by decide +kernel) dX6_passes_107 ?_
                  refine lv_iload_n hx hb dX6_passes_110 rfl (lv_at hl 0 rfl) ?_
                  refine ml_state E hP (vp_in_nI (n := i) (by omega) (by omega)) dX6_passes_111 ?_
                  have J_9 : ∀ (ρ9 : St) (H : Heap) (locs : List Loc) (ls : Array Slot), ρ9 = (if (τ 22 (nI i).toNatClampNeg) = 0 then (if (τ 26 (nI i).toNatClampNeg) = (τ 1 0) then (s_depart τ (nI i)) else τ) else τ) → MK σ ρ9 → va_P D vwCl (mW cI cZ h ρ9) H → va_S A s.heap H locs → lv_has ls 2 [(1, .int (nI i)), (0, .ref h)] → W p l e R s m args below meth c H locs cells slots Q (F0 m 133 ls []) := by
                    intro ρ9 H locs ls e_ρ9 hK9 hP hS hl
                    subst e_ρ9
                    refine lv_iinc (v := nI (i + 1)) (lv' := [(1, .int (nI (i + 1))), (0, .ref h)]) hx hb dX6_passes_133 hl (k := 0) rfl (by first | rfl | exact nI_1 _) (by decide) rfl (fun ls hl => ?_)
                    refine lv_goto (tgt := 98) hx hb dX6_passes_136 (by decide) ?_
                    exact ih (i + 1) (if (τ 22 (nI i).toNatClampNeg) = 0 then (if (τ 26 (nI i).toNatClampNeg) = (τ 1 0) then (s_depart τ (nI i)) else τ) else τ) H locs ls (by omega) (by omega) hfin hK9 hP hS (lv_sub hl [0, 1] rfl)
                  refine lv_if_ne (tgt := 133) hx hb dX6_passes_112 (by decide) (fun c_9 => ?_) (fun c_9 => ?_)
                  · exact J_9 τ H locs ls (if_neg c_9).symm hKτ hP hS (lv_sub hl [0, 1] rfl)
                  refine lv_aload_n hx hb dX6_passes_115 rfl (lv_at hl 1 rfl) ?_
                  refine mg_departs E hP (by decide +kernel) dX6_passes_116 ?_
                  refine lv_iload_n hx hb dX6_passes_119 rfl (lv_at hl 0 rfl) ?_
                  refine ml_departs E hP (vp_in_nI (n := i) (by omega) (by omega)) dX6_passes_120 ?_
                  refine lv_aload_n hx hb dX6_passes_121 rfl (lv_at hl 1 rfl) ?_
                  refine mg_now E hP (by decide +kernel) dX6_passes_122 ?_
                  refine lv_icmp_ne (tgt := 133) hx hb dX6_passes_125 (by decide) (fun c_10 => ?_) (fun c_10 => ?_)
                  · exact J_9 τ H locs ls ((if_neg c_10).symm.trans (if_pos c_9).symm) hKτ hP hS (lv_sub hl [0, 1] rfl)
                  refine lv_aload_n hx hb dX6_passes_128 rfl (lv_at hl 1 rfl) ?_
                  refine lv_iload_n hx hb dX6_passes_129 rfl (lv_at hl 0 rfl) ?_
                  refine mcV_v E hml hP hS (c_depart l hA τ (nI i) hIτ (vp_in_nI (n := i) (by omega) (by omega))) (cwV 1 hts gX6_passes_X6_depart rfl rfl rfl (by decide +kernel) ⟨Nat.le_trans (Nat.le_of_ble_eq_true rfl) hR.1, Nat.le_trans (Nat.le_of_ble_eq_true rfl) hR.2⟩) rfl hl.1 rfl (Nat.le_of_ble_eq_true rfl) dX6_passes_130 hf (fun H locs hP hS => ?_)
                  exact J_9 (s_depart τ (nI i)) H locs ls ((if_pos c_10).symm.trans (if_pos c_9).symm) (MK_trans hKτ (MK_s_depart hKτ.1 (vp_in_nI (n := i) (by omega) (by omega)))) hP hS (lv_sub hl [0, 1] rfl)
              exact L_11 61 0 (lf_passes_63 σ 61 0 (lf_passes_12 σ 61 0 (st σ 1 0 ((σ 1 0) + (1 : Int32))))) H locs ls (by omega) (Nat.zero_le _) rfl hKR7 hP hS (lv_sub hl [0, 1] rfl)
            have hfin := (if_pos c_6).symm.trans hfin
            refine lv_aload_n hx hb dX6_passes_85 rfl (lv_at hl 1 rfl) ?_
            refine lv_iload_n hx hb dX6_passes_86 rfl (lv_at hl 0 rfl) ?_
            refine mcV_v E hml hP hS (c_decide l hA τ (nI i) hIτ (vp_in_nI (n := i) (by omega) (by omega))) (cwV 1 hts gX6_passes_X6_decide rfl rfl rfl (by decide +kernel) ⟨Nat.le_trans (Nat.le_of_ble_eq_true rfl) hR.1, Nat.le_trans (Nat.le_of_ble_eq_true rfl) hR.2⟩) rfl hl.1 rfl (Nat.le_of_ble_eq_true rfl) dX6_passes_87 hf (fun H locs hP hS => ?_)
            refine lv_iinc (v := nI (i + 1)) (lv' := [(1, .int (nI (i + 1))), (0, .ref h)]) hx hb dX6_passes_90 hl (k := 0) rfl (by first | rfl | exact nI_1 _) (by decide) rfl (fun ls hl => ?_)
            refine lv_goto (tgt := 63) hx hb dX6_passes_93 (by decide) ?_
            exact ih (i + 1) (s_decide τ (nI i)) H locs ls (by omega) (by omega) hfin (MK_trans hKτ (MK_s_decide hKτ.1 (vp_in_nI (n := i) (by omega) (by omega)))) hP hS (lv_sub hl [0, 1] rfl)
        exact L_7 61 0 (lf_passes_12 σ 61 0 (st σ 1 0 ((σ 1 0) + (1 : Int32)))) H locs ls (by omega) (Nat.zero_le _) rfl hKR4 hP hS (lv_sub hl [0, 1] rfl)
      have hfin := (if_neg c_1).symm.trans hfin
      have hlt : i < C := m_lt eCτ c_1 (by omega) (by omega)
      refine lv_aload_n hx hb dX6_passes_20 rfl (lv_at hl 1 rfl) ?_
      refine mg_state E hP (by decide +kernel) dX6_passes_21 ?_
      refine lv_iload_n hx hb dX6_passes_24 rfl (lv_at hl 0 rfl) ?_
      refine ml_state E hP (vp_in_nI (n := i) (by omega) (by omega)) dX6_passes_25 ?_
      refine lv_iconst (v := 1) hx hb dX6_passes_26 (by decide) ?_
      have J_2 : ∀ (ρ2 : St) (H : Heap) (locs : List Loc) (ls : Array Slot), ρ2 = (if (τ 22 (nI i).toNatClampNeg) = (1 : Int32) then (if ((τ 26 (nI i).toNatClampNeg) + (τ 27 (nI i).toNatClampNeg)) = (τ 1 0) then (s_arrive τ (nI i)) else τ) else τ) → MK σ ρ2 → va_P D vwCl (mW cI cZ h ρ2) H → va_S A s.heap H locs → lv_has ls 2 [(1, .int (nI i)), (0, .ref h)] → W p l e R s m args below meth c H locs cells slots Q (F0 m 55 ls []) := by
        intro ρ2 H locs ls e_ρ2 hK2 hP hS hl
        subst e_ρ2
        refine lv_iinc (v := nI (i + 1)) (lv' := [(1, .int (nI (i + 1))), (0, .ref h)]) hx hb dX6_passes_55 hl (k := 0) rfl (by first | rfl | exact nI_1 _) (by decide) rfl (fun ls hl => ?_)
        refine lv_goto (tgt := 12) hx hb dX6_passes_58 (by decide) ?_
        exact ih (i + 1) (if (τ 22 (nI i).toNatClampNeg) = (1 : Int32) then (if ((τ 26 (nI i).toNatClampNeg) + (τ 27 (nI i).toNatClampNeg)) = (τ 1 0) then (s_arrive τ (nI i)) else τ) else τ) H locs ls (by omega) (by omega) hfin hK2 hP hS (lv_sub hl [0, 1] rfl)
      refine lv_icmp_ne (tgt := 55) hx hb dX6_passes_27 (by decide) (fun c_2 => ?_) (fun c_2 => ?_)
      · exact J_2 τ H locs ls (if_neg c_2).symm hKτ hP hS (lv_sub hl [0, 1] rfl)
      refine lv_aload_n hx hb dX6_passes_30 rfl (lv_at hl 1 rfl) ?_
      refine mg_departs E hP (by decide +kernel) dX6_passes_31 ?_
      refine lv_iload_n hx hb dX6_passes_34 rfl (lv_at hl 0 rfl) ?_
      refine ml_departs E hP (vp_in_nI (n := i) (by omega) (by omega)) dX6_passes_35 ?_
      refine lv_aload_n hx hb dX6_passes_36 rfl (lv_at hl 1 rfl) ?_
      refine mg_takes E hP (by decide +kernel) dX6_passes_37 ?_
      refine lv_iload_n hx hb dX6_passes_40 rfl (lv_at hl 0 rfl) ?_
      refine ml_takes E hP (vp_in_nI (n := i) (by omega) (by omega)) dX6_passes_41 ?_
      refine lv_iadd hx hb dX6_passes_42 ?_
      refine lv_aload_n hx hb dX6_passes_43 rfl (lv_at hl 1 rfl) ?_
      refine mg_now E hP (by decide +kernel) dX6_passes_44 ?_
      refine lv_icmp_ne (tgt := 55) hx hb dX6_passes_47 (by decide) (fun c_3 => ?_) (fun c_3 => ?_)
      · exact J_2 τ H locs ls ((if_neg c_3).symm.trans (if_pos c_2).symm) hKτ hP hS (lv_sub hl [0, 1] rfl)
      refine lv_aload_n hx hb dX6_passes_50 rfl (lv_at hl 1 rfl) ?_
      refine lv_iload_n hx hb dX6_passes_51 rfl (lv_at hl 0 rfl) ?_
      refine mcV_v E hml hP hS (c_arrive l hA τ (nI i) hIτ (vp_in_nI (n := i) (by omega) (by omega))) (cwV 1 hts gX6_passes_X6_arrive rfl rfl rfl (by decide +kernel) ⟨Nat.le_trans (Nat.le_of_ble_eq_true rfl) hR.1, Nat.le_trans (Nat.le_of_ble_eq_true rfl) hR.2⟩) rfl hl.1 rfl (Nat.le_of_ble_eq_true rfl) dX6_passes_52 hf (fun H locs hP hS => ?_)
      exact J_2 (s_arrive τ (nI i)) H locs ls ((if_pos c_3).symm.trans (if_pos c_2).symm) (MK_trans hKτ (MK_s_arrive hKτ.1 (vp_in_nI (n := i) (by omega) (by omega)))) hP hS (lv_sub hl [0, 1] rfl)
  exact L_4 61 0 (st σ 1 0 ((σ 1 0) + (1 : Int32))) H locs ls (by omega) (Nat.zero_le _) rfl (MK_o (MK_refl hI) (by decide)) hP hS (lv_sub hl [0, 1] rfl)
set_option maxHeartbeats 1000000 in
set_option maxRecDepth 100000 in
theorem c_passes (l : Launch) {D : va_G} {A : Nat → Prop} {cI cZ : ClassId} {h : Nat} (hA : ∀ i, i < 44 → A (h + i)) (σ : St) (hI : MI σ) : Met l yX6_passes wsX6_passes ({ frames := 4, cells := 0, slots := 0, locals := 95 }) (va_Pc [.ref h] (mU D cI cZ h σ)) (va_Qv (fun (_ : Unit) => True) (fun _ t => mU D cI cZ h (s_passes σ) t) A) 0 0 A := by
  refine Met.ofW (cc := cX6_passes) (maxL := 2) (ret := none) (by decide) rfl ?_
  intro p e s m args below meth c s₁ B hml hv
  obtain ⟨rfl, hP, hK⟩ := hv
  have E : mE p c cX6_passes s m ([.ref h] : List Value).toArray wsX6_passes D cI cZ := ⟨⟨B.exec, B.bytes⟩, atoms_spec (ws := wsX6_passes) B.pre, (by decide +kernel), findClass_of_methodNamed B.named, hK⟩
  have hr := B.returns
  have hlocks := B.notSynchronized
  have hl := lv_entry ([.ref h]) (n := 2) (Nat.le_of_ble_eq_true rfl)
  rw [lg_entry_eq]
  generalize (lg_sl ([.ref h]) ++ List.replicate (2 - (lg_sl ([.ref h])).length) Slot.unset).toArray = ls at hl ⊢
  refine w_passes σ hI E hml hA ⟨Nat.le_of_ble_eq_true rfl, Nat.le_of_ble_eq_true rfl⟩ ⟨Nat.zero_le _, Nat.zero_le _⟩ hP va_S.rf hl (fun pc H1 locs1 ls1 hd hP1 hS1 => ?_)
  exact W.vret B.exec B.bytes hr (fun t ht hW => ⟨⟨(), rfl, trivial, by rw [ht]; exact hP1, va_K.moved hW.alike hK⟩, hS1.F ht⟩) hS1.2.2 hd
theorem MK_lf_passes_12 {σ0 σ : St} : ∀ (n i : Nat) (τ : St), i + n ≤ 61 → MK σ0 τ → MK σ0 (lf_passes_12 σ n i τ) := by
  intro n
  induction n with
  | zero => intro i τ _ h; exact h
  | succ n ih =>
    intro i τ hi h
    show MK σ0 (if (τ 21 0) ≤ (nI i) then τ else _)
    by_cases hc : (τ 21 0) ≤ (nI i)
    · rw [if_pos hc]; exact h
    · rw [if_neg hc]
      have hk : vp_in (nI i) 60 := by
        obtain ⟨C, hC, e⟩ := MI_n21 h.1
        exact vp_in_nI (Nat.lt_of_lt_of_le (m_lt e hc (by omega) (by omega)) hC) (by omega)
      have hM : MI τ := h.1
      repeat (first | with_reducible exact h | with_reducible refine ih _ _ (by omega) ?_ | with_reducible exact MK_trans h (MK_s_arrive hM hk) | with_reducible refine MK_o ?_ (by decide) | with_reducible refine MK_if (fun _ => ?_) (fun _ => ?_))
theorem MK_lf_passes_63 {σ0 σ : St} : ∀ (n i : Nat) (τ : St), i + n ≤ 61 → MK σ0 τ → MK σ0 (lf_passes_63 σ n i τ) := by
  intro n
  induction n with
  | zero => intro i τ _ h; exact h
  | succ n ih =>
    intro i τ hi h
    show MK σ0 (if (τ 21 0) ≤ (nI i) then τ else _)
    by_cases hc : (τ 21 0) ≤ (nI i)
    · rw [if_pos hc]; exact h
    · rw [if_neg hc]
      have hk : vp_in (nI i) 60 := by
        obtain ⟨C, hC, e⟩ := MI_n21 h.1
        exact vp_in_nI (Nat.lt_of_lt_of_le (m_lt e hc (by omega) (by omega)) hC) (by omega)
      have hM : MI τ := h.1
      repeat (first | with_reducible exact h | with_reducible refine ih _ _ (by omega) ?_ | with_reducible exact MK_trans h (MK_s_decide hM hk) | with_reducible refine MK_o ?_ (by decide) | with_reducible refine MK_if (fun _ => ?_) (fun _ => ?_))
theorem MK_lf_passes_98 {σ0 σ : St} : ∀ (n i : Nat) (τ : St), i + n ≤ 61 → MK σ0 τ → MK σ0 (lf_passes_98 σ n i τ) := by
  intro n
  induction n with
  | zero => intro i τ _ h; exact h
  | succ n ih =>
    intro i τ hi h
    show MK σ0 (if (τ 21 0) ≤ (nI i) then τ else _)
    by_cases hc : (τ 21 0) ≤ (nI i)
    · rw [if_pos hc]; exact h
    · rw [if_neg hc]
      have hk : vp_in (nI i) 60 := by
        obtain ⟨C, hC, e⟩ := MI_n21 h.1
        exact vp_in_nI (Nat.lt_of_lt_of_le (m_lt e hc (by omega) (by omega)) hC) (by omega)
      have hM : MI τ := h.1
      repeat (first | with_reducible exact h | with_reducible refine ih _ _ (by omega) ?_ | with_reducible exact MK_trans h (MK_s_depart hM hk) | with_reducible refine MK_o ?_ (by decide) | with_reducible refine MK_if (fun _ => ?_) (fun _ => ?_))
theorem MK_s_passes {σ : St} (hI : MI σ) : MK σ (s_passes σ) := by
  unfold s_passes
  repeat (first | with_reducible exact MK_refl hI | with_reducible refine MK_lf_passes_98 _ _ _ (by omega) ?_ | with_reducible refine MK_lf_passes_63 _ _ _ (by omega) ?_ | with_reducible refine MK_lf_passes_12 _ _ _ (by omega) ?_ | with_reducible refine MK_o ?_ (by decide) | with_reducible refine MK_if (fun _ => ?_) (fun _ => ?_))
theorem pass_in {σ : St} {minutes : Int32} (c : (q_refused σ (if (q_in minutes (1 : Int32) (1500 : Int32)) = 0 then (1 : Int32) else (0 : Int32))) = 0) : ∃ C : Nat, C ≤ 1500 ∧ minutes = nI C := by
  have h := rfp c
  unfold q_in at h
  have h1 := (ifa h).1
  have h2 := (ifa (ifa h).2).1
  exact nI_of2 (M := 1500) (n := 1500) rfl (fun z => h1 (by
    rw [Int32.lt_iff_toInt_lt] at z ⊢
    have a : (0 : Int32).toInt = 0 := rfl
    have b : (1 : Int32).toInt = 1 := rfl
    omega)) (by
    rw [Int32.le_iff_toInt_le]
    rw [Int32.lt_iff_toInt_lt] at h2
    omega)
def lf_pass_27 (σ : St) (minutes : Int32) : Nat → Nat → St → St
  | 0, _, τ => τ
  | n + 1, i, τ => if minutes ≤ (nI i) then τ else (lf_pass_27 σ minutes n (i + 1) (s_passes τ))
def q_pass (σ : St) (minutes : Int32) : Int32 := if (q_refused σ (if (q_in minutes (1 : Int32) (1500 : Int32)) = 0 then (1 : Int32) else (0 : Int32))) = 0 then ((lf_pass_27 σ minutes 1501 0 (s_refused σ (if (q_in minutes (1 : Int32) (1500 : Int32)) = 0 then (1 : Int32) else (0 : Int32)))) 1 0) else (0 : Int32)
def s_pass (σ : St) (minutes : Int32) : St := if (q_refused σ (if (q_in minutes (1 : Int32) (1500 : Int32)) = 0 then (1 : Int32) else (0 : Int32))) = 0 then (lf_pass_27 σ minutes 1501 0 (s_refused σ (if (q_in minutes (1 : Int32) (1500 : Int32)) = 0 then (1 : Int32) else (0 : Int32)))) else (s_refused σ (if (q_in minutes (1 : Int32) (1500 : Int32)) = 0 then (1 : Int32) else (0 : Int32)))
set_option maxHeartbeats 1000000 in
set_option maxRecDepth 100000 in
theorem w_pass {p : Program} {l : Launch} {e : Env} {R : Room} {s : State} {m : MethodId} {args : Array Value} {below : List Frame} {meth : Method} {c : Code} {H : Heap} {locs : List Loc} {cells slots : Nat} {Q : State → Prop} {D : va_G} {A : Nat → Prop} {cI cZ : ClassId} {h : Nat} {ls : Array Slot} (σ : St) (minutes : Int32) (hI : MI σ) (E : mE p c cX6_pass s m args wsX6_pass D cI cZ) (hml : c.maxLocals = 3) (hA : ∀ i, i < 44 → A (h + i)) (hR : 5 ≤ R.frames ∧ 116 ≤ R.locals) (hf : cells ≤ R.cells ∧ slots ≤ R.slots) (hP : va_P D vwCl (mW cI cZ h σ) H) (hS : va_S A s.heap H locs) (hl : lv_has ls 3 [(0, .ref h), (1, .int minutes)]) (kr : ∀ (pc : Nat) (rv : Int32) (H1 : Heap) (locs1 : List Loc) (ls1 : Array Slot), decode cX6_pass pc = .ok (.ireturn, 1) → rv = q_pass σ minutes → va_P D vwCl (mW cI cZ h (s_pass σ minutes)) H1 → va_S A s.heap H1 locs1 → W p l e R s m args below meth c H1 locs1 cells slots Q (F0 m pc ls1 [.int rv])) : W p l e R s m args below meth c H locs cells slots Q (F0 m 0 ls []) := by
  have hx := E.1.1
  have hb := E.1.2
  have hts := E.2.1
  have hq : q_pass σ minutes = if (q_refused σ (if (q_in minutes (1 : Int32) (1500 : Int32)) = 0 then (1 : Int32) else (0 : Int32))) = 0 then ((lf_pass_27 σ minutes 1501 0 (s_refused σ (if (q_in minutes (1 : Int32) (1500 : Int32)) = 0 then (1 : Int32) else (0 : Int32)))) 1 0) else (0 : Int32) := rfl
  have hs : s_pass σ minutes = if (q_refused σ (if (q_in minutes (1 : Int32) (1500 : Int32)) = 0 then (1 : Int32) else (0 : Int32))) = 0 then (lf_pass_27 σ minutes 1501 0 (s_refused σ (if (q_in minutes (1 : Int32) (1500 : Int32)) = 0 then (1 : Int32) else (0 : Int32)))) else (s_refused σ (if (q_in minutes (1 : Int32) (1500 : Int32)) = 0 then (1 : Int32) else (0 : Int32))) := rfl
  refine lv_aload_n hx hb dX6_pass_0 rfl (lv_at hl 0 rfl) ?_
  refine lv_iload_n hx hb dX6_pass_1 rfl (lv_at hl 1 rfl) ?_
  refine lv_iconst (v := 1) hx hb dX6_pass_2 (by decide) ?_
  refine lv_sipush (v := 1500) hx hb dX6_pass_3 (by decide) ?_
  refine mcS_i E hml hP hS (c_in l hA σ minutes (1 : Int32) (1500 : Int32)) (va_cwS 3 hts gX6_pass_X6_in rfl rfl rfl (by decide +kernel) ⟨Nat.le_trans (Nat.le_of_ble_eq_true rfl) hR.1, Nat.le_trans (Nat.le_of_ble_eq_true rfl) hR.2⟩) rfl hl.1 rfl (Nat.le_of_ble_eq_true rfl) dX6_pass_6 hf (fun H locs hP hS => ?_)
  have J_1 : ∀ (y1_t0 : Int32) (H : Heap) (locs : List Loc) (ls : Array Slot), y1_t0 = (if (q_in minutes (1 : Int32) (1500 : Int32)) = 0 then (1 : Int32) else (0 : Int32)) → va_P D vwCl (mW cI cZ h σ) H → va_S A s.heap H locs → lv_has ls 3 [(0, .ref h), (1, .int minutes)] → W p l e R s m args below meth c H locs cells slots Q (F0 m 17 ls [.int y1_t0, .ref h]) := by
    intro y1_t0 H locs ls e_y1_t0 hP hS hl
    subst e_y1_t0
    refine mcV_i E hml hP hS (c_refused l hA σ (if (q_in minutes (1 : Int32) (1500 : Int32)) = 0 then (1 : Int32) else (0 : Int32))) (cwV 1 hts gX6_pass_X6_refused rfl rfl rfl (by decide +kernel) ⟨Nat.le_trans (Nat.le_of_ble_eq_true rfl) hR.1, Nat.le_trans (Nat.le_of_ble_eq_true rfl) hR.2⟩) rfl hl.1 rfl (Nat.le_of_ble_eq_true rfl) dX6_pass_17 hf (fun H locs hP hS => ?_)
    refine lv_if_eq (tgt := 25) hx hb dX6_pass_20 (by decide) (fun c_2 => ?_) (fun c_2 => ?_)
    · have hq := hq.trans (if_pos c_2)
      have hs := hs.trans (if_pos c_2)
      have h_min := pass_in c_2
      refine lv_iconst (v := 0) hx hb dX6_pass_25 (by decide) ?_
      refine lv_istore_n (lv' := [(2, .int (0 : Int32)), (0, .ref h), (1, .int minutes)]) hx hb dX6_pass_26 rfl hl (by decide) rfl (fun ls hl => ?_)
      obtain ⟨C, hC, eC⟩ := h_min
      have L_4 : ∀ (n : Nat) (i : Nat) (τ : St) (H : Heap) (locs : List Loc) (ls : Array Slot), i + n = 1501 → i ≤ C → lf_pass_27 σ minutes n i τ = lf_pass_27 σ minutes 1501 0 (s_refused σ (if (q_in minutes (1 : Int32) (1500 : Int32)) = 0 then (1 : Int32) else (0 : Int32))) → MK σ τ → va_P D vwCl (mW cI cZ h τ) H → va_S A s.heap H locs → lv_has ls 3 [(2, .int (nI i)), (0, .ref h), (1, .int minutes)] → W p l e R s m args below meth c H locs cells slots Q (F0 m 27 ls []) := by
        intro n
        induction n with
        | zero => intro i τ H locs ls hin hiC; omega
        | succ n ih =>
          intro i τ H locs ls hin hiC hfin hKτ hP hS hl
          have hIτ := hKτ.1
          have hfin : (if minutes ≤ (nI i) then τ else (lf_pass_27 σ minutes n (i + 1) (s_passes τ))) = lf_pass_27 σ minutes 1501 0 (s_refused σ (if (q_in minutes (1 : Int32) (1500 : Int32)) = 0 then (1 : Int32) else (0 : Int32))) := hfin
          refine lv_iload_n hx hb dX6_pass_27 rfl (lv_at hl 0 rfl) ?_
          refine lv_iload_n hx hb dX6_pass_28 rfl (lv_at hl 2 rfl) ?_
          refine lv_icmp_ge (tgt := 42) hx hb dX6_pass_29 (by decide) (fun c_3 => ?_) (fun c_3 => ?_)
          · have hfin := (if_pos c_3).symm.trans hfin
            subst hfin
            have hKR4 := hKτ
            have hl := lv_sub hl [1, 2] rfl
            refine lv_aload_n hx hb dX6_pass_42 rfl (lv_at hl 0 rfl) ?_
            refine mg_now E hP (by decide +kernel) dX6_pass_43 ?_
            exact kr _ ((lf_pass_27 σ minutes 1501 0 (s_refused σ (if (q_in minutes (1 : Int32) (1500 : Int32)) = 0 then (1 : Int32) else (0 : Int32)))) 1 0) H locs ls dX6_pass_46 hq.symm (by rw [hs]; exact hP) hS
          have hfin := (if_neg c_3).symm.trans hfin
          have hlt : i < C := m_lt eC c_3 (by omega) (by omega)
          refine lv_aload_n hx hb dX6_pass_32 rfl (lv_at hl 1 rfl) ?_
          refine mcV_v E hml hP hS (c_passes l hA τ hIτ) (cwV 0 hts gX6_pass_X6_passes rfl rfl rfl (by decide +kernel) ⟨Nat.le_trans (Nat.le_of_ble_eq_true rfl) hR.1, Nat.le_trans (Nat.le_of_ble_eq_true rfl) hR.2⟩) rfl hl.1 rfl (Nat.le_of_ble_eq_true rfl) dX6_pass_33 hf (fun H locs hP hS => ?_)
          refine lv_iinc (v := nI (i + 1)) (lv' := [(2, .int (nI (i + 1))), (0, .ref h), (1, .int minutes)]) hx hb dX6_pass_36 hl (k := 0) rfl (by first | rfl | exact nI_1 _) (by decide) rfl (fun ls hl => ?_)
          refine lv_goto (tgt := 27) hx hb dX6_pass_39 (by decide) ?_
          exact ih (i + 1) (s_passes τ) H locs ls (by omega) (by omega) hfin (MK_trans hKτ (MK_s_passes hKτ.1)) hP hS (lv_sub hl [0, 1, 2] rfl)
      exact L_4 1501 0 (s_refused σ (if (q_in minutes (1 : Int32) (1500 : Int32)) = 0 then (1 : Int32) else (0 : Int32))) H locs ls (by omega) (Nat.zero_le _) rfl (MK_trans (MK_refl hI) (MK_s_refused (MK_refl hI).1)) hP hS (lv_sub hl [0, 1, 2] rfl)
    have hq := hq.trans (if_neg c_2)
    have hs := hs.trans (if_neg c_2)
    refine lv_iconst (v := 0) hx hb dX6_pass_23 (by decide) ?_
    exact kr _ (0 : Int32) H locs ls dX6_pass_24 hq.symm (by rw [hs]; exact hP) hS
  refine lv_if_eq (tgt := 16) hx hb dX6_pass_9 (by decide) (fun c_1 => ?_) (fun c_1 => ?_)
  · refine lv_iconst (v := 1) hx hb dX6_pass_16 (by decide) ?_
    exact J_1 (1 : Int32) H locs ls (if_pos c_1).symm hP hS (lv_sub hl [0, 1] rfl)
  refine lv_iconst (v := 0) hx hb dX6_pass_12 (by decide) ?_
  refine lv_goto (tgt := 17) hx hb dX6_pass_13 (by decide) ?_
  exact J_1 (0 : Int32) H locs ls (if_neg c_1).symm hP hS (lv_sub hl [0, 1] rfl)
set_option maxHeartbeats 1000000 in
set_option maxRecDepth 100000 in
theorem c_pass (l : Launch) {D : va_G} {A : Nat → Prop} {cI cZ : ClassId} {h : Nat} (hA : ∀ i, i < 44 → A (h + i)) (σ : St) (minutes : Int32) (hI : MI σ) : Met l yX6_pass wsX6_pass ({ frames := 5, cells := 0, slots := 0, locals := 116 }) (va_Pc [.ref h, .int minutes] (mU D cI cZ h σ)) (va_Qi (fun r (_ : Unit) => r = q_pass σ minutes) (fun _ t => mU D cI cZ h (s_pass σ minutes) t) A) 0 0 A := by
  refine Met.ofW (cc := cX6_pass) (maxL := 3) (ret := (some .int)) (by decide) rfl ?_
  intro p e s m args below meth c s₁ B hml hv
  obtain ⟨rfl, hP, hK⟩ := hv
  have E : mE p c cX6_pass s m ([.ref h, .int minutes] : List Value).toArray wsX6_pass D cI cZ := ⟨⟨B.exec, B.bytes⟩, atoms_spec (ws := wsX6_pass) B.pre, (by decide +kernel), findClass_of_methodNamed B.named, hK⟩
  have hr := B.returns
  have hlocks := B.notSynchronized
  have hl := lv_entry ([.ref h, .int minutes]) (n := 3) (Nat.le_of_ble_eq_true rfl)
  rw [lg_entry_eq]
  generalize (lg_sl ([.ref h, .int minutes]) ++ List.replicate (3 - (lg_sl ([.ref h, .int minutes])).length) Slot.unset).toArray = ls at hl ⊢
  refine w_pass σ minutes hI E hml hA ⟨Nat.le_of_ble_eq_true rfl, Nat.le_of_ble_eq_true rfl⟩ ⟨Nat.zero_le _, Nat.zero_le _⟩ hP va_S.rf hl (fun pc v H1 locs1 ls1 hd hv hP1 hS1 => ?_)
  exact W.iret (v := v) B.exec B.bytes hr (fun t ht hW => ⟨⟨v, (), rfl, hv, by rw [ht]; exact hP1, va_K.moved hW.alike hK⟩, hS1.F ht⟩) hS1.2.2 hd
