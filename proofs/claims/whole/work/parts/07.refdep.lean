def lf_cancel_56 (σ : St) (own : Int32) (why : Int32) : Nat → Nat → St → St
  | 0, _, τ => τ
  | n + 1, i, τ => if (τ 34 0) ≤ (nI i) then τ else (lf_cancel_56 σ own why n (i + 1) (if (τ 36 (nI i).toNatClampNeg) = own then (if (τ 35 (nI i).toNatClampNeg) = 0 then (s_goesOver τ (nI i) (5 : Int32)) else τ) else τ))
def s_cancel (σ : St) (own : Int32) (why : Int32) : St := (lf_cancel_56 σ own why 101 0 (st (st (st σ 22 own.toNatClampNeg (3 : Int32)) 29 own.toNatClampNeg why) 9 (σ 25 own.toNatClampNeg).toNatClampNeg (if (σ 9 (σ 25 own.toNatClampNeg).toNatClampNeg) = 0 then why else (σ 9 (σ 25 own.toNatClampNeg).toNatClampNeg))))
set_option maxHeartbeats 4000000 in
set_option maxRecDepth 100000 in
theorem w_cancel {p : Program} {l : Launch} {e : Env} {R : Room} {s : State} {m : MethodId} {args : Array Value} {below : List Frame} {meth : Method} {c : Code} {H : Heap} {locs : List Loc} {cells slots : Nat} {Q : State → Prop} {D : va_G} {A : Nat → Prop} {cI cZ : ClassId} {h : Nat} {ls : Array Slot} (σ : St) (own : Int32) (why : Int32) (hI : MI σ) (h_own : vp_in own 60) (E : mE p c cX6_cancel s m args wsX6_cancel D cI cZ) (hml : c.maxLocals = 4) (hA : ∀ i, i < 44 → A (h + i)) (hR : 1 ≤ R.frames ∧ 26 ≤ R.locals) (hf : cells ≤ R.cells ∧ slots ≤ R.slots) (hP : va_P D vwCl (mW cI cZ h σ) H) (hS : va_S A s.heap H locs) (hl : lv_has ls 4 [(0, .ref h), (1, .int own), (2, .int why)]) (kr : ∀ (pc : Nat) (H1 : Heap) (locs1 : List Loc) (ls1 : Array Slot), decode cX6_cancel pc = .ok (.return_, 1) → va_P D vwCl (mW cI cZ h (s_cancel σ own why)) H1 → va_S A s.heap H1 locs1 → W p l e R s m args below meth c H1 locs1 cells slots Q (F0 m pc ls1 [])) : W p l e R s m args below meth c H locs cells slots Q (F0 m 0 ls []) := by
  have hx := E.1.1
  have hb := E.1.2
  have hts := E.2.1
  have hs : s_cancel σ own why = (lf_cancel_56 σ own why 101 0 (st (st (st σ 22 own.toNatClampNeg (3 : Int32)) 29 own.toNatClampNeg why) 9 (σ 25 own.toNatClampNeg).toNatClampNeg (if (σ 9 (σ 25 own.toNatClampNeg).toNatClampNeg) = 0 then why else (σ 9 (σ 25 own.toNatClampNeg).toNatClampNeg)))) := rfl
  refine lv_aload_n hx hb dX6_cancel_0 rfl (lv_at hl 0 rfl) ?_
  refine mg_state E hP (by decide +kernel) dX6_cancel_1 ?_
  refine lv_iload_n hx hb dX6_cancel_4 rfl (lv_at hl 1 rfl) ?_
  refine lv_iconst (v := 3) hx hb dX6_cancel_5 (by decide) ?_
  refine ms_state E hP hA hS h_own dX6_cancel_6 (fun H locs hP hS => ?_)
  refine lv_aload_n hx hb dX6_cancel_7 rfl (lv_at hl 0 rfl) ?_
  refine mg_reason E hP (by decide +kernel) dX6_cancel_8 ?_
  refine lv_iload_n hx hb dX6_cancel_11 rfl (lv_at hl 1 rfl) ?_
  refine lv_iload_n hx hb dX6_cancel_12 rfl (lv_at hl 2 rfl) ?_
  refine ms_reason E hP hA hS h_own dX6_cancel_13 (fun H locs hP hS => ?_)
  refine lv_aload_n hx hb dX6_cancel_14 rfl (lv_at hl 0 rfl) ?_
  refine mg_cause E hP (by decide +kernel) dX6_cancel_15 ?_
  refine lv_aload_n hx hb dX6_cancel_18 rfl (lv_at hl 0 rfl) ?_
  refine mg_to E hP (by decide +kernel) dX6_cancel_19 ?_
  refine lv_iload_n hx hb dX6_cancel_22 rfl (lv_at hl 1 rfl) ?_
  refine mlv_to E hP h_own (v := σ 25 own.toNatClampNeg) rfl dX6_cancel_23 ?_
  refine lv_aload_n hx hb dX6_cancel_24 rfl (lv_at hl 0 rfl) ?_
  refine mg_cause E hP (by decide +kernel) dX6_cancel_25 ?_
  refine lv_aload_n hx hb dX6_cancel_28 rfl (lv_at hl 0 rfl) ?_
  refine mg_to E hP (by decide +kernel) dX6_cancel_29 ?_
  refine lv_iload_n hx hb dX6_cancel_32 rfl (lv_at hl 1 rfl) ?_
  refine mlv_to E hP h_own (v := σ 25 own.toNatClampNeg) rfl dX6_cancel_33 ?_
  refine mlv_cause E hP (MI_to hI _) (v := σ 9 (σ 25 own.toNatClampNeg).toNatClampNeg) rfl dX6_cancel_34 ?_
  have J_1 : ∀ (y1_t0 : Int32) (H : Heap) (locs : List Loc) (ls : Array Slot), y1_t0 = (if (σ 9 (σ 25 own.toNatClampNeg).toNatClampNeg) = 0 then why else (σ 9 (σ 25 own.toNatClampNeg).toNatClampNeg)) → va_P D vwCl (mW cI cZ h (st (st σ 22 own.toNatClampNeg (3 : Int32)) 29 own.toNatClampNeg why)) H → va_S A s.heap H locs → lv_has ls 4 [(0, .ref h), (1, .int own), (2, .int why)] → W p l e R s m args below meth c H locs cells slots Q (F0 m 53 ls [.int y1_t0, .int (σ 25 own.toNatClampNeg), .ref (h + 7)]) := by
    intro y1_t0 H locs ls e_y1_t0 hP hS hl
    subst e_y1_t0
    refine ms_cause E hP hA hS (MI_to hI _) dX6_cancel_53 (fun H locs hP hS => ?_)
    refine lv_iconst (v := 0) hx hb dX6_cancel_54 (by decide) ?_
    refine lv_istore_n (lv' := [(3, .int (0 : Int32)), (0, .ref h), (1, .int own), (2, .int why)]) hx hb dX6_cancel_55 rfl hl (by decide) rfl (fun ls hl => ?_)
    obtain ⟨C, hC, eC⟩ := MI_n34 hI
    have L_5 : ∀ (n : Nat) (i : Nat) (τ : St) (H : Heap) (locs : List Loc) (ls : Array Slot), i + n = 101 → i ≤ C → lf_cancel_56 σ own why n i τ = lf_cancel_56 σ own why 101 0 (st (st (st σ 22 own.toNatClampNeg (3 : Int32)) 29 own.toNatClampNeg why) 9 (σ 25 own.toNatClampNeg).toNatClampNeg (if (σ 9 (σ 25 own.toNatClampNeg).toNatClampNeg) = 0 then why else (σ 9 (σ 25 own.toNatClampNeg).toNatClampNeg))) → MK σ τ → va_P D vwCl (mW cI cZ h τ) H → va_S A s.heap H locs → lv_has ls 4 [(3, .int (nI i)), (0, .ref h), (1, .int own), (2, .int why)] → W p l e R s m args below meth c H locs cells slots Q (F0 m 56 ls []) := by
      intro n
      induction n with
      | zero => intro i τ H locs ls hin hiC; omega
      | succ n ih =>
        intro i τ H locs ls hin hiC hfin hKτ hP hS hl
        have hIτ := hKτ.1
        have eCτ := (MK_n34 hKτ).trans eC
        have hfin : (if (τ 34 0) ≤ (nI i) then τ else (lf_cancel_56 σ own why n (i + 1) (if (τ 36 (nI i).toNatClampNeg) = own then (if (τ 35 (nI i).toNatClampNeg) = 0 then (s_goesOver τ (nI i) (5 : Int32)) else τ) else τ))) = lf_cancel_56 σ own why 101 0 (st (st (st σ 22 own.toNatClampNeg (3 : Int32)) 29 own.toNatClampNeg why) 9 (σ 25 own.toNatClampNeg).toNatClampNeg (if (σ 9 (σ 25 own.toNatClampNeg).toNatClampNeg) = 0 then why else (σ 9 (σ 25 own.toNatClampNeg).toNatClampNeg))) := hfin
        refine lv_iload_n hx hb dX6_cancel_56 rfl (lv_at hl 0 rfl) ?_
        refine lv_aload_n hx hb dX6_cancel_57 rfl (lv_at hl 1 rfl) ?_
        refine mg_bookings E hP (by decide +kernel) dX6_cancel_58 ?_
        refine lv_icmp_ge (tgt := 95) hx hb dX6_cancel_61 (by decide) (fun c_2 => ?_) (fun c_2 => ?_)
        · have hfin := (if_pos c_2).symm.trans hfin
          subst hfin
          have hKR5 := hKτ
          have hl := lv_sub hl [1, 2, 3] rfl
          exact kr _ H locs ls dX6_cancel_95 (by rw [hs]; exact hP) hS
        have hfin := (if_neg c_2).symm.trans hfin
        have hlt : i < C := m_lt eCτ c_2 (by omega) (by omega)
        refine lv_aload_n hx hb dX6_cancel_64 rfl (lv_at hl 1 rfl) ?_
        refine mg_on E hP (by decide +kernel) dX6_cancel_65 ?_
        refine lv_iload_n hx hb dX6_cancel_68 rfl (lv_at hl 0 rfl) ?_
        refine ml_on E hP (vp_in_nI (n := i) (by omega) (by omega)) dX6_cancel_69 ?_
        refine lv_iload_n hx hb dX6_cancel_70 rfl (lv_at hl 2 rfl) ?_
        have J_3 : ∀ (ρ3 : St) (H : Heap) (locs : List Loc) (ls : Array Slot), ρ3 = (if (τ 36 (nI i).toNatClampNeg) = own then (if (τ 35 (nI i).toNatClampNeg) = 0 then (s_goesOver τ (nI i) (5 : Int32)) else τ) else τ) → MK σ ρ3 → va_P D vwCl (mW cI cZ h ρ3) H → va_S A s.heap H locs → lv_has ls 4 [(3, .int (nI i)), (0, .ref h), (1, .int own), (2, .int why)] → W p l e R s m args below meth c H locs cells slots Q (F0 m 89 ls []) := by
          intro ρ3 H locs ls e_ρ3 hK3 hP hS hl
          subst e_ρ3
          refine lv_iinc (v := nI (i + 1)) (lv' := [(3, .int (nI (i + 1))), (0, .ref h), (1, .int own), (2, .int why)]) hx hb dX6_cancel_89 hl (k := 0) rfl (by first | rfl | exact nI_1 _) (by decide) rfl (fun ls hl => ?_)
          refine lv_goto (tgt := 56) hx hb dX6_cancel_92 (by decide) ?_
          exact ih (i + 1) (if (τ 36 (nI i).toNatClampNeg) = own then (if (τ 35 (nI i).toNatClampNeg) = 0 then (s_goesOver τ (nI i) (5 : Int32)) else τ) else τ) H locs ls (by omega) (by omega) hfin hK3 hP hS (lv_sub hl [0, 1, 2, 3] rfl)
        refine lv_icmp_ne (tgt := 89) hx hb dX6_cancel_71 (by decide) (fun c_3 => ?_) (fun c_3 => ?_)
        · exact J_3 τ H locs ls (if_neg c_3).symm hKτ hP hS (lv_sub hl [0, 1, 2, 3] rfl)
        refine lv_aload_n hx hb dX6_cancel_74 rfl (lv_at hl 1 rfl) ?_
        refine mg_how E hP (by decide +kernel) dX6_cancel_75 ?_
        refine lv_iload_n hx hb dX6_cancel_78 rfl (lv_at hl 0 rfl) ?_
        refine ml_how E hP (vp_in_nI (n := i) (by omega) (by omega)) dX6_cancel_79 ?_
        refine lv_if_ne (tgt := 89) hx hb dX6_cancel_80 (by decide) (fun c_4 => ?_) (fun c_4 => ?_)
        · exact J_3 τ H locs ls ((if_neg c_4).symm.trans (if_pos c_3).symm) hKτ hP hS (lv_sub hl [0, 1, 2, 3] rfl)
        refine lv_aload_n hx hb dX6_cancel_83 rfl (lv_at hl 1 rfl) ?_
        refine lv_iload_n hx hb dX6_cancel_84 rfl (lv_at hl 0 rfl) ?_
        refine lv_iconst (v := 5) hx hb dX6_cancel_85 (by decide) ?_
        refine mcV_v E hml hP hS (c_goesOver l hA τ (nI i) (5 : Int32) hIτ (vp_in_nI (n := i) (by omega) (by omega))) (cwV 2 hts gX6_cancel_X6_goesOver rfl rfl rfl (by decide +kernel) ⟨Nat.le_trans (Nat.le_of_ble_eq_true rfl) hR.1, Nat.le_trans (Nat.le_of_ble_eq_true rfl) hR.2⟩) rfl hl.1 rfl (Nat.le_of_ble_eq_true rfl) dX6_cancel_86 hf (fun H locs hP hS => ?_)
        exact J_3 (s_goesOver τ (nI i) (5 : Int32)) H locs ls ((if_pos c_4).symm.trans (if_pos c_3).symm) (MK_trans hKτ (MK_s_goesOver hKτ.1 (vp_in_nI (n := i) (by omega) (by omega)))) hP hS (lv_sub hl [0, 1, 2, 3] rfl)
    exact L_5 101 0 (st (st (st σ 22 own.toNatClampNeg (3 : Int32)) 29 own.toNatClampNeg why) 9 (σ 25 own.toNatClampNeg).toNatClampNeg (if (σ 9 (σ 25 own.toNatClampNeg).toNatClampNeg) = 0 then why else (σ 9 (σ 25 own.toNatClampNeg).toNatClampNeg))) H locs ls (by omega) (Nat.zero_le _) rfl (MK_o (MK_o (MK_o (MK_refl hI) (by decide)) (by decide)) (by decide)) hP hS (lv_sub hl [0, 1, 2, 3] rfl)
  refine lv_if_ne (tgt := 42) hx hb dX6_cancel_35 (by decide) (fun c_1 => ?_) (fun c_1 => ?_)
  · refine lv_aload_n hx hb dX6_cancel_42 rfl (lv_at hl 0 rfl) ?_
    refine mg_cause E hP (by decide +kernel) dX6_cancel_43 ?_
    refine lv_aload_n hx hb dX6_cancel_46 rfl (lv_at hl 0 rfl) ?_
    refine mg_to E hP (by decide +kernel) dX6_cancel_47 ?_
    refine lv_iload_n hx hb dX6_cancel_50 rfl (lv_at hl 1 rfl) ?_
    refine mlv_to E hP h_own (v := σ 25 own.toNatClampNeg) rfl dX6_cancel_51 ?_
    refine mlv_cause E hP (MI_to hI _) (v := σ 9 (σ 25 own.toNatClampNeg).toNatClampNeg) rfl dX6_cancel_52 ?_
    exact J_1 (σ 9 (σ 25 own.toNatClampNeg).toNatClampNeg) H locs ls (if_neg c_1).symm hP hS (lv_sub hl [0, 1, 2] rfl)
  refine lv_iload_n hx hb dX6_cancel_38 rfl (lv_at hl 2 rfl) ?_
  refine lv_goto (tgt := 53) hx hb dX6_cancel_39 (by decide) ?_
  exact J_1 why H locs ls (if_pos c_1).symm hP hS (lv_sub hl [0, 1, 2] rfl)
set_option maxHeartbeats 4000000 in
set_option maxRecDepth 100000 in
theorem c_cancel (l : Launch) {D : va_G} {A : Nat → Prop} {cI cZ : ClassId} {h : Nat} (hA : ∀ i, i < 44 → A (h + i)) (σ : St) (own : Int32) (why : Int32) (hI : MI σ) (h_own : vp_in own 60) : Met l yX6_cancel wsX6_cancel ({ frames := 1, cells := 0, slots := 0, locals := 26 }) (va_Pc [.ref h, .int own, .int why] (mU D cI cZ h σ)) (va_Qv (fun (_ : Unit) => True) (fun _ t => mU D cI cZ h (s_cancel σ own why) t) A) 0 0 A := by
  refine Met.ofW (cc := cX6_cancel) (maxL := 4) (ret := none) (by decide) rfl ?_
  intro p e s m args below meth c s₁ B hml hv
  obtain ⟨rfl, hP, hK⟩ := hv
  have E : mE p c cX6_cancel s m ([.ref h, .int own, .int why] : List Value).toArray wsX6_cancel D cI cZ := ⟨⟨B.exec, B.bytes⟩, atoms_spec (ws := wsX6_cancel) B.pre, (by decide +kernel), findClass_of_methodNamed B.named, hK⟩
  have hr := B.returns
  have hlocks := B.notSynchronized
  have hl := lv_entry ([.ref h, .int own, .int why]) (n := 4) (Nat.le_of_ble_eq_true rfl)
  rw [lg_entry_eq]
  generalize (lg_sl ([.ref h, .int own, .int why]) ++ List.replicate (4 - (lg_sl ([.ref h, .int own, .int why])).length) Slot.unset).toArray = ls at hl ⊢
  refine w_cancel σ own why hI h_own E hml hA ⟨Nat.le_of_ble_eq_true rfl, Nat.le_of_ble_eq_true rfl⟩ ⟨Nat.zero_le _, Nat.zero_le _⟩ hP va_S.rf hl (fun pc H1 locs1 ls1 hd hP1 hS1 => ?_)
  exact W.vret B.exec B.bytes hr (fun t ht hW => ⟨⟨(), rfl, trivial, by rw [ht]; exact hP1, va_K.moved hW.alike hK⟩, hS1.F ht⟩) hS1.2.2 hd
theorem MK_lf_cancel_56 {σ0 σ : St} {own why : Int32} : ∀ (n i : Nat) (τ : St), i + n ≤ 101 → MK σ0 τ → MK σ0 (lf_cancel_56 σ own why n i τ) := by
  intro n
  induction n with
  | zero => intro i τ _ h; exact h
  | succ n ih =>
    intro i τ hi h
    show MK σ0 (if (τ 34 0) ≤ (nI i) then τ else _)
    by_cases hc : (τ 34 0) ≤ (nI i)
    · rw [if_pos hc]; exact h
    · rw [if_neg hc]
      have hk : vp_in (nI i) 100 := by
        obtain ⟨C, hC, e⟩ := MI_n34 h.1
        exact vp_in_nI (Nat.lt_of_lt_of_le (m_lt e hc (by omega) (by omega)) hC) (by omega)
      have hM : MI τ := h.1
      repeat (first | with_reducible exact h | with_reducible refine ih _ _ (by omega) ?_ | with_reducible exact MK_trans h (MK_s_goesOver hM hk) | with_reducible refine MK_o ?_ (by decide) | with_reducible refine MK_if (fun _ => ?_) (fun _ => ?_))
theorem MK_s_cancel {σ : St} {own why : Int32} (hI : MI σ) (h_own : vp_in own 60) : MK σ (s_cancel σ own why) := by
  unfold s_cancel
  repeat (first | with_reducible exact MK_refl hI | with_reducible refine MK_lf_cancel_56 _ _ _ (by omega) ?_ | with_reducible refine MK_o ?_ (by decide) | with_reducible refine MK_if (fun _ => ?_) (fun _ => ?_))
def lf_arrive_28 (σ : St) (own : Int32) : Nat → Nat → St → St
  | 0, _, τ => τ
  | n + 1, i, τ => if (τ 34 0) ≤ (nI i) then τ else (lf_arrive_28 σ own n (i + 1) (st τ 35 (nI i).toNatClampNeg (if (τ 36 (nI i).toNatClampNeg) = own then (if (τ 35 (nI i).toNatClampNeg) = (1 : Int32) then (2 : Int32) else (τ 35 (nI i).toNatClampNeg)) else (τ 35 (nI i).toNatClampNeg))))
def s_arrive (σ : St) (own : Int32) : St := st (st (if (((lf_arrive_28 σ own 101 0 (st (st σ 22 own.toNatClampNeg (2 : Int32)) 19 (σ 23 own.toNatClampNeg).toNatClampNeg (σ 25 own.toNatClampNeg))) 1 0) - ((lf_arrive_28 σ own 101 0 (st (st σ 22 own.toNatClampNeg (2 : Int32)) 19 (σ 23 own.toNatClampNeg).toNatClampNeg (σ 25 own.toNatClampNeg))) 8 (σ 25 own.toNatClampNeg).toNatClampNeg)) ≤ ((lf_arrive_28 σ own 101 0 (st (st σ 22 own.toNatClampNeg (2 : Int32)) 19 (σ 23 own.toNatClampNeg).toNatClampNeg (σ 25 own.toNatClampNeg))) 10 (σ 25 own.toNatClampNeg).toNatClampNeg) then (lf_arrive_28 σ own 101 0 (st (st σ 22 own.toNatClampNeg (2 : Int32)) 19 (σ 23 own.toNatClampNeg).toNatClampNeg (σ 25 own.toNatClampNeg))) else (st (st (lf_arrive_28 σ own 101 0 (st (st σ 22 own.toNatClampNeg (2 : Int32)) 19 (σ 23 own.toNatClampNeg).toNatClampNeg (σ 25 own.toNatClampNeg))) 10 (σ 25 own.toNatClampNeg).toNatClampNeg (((lf_arrive_28 σ own 101 0 (st (st σ 22 own.toNatClampNeg (2 : Int32)) 19 (σ 23 own.toNatClampNeg).toNatClampNeg (σ 25 own.toNatClampNeg))) 1 0) - ((lf_arrive_28 σ own 101 0 (st (st σ 22 own.toNatClampNeg (2 : Int32)) 19 (σ 23 own.toNatClampNeg).toNatClampNeg (σ 25 own.toNatClampNeg))) 8 (σ 25 own.toNatClampNeg).toNatClampNeg))) 11 (σ 25 own.toNatClampNeg).toNatClampNeg ((lf_arrive_28 σ own 101 0 (st (st σ 22 own.toNatClampNeg (2 : Int32)) 19 (σ 23 own.toNatClampNeg).toNatClampNeg (σ 25 own.toNatClampNeg))) 9 (σ 25 own.toNatClampNeg).toNatClampNeg))) 8 (σ 25 own.toNatClampNeg).toNatClampNeg ((if (((lf_arrive_28 σ own 101 0 (st (st σ 22 own.toNatClampNeg (2 : Int32)) 19 (σ 23 own.toNatClampNeg).toNatClampNeg (σ 25 own.toNatClampNeg))) 1 0) - ((lf_arrive_28 σ own 101 0 (st (st σ 22 own.toNatClampNeg (2 : Int32)) 19 (σ 23 own.toNatClampNeg).toNatClampNeg (σ 25 own.toNatClampNeg))) 8 (σ 25 own.toNatClampNeg).toNatClampNeg)) ≤ ((lf_arrive_28 σ own 101 0 (st (st σ 22 own.toNatClampNeg (2 : Int32)) 19 (σ 23 own.toNatClampNeg).toNatClampNeg (σ 25 own.toNatClampNeg))) 10 (σ 25 own.toNatClampNeg).toNatClampNeg) then (lf_arrive_28 σ own 101 0 (st (st σ 22 own.toNatClampNeg (2 : Int32)) 19 (σ 23 own.toNatClampNeg).toNatClampNeg (σ 25 own.toNatClampNeg))) else (st (st (lf_arrive_28 σ own 101 0 (st (st σ 22 own.toNatClampNeg (2 : Int32)) 19 (σ 23 own.toNatClampNeg).toNatClampNeg (σ 25 own.toNatClampNeg))) 10 (σ 25 own.toNatClampNeg).toNatClampNeg (((lf_arrive_28 σ own 101 0 (st (st σ 22 own.toNatClampNeg (2 : Int32)) 19 (σ 23 own.toNatClampNeg).toNatClampNeg (σ 25 own.toNatClampNeg))) 1 0) - ((lf_arrive_28 σ own 101 0 (st (st σ 22 own.toNatClampNeg (2 : Int32)) 19 (σ 23 own.toNatClampNeg).toNatClampNeg (σ 25 own.toNatClampNeg))) 8 (σ 25 own.toNatClampNeg).toNatClampNeg))) 11 (σ 25 own.toNatClampNeg).toNatClampNeg ((lf_arrive_28 σ own 101 0 (st (st σ 22 own.toNatClampNeg (2 : Int32)) 19 (σ 23 own.toNatClampNeg).toNatClampNeg (σ 25 own.toNatClampNeg))) 9 (σ 25 own.toNatClampNeg).toNatClampNeg))) 1 0)) 9 (σ 25 own.toNatClampNeg).toNatClampNeg (0 : Int32)
set_option maxHeartbeats 4000000 in
set_option maxRecDepth 100000 in
theorem w_arrive {p : Program} {l : Launch} {e : Env} {R : Room} {s : State} {m : MethodId} {args : Array Value} {below : List Frame} {meth : Method} {c : Code} {H : Heap} {locs : List Loc} {cells slots : Nat} {Q : State → Prop} {D : va_G} {A : Nat → Prop} {cI cZ : ClassId} {h : Nat} {ls : Array Slot} (σ : St) (own : Int32) (hI : MI σ) (h_own : vp_in own 60) (E : mE p c cX6_arrive s m args wsX6_arrive D cI cZ) (hml : c.maxLocals = 4) (hA : ∀ i, i < 44 → A (h + i)) (hR : 0 ≤ R.frames ∧ 0 ≤ R.locals) (hf : cells ≤ R.cells ∧ slots ≤ R.slots) (hP : va_P D vwCl (mW cI cZ h σ) H) (hS : va_S A s.heap H locs) (hl : lv_has ls 4 [(0, .ref h), (1, .int own)]) (kr : ∀ (pc : Nat) (H1 : Heap) (locs1 : List Loc) (ls1 : Array Slot), decode cX6_arrive pc = .ok (.return_, 1) → va_P D vwCl (mW cI cZ h (s_arrive σ own)) H1 → va_S A s.heap H1 locs1 → W p l e R s m args below meth c H1 locs1 cells slots Q (F0 m pc ls1 [])) : W p l e R s m args below meth c H locs cells slots Q (F0 m 0 ls []) := by
  have hx := E.1.1
  have hb := E.1.2
  have hts := E.2.1
  have hs : s_arrive σ own = st (st (if (((lf_arrive_28 σ own 101 0 (st (st σ 22 own.toNatClampNeg (2 : Int32)) 19 (σ 23 own.toNatClampNeg).toNatClampNeg (σ 25 own.toNatClampNeg))) 1 0) - ((lf_arrive_28 σ own 101 0 (st (st σ 22 own.toNatClampNeg (2 : Int32)) 19 (σ 23 own.toNatClampNeg).toNatClampNeg (σ 25 own.toNatClampNeg))) 8 (σ 25 own.toNatClampNeg).toNatClampNeg)) ≤ ((lf_arrive_28 σ own 101 0 (st (st σ 22 own.toNatClampNeg (2 : Int32)) 19 (σ 23 own.toNatClampNeg).toNatClampNeg (σ 25 own.toNatClampNeg))) 10 (σ 25 own.toNatClampNeg).toNatClampNeg) then (lf_arrive_28 σ own 101 0 (st (st σ 22 own.toNatClampNeg (2 : Int32)) 19 (σ 23 own.toNatClampNeg).toNatClampNeg (σ 25 own.toNatClampNeg))) else (st (st (lf_arrive_28 σ own 101 0 (st (st σ 22 own.toNatClampNeg (2 : Int32)) 19 (σ 23 own.toNatClampNeg).toNatClampNeg (σ 25 own.toNatClampNeg))) 10 (σ 25 own.toNatClampNeg).toNatClampNeg (((lf_arrive_28 σ own 101 0 (st (st σ 22 own.toNatClampNeg (2 : Int32)) 19 (σ 23 own.toNatClampNeg).toNatClampNeg (σ 25 own.toNatClampNeg))) 1 0) - ((lf_arrive_28 σ own 101 0 (st (st σ 22 own.toNatClampNeg (2 : Int32)) 19 (σ 23 own.toNatClampNeg).toNatClampNeg (σ 25 own.toNatClampNeg))) 8 (σ 25 own.toNatClampNeg).toNatClampNeg))) 11 (σ 25 own.toNatClampNeg).toNatClampNeg ((lf_arrive_28 σ own 101 0 (st (st σ 22 own.toNatClampNeg (2 : Int32)) 19 (σ 23 own.toNatClampNeg).toNatClampNeg (σ 25 own.toNatClampNeg))) 9 (σ 25 own.toNatClampNeg).toNatClampNeg))) 8 (σ 25 own.toNatClampNeg).toNatClampNeg ((if (((lf_arrive_28 σ own 101 0 (st (st σ 22 own.toNatClampNeg (2 : Int32)) 19 (σ 23 own.toNatClampNeg).toNatClampNeg (σ 25 own.toNatClampNeg))) 1 0) - ((lf_arrive_28 σ own 101 0 (st (st σ 22 own.toNatClampNeg (2 : Int32)) 19 (σ 23 own.toNatClampNeg).toNatClampNeg (σ 25 own.toNatClampNeg))) 8 (σ 25 own.toNatClampNeg).toNatClampNeg)) ≤ ((lf_arrive_28 σ own 101 0 (st (st σ 22 own.toNatClampNeg (2 : Int32)) 19 (σ 23 own.toNatClampNeg).toNatClampNeg (σ 25 own.toNatClampNeg))) 10 (σ 25 own.toNatClampNeg).toNatClampNeg) then (lf_arrive_28 σ own 101 0 (st (st σ 22 own.toNatClampNeg (2 : Int32)) 19 (σ 23 own.toNatClampNeg).toNatClampNeg (σ 25 own.toNatClampNeg))) else (st (st (lf_arrive_28 σ own 101 0 (st (st σ 22 own.toNatClampNeg (2 : Int32)) 19 (σ 23 own.toNatClampNeg).toNatClampNeg (σ 25 own.toNatClampNeg))) 10 (σ 25 own.toNatClampNeg).toNatClampNeg (((lf_arrive_28 σ own 101 0 (st (st σ 22 own.toNatClampNeg (2 : Int32)) 19 (σ 23 own.toNatClampNeg).toNatClampNeg (σ 25 own.toNatClampNeg))) 1 0) - ((lf_arrive_28 σ own 101 0 (st (st σ 22 own.toNatClampNeg (2 : Int32)) 19 (σ 23 own.toNatClampNeg).toNatClampNeg (σ 25 own.toNatClampNeg))) 8 (σ 25 own.toNatClampNeg).toNatClampNeg))) 11 (σ 25 own.toNatClampNeg).toNatClampNeg ((lf_arrive_28 σ own 101 0 (st (st σ 22 own.toNatClampNeg (2 : Int32)) 19 (σ 23 own.toNatClampNeg).toNatClampNeg (σ 25 own.toNatClampNeg))) 9 (σ 25 own.toNatClampNeg).toNatClampNeg))) 1 0)) 9 (σ 25 own.toNatClampNeg).toNatClampNeg (0 : Int32) := rfl
  refine lv_aload_n hx hb dX6_arrive_0 rfl (lv_at hl 0 rfl) ?_
  refine mg_to E hP (by decide +kernel) dX6_arrive_1 ?_
  refine lv_iload_n hx hb dX6_arrive_4 rfl (lv_at hl 1 rfl) ?_
  refine ml_to E hP h_own dX6_arrive_5 ?_
  refine lv_istore_n (lv' := [(2, .int (σ 25 own.toNatClampNeg)), (0, .ref h), (1, .int own)]) hx hb dX6_arrive_6 rfl hl (by decide) rfl (fun ls hl => ?_)
  refine lv_aload_n hx hb dX6_arrive_7 rfl (lv_at hl 1 rfl) ?_
  refine mg_state E hP (by decide +kernel) dX6_arrive_8 ?_
  refine lv_iload_n hx hb dX6_arrive_11 rfl (lv_at hl 2 rfl) ?_
  refine lv_iconst (v := 2) hx hb dX6_arrive_12 (by decide) ?_
  refine ms_state E hP hA hS h_own dX6_arrive_13 (fun H locs hP hS => ?_)
  refine lv_aload_n hx hb dX6_arrive_14 rfl (lv_at hl 1 rfl) ?_
  refine mg_lies E hP (by decide +kernel) dX6_arrive_15 ?_
  refine lv_aload_n hx hb dX6_arrive_18 rfl (lv_at hl 1 rfl) ?_
  refine mg_boatOf E hP (by decide +kernel) dX6_arrive_19 ?_
  refine lv_iload_n hx hb dX6_arrive_22 rfl (lv_at hl 2 rfl) ?_
  refine mlv_boatOf E hP h_own (v := σ 23 own.toNatClampNeg) rfl dX6_arrive_23 ?_
  refine lv_iload_n hx hb dX6_arrive_24 rfl (lv_at hl 0 rfl) ?_
  refine ms_lies E hP hA hS (MI_bo hI _) dX6_arrive_25 (fun H locs hP hS => ?_)
  refine lv_iconst (v := 0) hx hb dX6_arrive_26 (by decide) ?_
  refine lv_istore_n (lv' := [(3, .int (0 : Int32)), (2, .int (σ 25 own.toNatClampNeg)), (0, .ref h), (1, .int own)]) hx hb dX6_arrive_27 rfl hl (by decide) rfl (fun ls hl => ?_)
  obtain ⟨C, hC, eC⟩ := MI_n34 hI
  have L_4 : ∀ (n : Nat) (i : Nat) (τ : St) (H : Heap) (locs : List Loc) (ls : Array Slot), i + n = 101 → i ≤ C → lf_arrive_28 σ own n i τ = lf_arrive_28 σ own 101 0 (st (st σ 22 own.toNatClampNeg (2 : Int32)) 19 (σ 23 own.toNatClampNeg).toNatClampNeg (σ 25 own.toNatClampNeg)) → MK σ τ → va_P D vwCl (mW cI cZ h τ) H → va_S A s.heap H locs → lv_has ls 4 [(3, .int (nI i)), (2, .int (σ 25 own.toNatClampNeg)), (0, .ref h), (1, .int own)] → W p l e R s m args below meth c H locs cells slots Q (F0 m 28 ls []) := by
    intro n
    induction n with
    | zero => intro i τ H locs ls hin hiC; omega
    | succ n ih =>
      intro i τ H locs ls hin hiC hfin hKτ hP hS hl
      have hIτ := hKτ.1
      have eCτ := (MK_n34 hKτ).trans eC
      have hfin : (if (τ 34 0) ≤ (nI i) then τ else (lf_arrive_28 σ own n (i + 1) (st τ 35 (nI i).toNatClampNeg (if (τ 36 (nI i).toNatClampNeg) = own then (if (τ 35 (nI i).toNatClampNeg) = (1 : Int32) then (2 : Int32) else (τ 35 (nI i).toNatClampNeg)) else (τ 35 (nI i).toNatClampNeg))))) = lf_arrive_28 σ own 101 0 (st (st σ 22 own.toNatClampNeg (2 : Int32)) 19 (σ 23 own.toNatClampNeg).toNatClampNeg (σ 25 own.toNatClampNeg)) := hfin
      refine lv_iload_n hx hb dX6_arrive_28 rfl (lv_at hl 0 rfl) ?_
      refine lv_aload_n hx hb dX6_arrive_29 rfl (lv_at hl 2 rfl) ?_
      refine mg_bookings E hP (by decide +kernel) dX6_arrive_30 ?_
      refine lv_icmp_ge (tgt := 78) hx hb dX6_arrive_33 (by decide) (fun c_1 => ?_) (fun c_1 => ?_)
      · have hfin := (if_pos c_1).symm.trans hfin
        subst hfin
        have hKR4 := hKτ
        have hl := lv_sub hl [1, 2, 3] rfl
        refine lv_aload_n hx hb dX6_arrive_78 rfl (lv_at hl 1 rfl) ?_
        refine mg_now E hP (by decide +kernel) dX6_arrive_79 ?_
        refine lv_aload_n hx hb dX6_arrive_82 rfl (lv_at hl 1 rfl) ?_
        refine mg_since E hP (by decide +kernel) dX6_arrive_83 ?_
        refine lv_iload_n hx hb dX6_arrive_86 rfl (lv_at hl 0 rfl) ?_
        refine ml_since E hP (MI_to hI _) dX6_arrive_87 ?_
        refine lv_isub hx hb dX6_arrive_88 ?_
        refine lv_aload_n hx hb dX6_arrive_89 rfl (lv_at hl 1 rfl) ?_
        refine mg_longest E hP (by decide +kernel) dX6_arrive_90 ?_
        refine lv_iload_n hx hb dX6_arrive_93 rfl (lv_at hl 0 rfl) ?_
        refine ml_longest E hP (MI_to hI _) dX6_arrive_94 ?_
        have J_5 : ∀ (ρ5 : St) (H : Heap) (locs : List Loc) (ls : Array Slot), ρ5 = (if (((lf_arrive_28 σ own 101 0 (st (st σ 22 own.toNatClampNeg (2 : Int32)) 19 (σ 23 own.toNatClampNeg).toNatClampNeg (σ 25 own.toNatClampNeg))) 1 0) - ((lf_arrive_28 σ own 101 0 (st (st σ 22 own.toNatClampNeg (2 : Int32)) 19 (σ 23 own.toNatClampNeg).toNatClampNeg (σ 25 own.toNatClampNeg))) 8 (σ 25 own.toNatClampNeg).toNatClampNeg)) ≤ ((lf_arrive_28 σ own 101 0 (st (st σ 22 own.toNatClampNeg (2 : Int32)) 19 (σ 23 own.toNatClampNeg).toNatClampNeg (σ 25 own.toNatClampNeg))) 10 (σ 25 own.toNatClampNeg).toNatClampNeg) then (lf_arrive_28 σ own 101 0 (st (st σ 22 own.toNatClampNeg (2 : Int32)) 19 (σ 23 own.toNatClampNeg).toNatClampNeg (σ 25 own.toNatClampNeg))) else (st (st (lf_arrive_28 σ own 101 0 (st (st σ 22 own.toNatClampNeg (2 : Int32)) 19 (σ 23 own.toNatClampNeg).toNatClampNeg (σ 25 own.toNatClampNeg))) 10 (σ 25 own.toNatClampNeg).toNatClampNeg (((lf_arrive_28 σ own 101 0 (st (st σ 22 own.toNatClampNeg (2 : Int32)) 19 (σ 23 own.toNatClampNeg).toNatClampNeg (σ 25 own.toNatClampNeg))) 1 0) - ((lf_arrive_28 σ own 101 0 (st (st σ 22 own.toNatClampNeg (2 : Int32)) 19 (σ 23 own.toNatClampNeg).toNatClampNeg (σ 25 own.toNatClampNeg))) 8 (σ 25 own.toNatClampNeg).toNatClampNeg))) 11 (σ 25 own.toNatClampNeg).toNatClampNeg ((lf_arrive_28 σ own 101 0 (st (st σ 22 own.toNatClampNeg (2 : Int32)) 19 (σ 23 own.toNatClampNeg).toNatClampNeg (σ 25 own.toNatClampNeg))) 9 (σ 25 own.toNatClampNeg).toNatClampNeg))) → va_P D vwCl (mW cI cZ h ρ5) H → va_S A s.heap H locs → lv_has ls 4 [(2, .int (σ 25 own.toNatClampNeg)), (0, .ref h), (1, .int own)] → W p l e R s m args below meth c H locs cells slots Q (F0 m 127 ls []) := by
          intro ρ5 H locs ls e_ρ5 hP hS hl
          subst e_ρ5
          refine lv_aload_n hx hb dX6_arrive_127 rfl (lv_at hl 1 rfl) ?_
          refine mg_since E hP (by decide +kernel) dX6_arrive_128 ?_
          refine lv_iload_n hx hb dX6_arrive_131 rfl (lv_at hl 0 rfl) ?_
          refine lv_aload_n hx hb dX6_arrive_132 rfl (lv_at hl 1 rfl) ?_
          refine mg_now E hP (by decide +kernel) dX6_arrive_133 ?_
          refine ms_since E hP hA hS (MI_to hI _) dX6_arrive_136 (fun H locs hP hS => ?_)
          refine lv_aload_n hx hb dX6_arrive_137 rfl (lv_at hl 1 rfl) ?_
          refine mg_cause E hP (by decide +kernel) dX6_arrive_138 ?_
          refine lv_iload_n hx hb dX6_arrive_141 rfl (lv_at hl 0 rfl) ?_
          refine lv_iconst (v := 0) hx hb dX6_arrive_142 (by decide) ?_
          refine ms_cause E hP hA hS (MI_to hI _) dX6_arrive_143 (fun H locs hP hS => ?_)
          exact kr _ H locs ls dX6_arrive_144 (by rw [hs]; exact hP) hS
        refine lv_icmp_le (tgt := 127) hx hb dX6_arrive_95 (by decide) (fun c_5 => ?_) (fun c_5 => ?_)
        · exact J_5 (lf_arrive_28 σ own 101 0 (st (st σ 22 own.toNatClampNeg (2 : Int32)) 19 (σ 23 own.toNatClampNeg).toNatClampNeg (σ 25 own.toNatClampNeg))) H locs ls (if_pos c_5).symm hP hS (lv_sub hl [0, 1, 2] rfl)
        refine lv_aload_n hx hb dX6_arrive_98 rfl (lv_at hl 1 rfl) ?_
        refine mg_longest E hP (by decide +kernel) dX6_arrive_99 ?_
        refine lv_iload_n hx hb dX6_arrive_102 rfl (lv_at hl 0 rfl) ?_
        refine lv_aload_n hx hb dX6_arrive_103 rfl (lv_at hl 1 rfl) ?_
        refine mg_now E hP (by decide +kernel) dX6_arrive_104 ?_
        refine lv_aload_n hx hb dX6_arrive_107 rfl (lv_at hl 1 rfl) ?_
        refine mg_since E hP (by decide +kernel) dX6_arrive_108 ?_
        refine lv_iload_n hx hb dX6_arrive_111 rfl (lv_at hl 0 rfl) ?_
        refine ml_since E hP (MI_to hI _) dX6_arrive_112 ?_
        refine lv_isub hx hb dX6_arrive_113 ?_
        refine ms_longest E hP hA hS (MI_to hI _) dX6_arrive_114 (fun H locs hP hS => ?_)
        refine lv_aload_n hx hb dX6_arrive_115 rfl (lv_at hl 1 rfl) ?_
        refine mg_longestCause E hP (by decide +kernel) dX6_arrive_116 ?_
        refine lv_iload_n hx hb dX6_arrive_119 rfl (lv_at hl 0 rfl) ?_
        refine lv_aload_n hx hb dX6_arrive_120 rfl (lv_at hl 1 rfl) ?_
        refine mg_cause E hP (by decide +kernel) dX6_arrive_121 ?_
        refine lv_iload_n hx hb dX6_arrive_124 rfl (lv_at hl 0 rfl) ?_
        refine mlv_cause E hP (MI_to hI _) (v := (lf_arrive_28 σ own 101 0 (st (st σ 22 own.toNatClampNeg (2 : Int32)) 19 (σ 23 own.toNatClampNeg).toNatClampNeg (σ 25 own.toNatClampNeg))) 9 (σ 25 own.toNatClampNeg).toNatClampNeg) rfl dX6_arrive_125 ?_
        refine ms_longestCause E hP hA hS (MI_to hI _) dX6_arrive_126 (fun H locs hP hS => ?_)
        exact J_5 (st (st (lf_arrive_28 σ own 101 0 (st (st σ 22 own.toNatClampNeg (2 : Int32)) 19 (σ 23 own.toNatClampNeg).toNatClampNeg (σ 25 own.toNatClampNeg))) 10 (σ 25 own.toNatClampNeg).toNatClampNeg (((lf_arrive_28 σ own 101 0 (st (st σ 22 own.toNatClampNeg (2 : Int32)) 19 (σ 23 own.toNatClampNeg).toNatClampNeg (σ 25 own.toNatClampNeg))) 1 0) - ((lf_arrive_28 σ own 101 0 (st (st σ 22 own.toNatClampNeg (2 : Int32)) 19 (σ 23 own.toNatClampNeg).toNatClampNeg (σ 25 own.toNatClampNeg))) 8 (σ 25 own.toNatClampNeg).toNatClampNeg))) 11 (σ 25 own.toNatClampNeg).toNatClampNeg ((lf_arrive_28 σ own 101 0 (st (st σ 22 own.toNatClampNeg (2 : Int32)) 19 (σ 23 own.toNatClampNeg).toNatClampNeg (σ 25 own.toNatClampNeg))) 9 (σ 25 own.toNatClampNeg).toNatClampNeg)) H locs ls (if_neg c_5).symm hP hS (lv_sub hl [0, 1, 2] rfl)
      have hfin := (if_neg c_1).symm.trans hfin
      have hlt : i < C := m_lt eCτ c_1 (by omega) (by omega)
      refine lv_aload_n hx hb dX6_arrive_36 rfl (lv_at hl 2 rfl) ?_
      refine mg_how E hP (by decide +kernel) dX6_arrive_37 ?_
      refine lv_iload_n hx hb dX6_arrive_40 rfl (lv_at hl 0 rfl) ?_
      refine lv_aload_n hx hb dX6_arrive_41 rfl (lv_at hl 2 rfl) ?_
      refine mg_on E hP (by decide +kernel) dX6_arrive_42 ?_
      refine lv_iload_n hx hb dX6_arrive_45 rfl (lv_at hl 0 rfl) ?_
      refine ml_on E hP (vp_in_nI (n := i) (by omega) (by omega)) dX6_arrive_46 ?_
      refine lv_iload_n hx hb dX6_arrive_47 rfl (lv_at hl 3 rfl) ?_
      have J_2 : ∀ (y2_t0 : Int32) (H : Heap) (locs : List Loc) (ls : Array Slot), y2_t0 = (if (τ 36 (nI i).toNatClampNeg) = own then (if (τ 35 (nI i).toNatClampNeg) = (1 : Int32) then (2 : Int32) else (τ 35 (nI i).toNatClampNeg)) else (τ 35 (nI i).toNatClampNeg)) → va_P D vwCl (mW cI cZ h τ) H → va_S A s.heap H locs → lv_has ls 4 [(3, .int (nI i)), (2, .int (σ 25 own.toNatClampNeg)), (0, .ref h), (1, .int own)] → W p l e R s m args below meth c H locs cells slots Q (F0 m 71 ls [.int y2_t0, .int (nI i), .ref (h + 30)]) := by
        intro y2_t0 H locs ls e_y2_t0 hP hS hl
        subst e_y2_t0
        refine ms_how E hP hA hS (vp_in_nI (n := i) (by omega) (by omega)) dX6_arrive_71 (fun H locs hP hS => ?_)
        refine lv_iinc (v := nI (i + 1)) (lv' := [(3, .int (nI (i + 1))), (2, .int (σ 25 own.toNatClampNeg)), (0, .ref h), (1, .int own)]) hx hb dX6_arrive_72 hl (k := 0) rfl (by first | rfl | exact nI_1 _) (by decide) rfl (fun ls hl => ?_)
        refine lv_goto (tgt := 28) hx hb dX6_arrive_75 (by decide) ?_
        exact ih (i + 1) (st τ 35 (nI i).toNatClampNeg (if (τ 36 (nI i).toNatClampNeg) = own then (if (τ 35 (nI i).toNatClampNeg) = (1 : Int32) then (2 : Int32) else (τ 35 (nI i).toNatClampNeg)) else (τ 35 (nI i).toNatClampNeg))) H locs ls (by omega) (by omega) hfin (MK_o hKτ (by decide)) hP hS (lv_sub hl [0, 1, 2, 3] rfl)
      refine lv_icmp_ne (tgt := 65) hx hb dX6_arrive_48 (by decide) (fun c_2 => ?_) (fun c_2 => ?_)
      · refine lv_aload_n hx hb dX6_arrive_65 rfl (lv_at hl 2 rfl) ?_
        refine mg_how E hP (by decide +kernel) dX6_arrive_66 ?_
        refine lv_iload_n hx hb dX6_arrive_69 rfl (lv_at hl 0 rfl) ?_
        refine ml_how E hP (vp_in_nI (n := i) (by omega) (by omega)) dX6_arrive_70 ?_
        exact J_2 (τ 35 (nI i).toNatClampNeg) H locs ls (if_neg c_2).symm hP hS (lv_sub hl [0, 1, 2, 3] rfl)
      refine lv_aload_n hx hb dX6_arrive_51 rfl (lv_at hl 2 rfl) ?_
      refine mg_how E hP (by decide +kernel) dX6_arrive_52 ?_
      refine lv_iload_n hx hb dX6_arrive_55 rfl (lv_at hl 0 rfl) ?_
      refine ml_how E hP (vp_in_nI (n := i) (by omega) (by omega)) dX6_arrive_56 ?_
      refine lv_iconst (v := 1) hx hb dX6_arrive_57 (by decide) ?_
      refine lv_icmp_ne (tgt := 65) hx hb dX6_arrive_58 (by decide) (fun c_3 => ?_) (fun c_3 => ?_)
      · refine lv_aload_n hx hb dX6_arrive_65 rfl (lv_at hl 2 rfl) ?_
        refine mg_how E hP (by decide +kernel) dX6_arrive_66 ?_
        refine lv_iload_n hx hb dX6_arrive_69 rfl (lv_at hl 0 rfl) ?_
        refine ml_how E hP (vp_in_nI (n := i) (by omega) (by omega)) dX6_arrive_70 ?_
        exact J_2 (τ 35 (nI i).toNatClampNeg) H locs ls ((if_neg c_3).symm.trans (if_pos c_2).symm) hP hS (lv_sub hl [0, 1, 2, 3] rfl)
      refine lv_iconst (v := 2) hx hb dX6_arrive_61 (by decide) ?_
      refine lv_goto (tgt := 71) hx hb dX6_arrive_62 (by decide) ?_
      exact J_2 (2 : Int32) H locs ls ((if_pos c_3).symm.trans (if_pos c_2).symm) hP hS (lv_sub hl [0, 1, 2, 3] rfl)
  exact L_4 101 0 (st (st σ 22 own.toNatClampNeg (2 : Int32)) 19 (σ 23 own.toNatClampNeg).toNatClampNeg (σ 25 own.toNatClampNeg)) H locs ls (by omega) (Nat.zero_le _) rfl (MK_o (MK_o (MK_refl hI) (by decide)) (by decide)) hP hS (lv_sub hl [0, 1, 2, 3] rfl)
set_option maxHeartbeats 4000000 in
set_option maxRecDepth 100000 in
theorem c_arrive (l : Launch) {D : va_G} {A : Nat → Prop} {cI cZ : ClassId} {h : Nat} (hA : ∀ i, i < 44 → A (h + i)) (σ : St) (own : Int32) (hI : MI σ) (h_own : vp_in own 60) : Met l yX6_arrive wsX6_arrive ({ frames := 0, cells := 0, slots := 0, locals := 0 }) (va_Pc [.ref h, .int own] (mU D cI cZ h σ)) (va_Qv (fun (_ : Unit) => True) (fun _ t => mU D cI cZ h (s_arrive σ own) t) A) 0 0 A := by
  refine Met.ofW (cc := cX6_arrive) (maxL := 4) (ret := none) (by decide) rfl ?_
  intro p e s m args below meth c s₁ B hml hv
  obtain ⟨rfl, hP, hK⟩ := hv
  have E : mE p c cX6_arrive s m ([.ref h, .int own] : List Value).toArray wsX6_arrive D cI cZ := ⟨⟨B.exec, B.bytes⟩, atoms_spec (ws := wsX6_arrive) B.pre, (by decide +kernel), findClass_of_methodNamed B.named, hK⟩
  have hr := B.returns
  have hlocks := B.notSynchronized
  have hl := lv_entry ([.ref h, .int own]) (n := 4) (Nat.le_of_ble_eq_true rfl)
  rw [lg_entry_eq]
  generalize (lg_sl ([.ref h, .int own]) ++ List.replicate (4 - (lg_sl ([.ref h, .int own])).length) Slot.unset).toArray = ls at hl ⊢
  refine w_arrive σ own hI h_own E hml hA ⟨Nat.le_of_ble_eq_true rfl, Nat.le_of_ble_eq_true rfl⟩ ⟨Nat.zero_le _, Nat.zero_le _⟩ hP va_S.rf hl (fun pc H1 locs1 ls1 hd hP1 hS1 => ?_)
  exact W.vret B.exec B.bytes hr (fun t ht hW => ⟨⟨(), rfl, trivial, by rw [ht]; exact hP1, va_K.moved hW.alike hK⟩, hS1.F ht⟩) hS1.2.2 hd
theorem MK_lf_arrive_28 {σ0 σ : St} {own : Int32} : ∀ (n i : Nat) (τ : St), i + n ≤ 101 → MK σ0 τ → MK σ0 (lf_arrive_28 σ own n i τ) := by
  intro n
  induction n with
  | zero => intro i τ _ h; exact h
  | succ n ih =>
    intro i τ hi h
    show MK σ0 (if (τ 34 0) ≤ (nI i) then τ else _)
    by_cases hc : (τ 34 0) ≤ (nI i)
    · rw [if_pos hc]; exact h
    · rw [if_neg hc]
      have hk : vp_in (nI i) 100 := by
        obtain ⟨C, hC, e⟩ := MI_n34 h.1
        exact vp_in_nI (Nat.lt_of_lt_of_le (m_lt e hc (by omega) (by omega)) hC) (by omega)
      have hM : MI τ := h.1
      repeat (first | with_reducible exact h | with_reducible refine ih _ _ (by omega) ?_ | with_reducible refine MK_o ?_ (by decide) | with_reducible refine MK_if (fun _ => ?_) (fun _ => ?_))
theorem MK_s_arrive {σ : St} {own : Int32} (hI : MI σ) (h_own : vp_in own 60) : MK σ (s_arrive σ own) := by
  unfold s_arrive
  repeat (first | with_reducible exact MK_refl hI | with_reducible refine MK_lf_arrive_28 _ _ _ (by omega) ?_ | with_reducible refine MK_o ?_ (by decide) | with_reducible refine MK_if (fun _ => ?_) (fun _ => ?_))
def k96t0_decide (σ : St) (own : Int32) : Int32 := if (σ 20 (σ 23 own.toNatClampNeg).toNatClampNeg) = 0 then (if (q_isDark σ own ((σ 26 own.toNatClampNeg) + (σ 27 own.toNatClampNeg))) = 0 then (if (q_isRough σ own) = 0 then (0 : Int32) else (5 : Int32)) else (4 : Int32)) else (1 : Int32)
def s_decide (σ : St) (own : Int32) : St := if (σ 22 own.toNatClampNeg) = 0 then (if (if ((σ 26 own.toNatClampNeg) / (1440 : Int32)) = ((σ 1 0) / (1440 : Int32)) then (1 : Int32) else (0 : Int32)) = 0 then σ else (if (k96t0_decide σ own) ≤ 0 then σ else (s_cancel σ own (k96t0_decide σ own)))) else σ
set_option maxHeartbeats 4000000 in
set_option maxRecDepth 100000 in
theorem w_decide {p : Program} {l : Launch} {e : Env} {R : Room} {s : State} {m : MethodId} {args : Array Value} {below : List Frame} {meth : Method} {c : Code} {H : Heap} {locs : List Loc} {cells slots : Nat} {Q : State → Prop} {D : va_G} {A : Nat → Prop} {cI cZ : ClassId} {h : Nat} {ls : Array Slot} (σ : St) (own : Int32) (hI : MI σ) (h_own : vp_in own 60) (E : mE p c cX6_decide s m args wsX6_decide D cI cZ) (hml : c.maxLocals = 4) (hA : ∀ i, i < 44 → A (h + i)) (hR : 2 ≤ R.frames ∧ 49 ≤ R.locals) (hf : cells ≤ R.cells ∧ slots ≤ R.slots) (hP : va_P D vwCl (mW cI cZ h σ) H) (hS : va_S A s.heap H locs) (hl : lv_has ls 4 [(0, .ref h), (1, .int own)]) (kr : ∀ (pc : Nat) (H1 : Heap) (locs1 : List Loc) (ls1 : Array Slot), decode cX6_decide pc = .ok (.return_, 1) → va_P D vwCl (mW cI cZ h (s_decide σ own)) H1 → va_S A s.heap H1 locs1 → W p l e R s m args below meth c H1 locs1 cells slots Q (F0 m pc ls1 [])) : W p l e R s m args below meth c H locs cells slots Q (F0 m 0 ls []) := by
  have hx := E.1.1
  have hb := E.1.2
  have hts := E.2.1
  have hs : s_decide σ own = if (σ 22 own.toNatClampNeg) = 0 then (if (if ((σ 26 own.toNatClampNeg) / (1440 : Int32)) = ((σ 1 0) / (1440 : Int32)) then (1 : Int32) else (0 : Int32)) = 0 then σ else (if (k96t0_decide σ own) ≤ 0 then σ else (s_cancel σ own (k96t0_decide σ own)))) else σ := rfl
  refine lv_aload_n hx hb dX6_decide_0 rfl (lv_at hl 0 rfl) ?_
  refine mg_departs E hP (by decide +kernel) dX6_decide_1 ?_
  refine lv_iload_n hx hb dX6_decide_4 rfl (lv_at hl 1 rfl) ?_
  refine ml_departs E hP h_own dX6_decide_5 ?_
  refine lv_sipush (v := 1440) hx hb dX6_decide_6 (by decide) ?_
  refine lv_idiv hx hb dX6_decide_9 (by decide) ?_
  refine lv_aload_n hx hb dX6_decide_10 rfl (lv_at hl 0 rfl) ?_
  refine mg_now E hP (by decide +kernel) dX6_decide_11 ?_
  refine lv_sipush (v := 1440) hx hb dX6_decide_14 (by decide) ?_
  refine lv_idiv hx hb dX6_decide_17 (by decide) ?_
  have J_1 : ∀ (y1_t0 : Int32) (H : Heap) (locs : List Loc) (ls : Array Slot), y1_t0 = (if ((σ 26 own.toNatClampNeg) / (1440 : Int32)) = ((σ 1 0) / (1440 : Int32)) then (1 : Int32) else (0 : Int32)) → va_P D vwCl (mW cI cZ h σ) H → va_S A s.heap H locs → lv_has ls 4 [(0, .ref h), (1, .int own)] → W p l e R s m args below meth c H locs cells slots Q (F0 m 26 ls [.int y1_t0]) := by
    intro y1_t0 H locs ls e_y1_t0 hP hS hl
    subst e_y1_t0
    refine lv_istore_n (lv' := [(2, .int (if ((σ 26 own.toNatClampNeg) / (1440 : Int32)) = ((σ 1 0) / (1440 : Int32)) then (1 : Int32) else (0 : Int32))), (0, .ref h), (1, .int own)]) hx hb dX6_decide_26 rfl hl (by decide) rfl (fun ls hl => ?_)
    refine lv_aload_n hx hb dX6_decide_27 rfl (lv_at hl 1 rfl) ?_
    refine mg_state E hP (by decide +kernel) dX6_decide_28 ?_
    refine lv_iload_n hx hb dX6_decide_31 rfl (lv_at hl 2 rfl) ?_
    refine ml_state E hP h_own dX6_decide_32 ?_
    have J_2 : ∀ (ρ2 : St) (H : Heap) (locs : List Loc) (ls : Array Slot), ρ2 = (if (σ 22 own.toNatClampNeg) = 0 then (if (if ((σ 26 own.toNatClampNeg) / (1440 : Int32)) = ((σ 1 0) / (1440 : Int32)) then (1 : Int32) else (0 : Int32)) = 0 then σ else (if (k96t0_decide σ own) ≤ 0 then σ else (s_cancel σ own (k96t0_decide σ own)))) else σ) → va_P D vwCl (mW cI cZ h ρ2) H → va_S A s.heap H locs → lv_has ls 4 [(2, .int (if ((σ 26 own.toNatClampNeg) / (1440 : Int32)) = ((σ 1 0) / (1440 : Int32)) then (1 : Int32) else (0 : Int32))), (0, .ref h), (1, .int own)] → W p l e R s m args below meth c H locs cells slots Q (F0 m 107 ls []) := by
      intro ρ2 H locs ls e_ρ2 hP hS hl
      subst e_ρ2
      exact kr _ H locs ls dX6_decide_107 (by rw [hs]; exact hP) hS
    refine lv_if_ne (tgt := 107) hx hb dX6_decide_33 (by decide) (fun c_2 => ?_) (fun c_2 => ?_)
    · exact J_2 σ H locs ls (if_neg c_2).symm hP hS (lv_sub hl [0, 1, 2] rfl)
    refine lv_iload_n hx hb dX6_decide_36 rfl (lv_at hl 0 rfl) ?_
    refine lv_if_eq (tgt := 107) hx hb dX6_decide_37 (by decide) (fun c_3 => ?_) (fun c_3 => ?_)
    · exact J_2 σ H locs ls ((if_pos c_3).symm.trans (if_pos c_2).symm) hP hS (lv_sub hl [0, 1, 2] rfl)
    refine lv_aload_n hx hb dX6_decide_40 rfl (lv_at hl 1 rfl) ?_
    refine mg_isBroken E hP (by decide +kernel) dX6_decide_41 ?_
    refine lv_aload_n hx hb dX6_decide_44 rfl (lv_at hl 1 rfl) ?_
    refine mg_boatOf E hP (by decide +kernel) dX6_decide_45 ?_
    refine lv_iload_n hx hb dX6_decide_48 rfl (lv_at hl 2 rfl) ?_
    refine ml_boatOf E hP h_own dX6_decide_49 ?_
    refine ml_isBroken E hP (MI_bo hI _) dX6_decide_50 ?_
    have J_4 : ∀ (y4_t0 : Int32) (H : Heap) (locs : List Loc) (ls : Array Slot), y4_t0 = (k96t0_decide σ own) → va_P D vwCl (mW cI cZ h σ) H → va_S A s.heap H locs → lv_has ls 4 [(2, .int (if ((σ 26 own.toNatClampNeg) / (1440 : Int32)) = ((σ 1 0) / (1440 : Int32)) then (1 : Int32) else (0 : Int32))), (0, .ref h), (1, .int own)] → W p l e R s m args below meth c H locs cells slots Q (F0 m 96 ls [.int y4_t0]) := by
      intro y4_t0 H locs ls e_y4_t0 hP hS hl
      subst e_y4_t0
      refine lv_istore_n (lv' := [(3, .int (k96t0_decide σ own)), (2, .int (if ((σ 26 own.toNatClampNeg) / (1440 : Int32)) = ((σ 1 0) / (1440 : Int32)) then (1 : Int32) else (0 : Int32))), (0, .ref h), (1, .int own)]) hx hb dX6_decide_96 rfl hl (by decide) rfl (fun ls hl => ?_)
      refine lv_iload_n hx hb dX6_decide_97 rfl (lv_at hl 0 rfl) ?_
      refine lv_if_le (tgt := 107) hx hb dX6_decide_98 (by decide) (fun c_7 => ?_) (fun c_7 => ?_)
      · exact J_2 σ H locs ls ((if_pos c_7).symm.trans ((if_neg c_3).symm.trans (if_pos c_2).symm)) hP hS (lv_sub hl [1, 2, 3] rfl)
      refine lv_aload_n hx hb dX6_decide_101 rfl (lv_at hl 2 rfl) ?_
      refine lv_iload_n hx hb dX6_decide_102 rfl (lv_at hl 3 rfl) ?_
      refine lv_iload_n hx hb dX6_decide_103 rfl (lv_at hl 0 rfl) ?_
      refine mcV_v E hml hP hS (c_cancel l hA σ own (k96t0_decide σ own) hI h_own) (cwV 2 hts gX6_decide_X6_cancel rfl rfl rfl (by decide +kernel) ⟨Nat.le_trans (Nat.le_of_ble_eq_true rfl) hR.1, Nat.le_trans (Nat.le_of_ble_eq_true rfl) hR.2⟩) rfl hl.1 rfl (Nat.le_of_ble_eq_true rfl) dX6_decide_104 hf (fun H locs hP hS => ?_)
      exact J_2 (s_cancel σ own (k96t0_decide σ own)) H locs ls ((if_neg c_7).symm.trans ((if_neg c_3).symm.trans (if_pos c_2).symm)) hP hS (lv_sub hl [1, 2, 3] rfl)
    refine lv_if_eq (tgt := 58) hx hb dX6_decide_51 (by decide) (fun c_4 => ?_) (fun c_4 => ?_)
    · refine lv_aload_n hx hb dX6_decide_58 rfl (lv_at hl 1 rfl) ?_
      refine lv_iload_n hx hb dX6_decide_59 rfl (lv_at hl 2 rfl) ?_
      refine lv_aload_n hx hb dX6_decide_60 rfl (lv_at hl 1 rfl) ?_
      refine mg_departs E hP (by decide +kernel) dX6_decide_61 ?_
      refine lv_iload_n hx hb dX6_decide_64 rfl (lv_at hl 2 rfl) ?_
      refine ml_departs E hP h_own dX6_decide_65 ?_
      refine lv_aload_n hx hb dX6_decide_66 rfl (lv_at hl 1 rfl) ?_
      refine mg_takes E hP (by decide +kernel) dX6_decide_67 ?_
      refine lv_iload_n hx hb dX6_decide_70 rfl (lv_at hl 2 rfl) ?_
      refine ml_takes E hP h_own dX6_decide_71 ?_
      refine lv_iadd hx hb dX6_decide_72 ?_
      refine mcV_i E hml hP hS (c_isDark l hA σ own ((σ 26 own.toNatClampNeg) + (σ 27 own.toNatClampNeg)) hI h_own) (cwV 2 hts gX6_decide_X6_isDark rfl rfl rfl (by decide +kernel) ⟨Nat.le_trans (Nat.le_of_ble_eq_true rfl) hR.1, Nat.le_trans (Nat.le_of_ble_eq_true rfl) hR.2⟩) rfl hl.1 rfl (Nat.le_of_ble_eq_true rfl) dX6_decide_73 hf (fun H locs hP hS => ?_)
      refine lv_if_eq (tgt := 83) hx hb dX6_decide_76 (by decide) (fun c_5 => ?_) (fun c_5 => ?_)
      · refine lv_aload_n hx hb dX6_decide_83 rfl (lv_at hl 1 rfl) ?_
        refine lv_iload_n hx hb dX6_decide_84 rfl (lv_at hl 2 rfl) ?_
        refine mcV_i E hml hP hS (c_isRough l hA σ own hI h_own) (cwV 1 hts gX6_decide_X6_isRough rfl rfl rfl (by decide +kernel) ⟨Nat.le_trans (Nat.le_of_ble_eq_true rfl) hR.1, Nat.le_trans (Nat.le_of_ble_eq_true rfl) hR.2⟩) rfl hl.1 rfl (Nat.le_of_ble_eq_true rfl) dX6_decide_85 hf (fun H locs hP hS => ?_)
        refine lv_if_eq (tgt := 95) hx hb dX6_decide_88 (by decide) (fun c_6 => ?_) (fun c_6 => ?_)
        · refine lv_iconst (v := 0) hx hb dX6_decide_95 (by decide) ?_
          exact J_4 (0 : Int32) H locs ls ((if_pos c_6).symm.trans ((if_pos c_5).symm.trans (if_pos c_4).symm)) hP hS (lv_sub hl [0, 1, 2] rfl)
        refine lv_iconst (v := 5) hx hb dX6_decide_91 (by decide) ?_
        refine lv_goto (tgt := 96) hx hb dX6_decide_92 (by decide) ?_
        exact J_4 (5 : Int32) H locs ls ((if_neg c_6).symm.trans ((if_pos c_5).symm.trans (if_pos c_4).symm)) hP hS (lv_sub hl [0, 1, 2] rfl)
      refine lv_iconst (v := 4) hx hb dX6_decide_79 (by decide) ?_
      refine lv_goto (tgt := 96) hx hb dX6_decide_80 (by decide) ?_
      exact J_4 (4 : Int32) H locs ls ((if_neg c_5).symm.trans (if_pos c_4).symm) hP hS (lv_sub hl [0, 1, 2] rfl)
    refine lv_iconst (v := 1) hx hb dX6_decide_54 (by decide) ?_
    refine lv_goto (tgt := 96) hx hb dX6_decide_55 (by decide) ?_
    exact J_4 (1 : Int32) H locs ls (if_neg c_4).symm hP hS (lv_sub hl [0, 1, 2] rfl)
  refine lv_icmp_ne (tgt := 25) hx hb dX6_decide_18 (by decide) (fun c_1 => ?_) (fun c_1 => ?_)
  · refine lv_iconst (v := 0) hx hb dX6_decide_25 (by decide) ?_
    exact J_1 (0 : Int32) H locs ls (if_neg c_1).symm hP hS (lv_sub hl [0, 1] rfl)
  refine lv_iconst (v := 1) hx hb dX6_decide_21 (by decide) ?_
  refine lv_goto (tgt := 26) hx hb dX6_decide_22 (by decide) ?_
  exact J_1 (1 : Int32) H locs ls (if_pos c_1).symm hP hS (lv_sub hl [0, 1] rfl)
set_option maxHeartbeats 4000000 in
set_option maxRecDepth 100000 in
theorem c_decide (l : Launch) {D : va_G} {A : Nat → Prop} {cI cZ : ClassId} {h : Nat} (hA : ∀ i, i < 44 → A (h + i)) (σ : St) (own : Int32) (hI : MI σ) (h_own : vp_in own 60) : Met l yX6_decide wsX6_decide ({ frames := 2, cells := 0, slots := 0, locals := 49 }) (va_Pc [.ref h, .int own] (mU D cI cZ h σ)) (va_Qv (fun (_ : Unit) => True) (fun _ t => mU D cI cZ h (s_decide σ own) t) A) 0 0 A := by
  refine Met.ofW (cc := cX6_decide) (maxL := 4) (ret := none) (by decide) rfl ?_
  intro p e s m args below meth c s₁ B hml hv
  obtain ⟨rfl, hP, hK⟩ := hv
  have E : mE p c cX6_decide s m ([.ref h, .int own] : List Value).toArray wsX6_decide D cI cZ := ⟨⟨B.exec, B.bytes⟩, atoms_spec (ws := wsX6_decide) B.pre, (by decide +kernel), findClass_of_methodNamed B.named, hK⟩
  have hr := B.returns
  have hlocks := B.notSynchronized
  have hl := lv_entry ([.ref h, .int own]) (n := 4) (Nat.le_of_ble_eq_true rfl)
  rw [lg_entry_eq]
  generalize (lg_sl ([.ref h, .int own]) ++ List.replicate (4 - (lg_sl ([.ref h, .int own])).length) Slot.unset).toArray = ls at hl ⊢
  refine w_decide σ own hI h_own E hml hA ⟨Nat.le_of_ble_eq_true rfl, Nat.le_of_ble_eq_true rfl⟩ ⟨Nat.zero_le _, Nat.zero_le _⟩ hP va_S.rf hl (fun pc H1 locs1 ls1 hd hP1 hS1 => ?_)
  exact W.vret B.exec B.bytes hr (fun t ht hW => ⟨⟨(), rfl, trivial, by rw [ht]; exact hP1, va_K.moved hW.alike hK⟩, hS1.F ht⟩) hS1.2.2 hd
theorem MK_s_decide {σ : St} {own : Int32} (hI : MI σ) (h_own : vp_in own 60) : MK σ (s_decide σ own) := by
  unfold s_decide
  repeat (first | with_reducible exact MK_refl hI | with_reducible exact MK_s_cancel hI h_own | with_reducible refine MK_o ?_ (by decide) | with_reducible refine MK_if (fun _ => ?_) (fun _ => ?_))
def un (τ : St) : Nat := fb_ct (fun k => decide (τ 47 k = 0)) 100
theorem un_le (τ : St) : un τ ≤ 100 := fb_ct_le _ _
def nz (τ : St) (x : Int32) : Prop := x = -1 ∨ (vp_in x 100 ∧ τ 47 x.toNatClampNeg = 0)
theorem nz_if {τ : St} {P : Prop} {hd : Decidable P} {a b : Int32} (ha : nz τ a) (hb : nz τ b) : nz τ (if P then a else b) := by
  by_cases hp : P
  · rw [if_pos hp]; exact ha
  · rw [if_neg hp]; exact hb
theorem nz_next {σ : St} (hI : MI σ) {own : Int32} : ∀ (n i : Nat) (x : Int32), i + n ≤ 101 → nz σ x → nz σ (lf_nextOf_4 σ own n i x) := by
  intro n
  induction n with
  | zero => intro i x _ h; exact h
  | succ n ih =>
    intro i x hi h
    show nz σ (if (σ 34 0) ≤ (nI i) then x else _)
    by_cases hc : (σ 34 0) ≤ (nI i)
    · rw [if_pos hc]; exact h
    · rw [if_neg hc]
      have hk : vp_in (nI i) 100 := by
        obtain ⟨C, hC, e⟩ := MI_n34 hI
        exact vp_in_nI (Nat.lt_of_lt_of_le (m_lt e hc (by omega) (by omega)) hC) (by omega)
      refine ih _ _ (by omega) ?_
      by_cases h1 : σ 36 (nI i).toNatClampNeg = own
      · rw [if_pos h1]
        by_cases h2 : σ 35 (nI i).toNatClampNeg = 0
        · rw [if_pos h2]
          by_cases h3 : σ 47 (nI i).toNatClampNeg = 0
          · rw [if_pos h3]
            exact nz_if h (nz_if (Or.inr ⟨hk, h3⟩) (nz_if h (Or.inr ⟨hk, h3⟩)))
          · rw [if_neg h3, if_pos rfl]; exact h
        · rw [if_neg h2, if_pos rfl]; exact h
      · rw [if_neg h1, if_pos rfl]; exact h
theorem nextOf_nz {τ : St} {own x : Int32} (hI : MI τ) (e : x = q_nextOf τ own) (hn : ¬ x = (-1 : Int32)) : vp_in x 100 ∧ τ 47 x.toNatClampNeg = 0 := by
  subst e
  exact Or.resolve_left (nz_next hI (own := own) 101 0 (-1) (by omega) (Or.inl rfl)) hn
theorem nextOf_in {τ : St} {own x : Int32} (hI : MI τ) (e : x = q_nextOf τ own) (hn : ¬ x = (-1 : Int32)) : vp_in x 100 := (nextOf_nz hI e hn).1
theorem dep_un {τ ρ : St} {own x : Int32} (hI : MI τ) (e : x = q_nextOf τ own) (hn : ¬ x = (-1 : Int32)) (h : ρ 47 = (st τ 47 x.toNatClampNeg (vp_nar .boolean (1 : Int32))) 47) : un ρ + 1 ≤ un τ := by
  obtain ⟨h1, h2⟩ := nextOf_nz hI e hn
  obtain ⟨j, hj, ej⟩ := vp_in_of h1 (by omega)
  have hjx : x.toNatClampNeg = j := by rw [ej]; exact nI_clamp (by omega)
  rw [hjx] at h h2
  have h3 := fb_ct_upd (fun k => decide (τ 47 k = 0)) false (i := j) (n := 100) hj
  have h4 : fb_ct (fun k => if k = j then false else decide (τ 47 k = 0)) 100 = un ρ := by
    unfold un
    apply fb_ct_cong
    intro k _
    rw [h, st_at]
    by_cases hk : k = j
    · rw [if_pos hk, if_pos ⟨rfl, hk⟩]; decide
    · rw [if_neg hk, if_neg (fun z => hk z.2)]
  rw [h4] at h3
  have h5 : (decide (τ 47 j = 0)) = true := by rw [h2]; decide
  rw [h5] at h3
  unfold un at *
  simp at h3
  omega
def lf_depart_42 (σ : St) (own : Int32) : Nat → Nat → St → St
  | 0, _, τ => τ
  | n + 1, i, τ => if (τ 34 0) ≤ (nI i) then τ else (lf_depart_42 σ own n (i + 1) (st τ 47 (nI i).toNatClampNeg (vp_nar .boolean (0 : Int32))))
def lf_depart_69 (σ : St) (own : Int32) : Nat → Int32 → St → Int32 × St
  | 0, x3, τ => (x3, τ)
  | n + 1, x3, τ => if x3 = ((-1) : Int32) then (x3, τ) else (lf_depart_69 σ own n (q_nextOf (if (q_whyNot (st τ 47 x3.toNatClampNeg (vp_nar .boolean (1 : Int32))) own x3) ≤ 0 then (s_comes (st τ 47 x3.toNatClampNeg (vp_nar .boolean (1 : Int32))) own x3) else (s_goesOver (st (st τ 47 x3.toNatClampNeg (vp_nar .boolean (1 : Int32))) 31 own.toNatClampNeg ((τ 31 own.toNatClampNeg) + (1 : Int32))) x3 (q_whyNot (st τ 47 x3.toNatClampNeg (vp_nar .boolean (1 : Int32))) own x3))) own) (if (q_whyNot (st τ 47 x3.toNatClampNeg (vp_nar .boolean (1 : Int32))) own x3) ≤ 0 then (s_comes (st τ 47 x3.toNatClampNeg (vp_nar .boolean (1 : Int32))) own x3) else (s_goesOver (st (st τ 47 x3.toNatClampNeg (vp_nar .boolean (1 : Int32))) 31 own.toNatClampNeg ((τ 31 own.toNatClampNeg) + (1 : Int32))) x3 (q_whyNot (st τ 47 x3.toNatClampNeg (vp_nar .boolean (1 : Int32))) own x3))))
def s_depart (σ : St) (own : Int32) : St := if (q_reasonOf σ own (σ 1 0)) ≤ 0 then ((lf_depart_69 σ own 101 (q_nextOf (lf_depart_42 σ own 101 0 (st (st σ 22 own.toNatClampNeg (1 : Int32)) 19 (σ 23 own.toNatClampNeg).toNatClampNeg ((-1) : Int32))) own) (lf_depart_42 σ own 101 0 (st (st σ 22 own.toNatClampNeg (1 : Int32)) 19 (σ 23 own.toNatClampNeg).toNatClampNeg ((-1) : Int32)))).2) else (s_cancel σ own (q_reasonOf σ own (σ 1 0)))
set_option maxHeartbeats 4000000 in
set_option maxRecDepth 100000 in
theorem w_depart {p : Program} {l : Launch} {e : Env} {R : Room} {s : State} {m : MethodId} {args : Array Value} {below : List Frame} {meth : Method} {c : Code} {H : Heap} {locs : List Loc} {cells slots : Nat} {Q : State → Prop} {D : va_G} {A : Nat → Prop} {cI cZ : ClassId} {h : Nat} {ls : Array Slot} (σ : St) (own : Int32) (hI : MI σ) (h_own : vp_in own 60) (E : mE p c cX6_depart s m args wsX6_depart D cI cZ) (hml : c.maxLocals = 5) (hA : ∀ i, i < 44 → A (h + i)) (hR : 3 ≤ R.frames ∧ 71 ≤ R.locals) (hf : cells ≤ R.cells ∧ slots ≤ R.slots) (hP : va_P D vwCl (mW cI cZ h σ) H) (hS : va_S A s.heap H locs) (hl : lv_has ls 5 [(0, .ref h), (1, .int own)]) (kr : ∀ (pc : Nat) (H1 : Heap) (locs1 : List Loc) (ls1 : Array Slot), decode cX6_depart pc = .ok (.return_, 1) → va_P D vwCl (mW cI cZ h (s_depart σ own)) H1 → va_S A s.heap H1 locs1 → W p l e R s m args below meth c H1 locs1 cells slots Q (F0 m pc ls1 [])) : W p l e R s m args below meth c H locs cells slots Q (F0 m 0 ls []) := by
  have hx := E.1.1
  have hb := E.1.2
  have hts := E.2.1
  have hs : s_depart σ own = if (q_reasonOf σ own (σ 1 0)) ≤ 0 then ((lf_depart_69 σ own 101 (q_nextOf (lf_depart_42 σ own 101 0 (st (st σ 22 own.toNatClampNeg (1 : Int32)) 19 (σ 23 own.toNatClampNeg).toNatClampNeg ((-1) : Int32))) own) (lf_depart_42 σ own 101 0 (st (st σ 22 own.toNatClampNeg (1 : Int32)) 19 (σ 23 own.toNatClampNeg).toNatClampNeg ((-1) : Int32)))).2) else (s_cancel σ own (q_reasonOf σ own (σ 1 0))) := rfl
  refine lv_aload_n hx hb dX6_depart_0 rfl (lv_at hl 0 rfl) ?_
  refine lv_iload_n hx hb dX6_depart_1 rfl (lv_at hl 1 rfl) ?_
  refine lv_aload_n hx hb dX6_depart_2 rfl (lv_at hl 0 rfl) ?_
  refine mg_now E hP (by decide +kernel) dX6_depart_3 ?_
  refine mcV_i E hml hP hS (c_reasonOf l hA σ own (σ 1 0) hI h_own) (cwV 2 hts gX6_depart_X6_reasonOf rfl rfl rfl (by decide +kernel) ⟨Nat.le_trans (Nat.le_of_ble_eq_true rfl) hR.1, Nat.le_trans (Nat.le_of_ble_eq_true rfl) hR.2⟩) rfl hl.1 rfl (Nat.le_of_ble_eq_true rfl) dX6_depart_6 hf (fun H locs hP hS => ?_)
  refine lv_istore_n (lv' := [(2, .int (q_reasonOf σ own (σ 1 0))), (0, .ref h), (1, .int own)]) hx hb dX6_depart_9 rfl hl (by decide) rfl (fun ls hl => ?_)
  refine lv_iload_n hx hb dX6_depart_10 rfl (lv_at hl 0 rfl) ?_
  refine lv_if_le (tgt := 21) hx hb dX6_depart_11 (by decide) (fun c_1 => ?_) (fun c_1 => ?_)
  · have hs := hs.trans (if_pos c_1)
    refine lv_aload_n hx hb dX6_depart_21 rfl (lv_at hl 1 rfl) ?_
    refine mg_state E hP (by decide +kernel) dX6_depart_22 ?_
    refine lv_iload_n hx hb dX6_depart_25 rfl (lv_at hl 2 rfl) ?_
    refine lv_iconst (v := 1) hx hb dX6_depart_26 (by decide) ?_
    refine ms_state E hP hA hS h_own dX6_depart_27 (fun H locs hP hS => ?_)
    refine lv_aload_n hx hb dX6_depart_28 rfl (lv_at hl 1 rfl) ?_
    refine mg_lies E hP (by decide +kernel) dX6_depart_29 ?_
    refine lv_aload_n hx hb dX6_depart_32 rfl (lv_at hl 1 rfl) ?_
    refine mg_boatOf E hP (by decide +kernel) dX6_depart_33 ?_
    refine lv_iload_n hx hb dX6_depart_36 rfl (lv_at hl 2 rfl) ?_
    refine mlv_boatOf E hP h_own (v := σ 23 own.toNatClampNeg) rfl dX6_depart_37 ?_
    refine lv_iconst (v := -1) hx hb dX6_depart_38 (by decide) ?_
    refine ms_lies E hP hA hS (MI_bo hI _) dX6_depart_39 (fun H locs hP hS => ?_)
    refine lv_iconst (v := 0) hx hb dX6_depart_40 (by decide) ?_
    refine lv_istore_n (lv' := [(3, .int (0 : Int32)), (2, .int (q_reasonOf σ own (σ 1 0))), (0, .ref h), (1, .int own)]) hx hb dX6_depart_41 rfl hl (by decide) rfl (fun ls hl => ?_)
    obtain ⟨C, hC, eC⟩ := MI_n34 hI
    have L_3 : ∀ (n : Nat) (i : Nat) (τ : St) (H : Heap) (locs : List Loc) (ls : Array Slot), i + n = 101 → i ≤ C → lf_depart_42 σ own n i τ = lf_depart_42 σ own 101 0 (st (st σ 22 own.toNatClampNeg (1 : Int32)) 19 (σ 23 own.toNatClampNeg).toNatClampNeg ((-1) : Int32)) → MK σ τ → va_P D vwCl (mW cI cZ h τ) H → va_S A s.heap H locs → lv_has ls 5 [(3, .int (nI i)), (2, .int (q_reasonOf σ own (σ 1 0))), (0, .ref h), (1, .int own)] → W p l e R s m args below meth c H locs cells slots Q (F0 m 42 ls []) := by
      intro n
      induction n with
      | zero => intro i τ H locs ls hin hiC; omega
      | succ n ih =>
        intro i τ H locs ls hin hiC hfin hKτ hP hS hl
        have hIτ := hKτ.1
        have eCτ := (MK_n34 hKτ).trans eC
        have hfin : (if (τ 34 0) ≤ (nI i) then τ else (lf_depart_42 σ own n (i + 1) (st τ 47 (nI i).toNatClampNeg (vp_nar .boolean (0 : Int32))))) = lf_depart_42 σ own 101 0 (st (st σ 22 own.toNatClampNeg (1 : Int32)) 19 (σ 23 own.toNatClampNeg).toNatClampNeg ((-1) : Int32)) := hfin
        refine lv_iload_n hx hb dX6_depart_42 rfl (lv_at hl 0 rfl) ?_
        refine lv_aload_n hx hb dX6_depart_43 rfl (lv_at hl 2 rfl) ?_
        refine mg_bookings E hP (by decide +kernel) dX6_depart_44 ?_
        refine lv_icmp_ge (tgt := 63) hx hb dX6_depart_47 (by decide) (fun c_2 => ?_) (fun c_2 => ?_)
        · have hfin := (if_pos c_2).symm.trans hfin
          subst hfin
          have hKR3 := hKτ
          have hl := lv_sub hl [1, 2, 3] rfl
          refine lv_aload_n hx hb dX6_depart_63 rfl (lv_at hl 1 rfl) ?_
          refine lv_iload_n hx hb dX6_depart_64 rfl (lv_at hl 2 rfl) ?_
          refine mcV_i E hml hP hS (c_nextOf l hA (lf_depart_42 σ own 101 0 (st (st σ 22 own.toNatClampNeg (1 : Int32)) 19 (σ 23 own.toNatClampNeg).toNatClampNeg ((-1) : Int32))) own hKR3.1) (cwV 1 hts gX6_depart_X6_nextOf rfl rfl rfl (by decide +kernel) ⟨Nat.le_trans (Nat.le_of_ble_eq_true rfl) hR.1, Nat.le_trans (Nat.le_of_ble_eq_true rfl) hR.2⟩) rfl hl.1 rfl (Nat.le_of_ble_eq_true rfl) dX6_depart_65 hf (fun H locs hP hS => ?_)
          refine lv_istore_n (lv' := [(3, .int (q_nextOf (lf_depart_42 σ own 101 0 (st (st σ 22 own.toNatClampNeg (1 : Int32)) 19 (σ 23 own.toNatClampNeg).toNatClampNeg ((-1) : Int32))) own)), (2, .int (q_reasonOf σ own (σ 1 0))), (0, .ref h), (1, .int own)]) hx hb dX6_depart_68 rfl hl (by decide) rfl (fun ls hl => ?_)
          have L_6 : ∀ (n : Nat) (x3 : Int32) (τ : St) (H : Heap) (locs : List Loc) (ls : Array Slot), (un τ < n ∧ x3 = q_nextOf τ own) → lf_depart_69 σ own n x3 τ = lf_depart_69 σ own 101 (q_nextOf (lf_depart_42 σ own 101 0 (st (st σ 22 own.toNatClampNeg (1 : Int32)) 19 (σ 23 own.toNatClampNeg).toNatClampNeg ((-1) : Int32))) own) (lf_depart_42 σ own 101 0 (st (st σ 22 own.toNatClampNeg (1 : Int32)) 19 (σ 23 own.toNatClampNeg).toNatClampNeg ((-1) : Int32))) → MK σ τ → va_P D vwCl (mW cI cZ h τ) H → va_S A s.heap H locs → lv_has ls 5 [(3, .int x3), (2, .int (q_reasonOf σ own (σ 1 0))), (0, .ref h), (1, .int own)] → W p l e R s m args below meth c H locs cells slots Q (F0 m 69 ls []) := by
            intro n
            induction n with
            | zero => intro x3 τ H locs ls hinv; exact absurd hinv.1 (Nat.not_lt_zero _)
            | succ n ih =>
              intro x3 τ H locs ls hinv hfin hKτ hP hS hl
              have hIτ := hKτ.1
              have hfin : (if x3 = ((-1) : Int32) then (x3, τ) else (lf_depart_69 σ own n (q_nextOf (if (q_whyNot (st τ 47 x3.toNatClampNeg (vp_nar .boolean (1 : Int32))) own x3) ≤ 0 then (s_comes (st τ 47 x3.toNatClampNeg (vp_nar .boolean (1 : Int32))) own x3) else (s_goesOver (st (st τ 47 x3.toNatClampNeg (vp_nar .boolean (1 : Int32))) 31 own.toNatClampNeg ((τ 31 own.toNatClampNeg) + (1 : Int32))) x3 (q_whyNot (st τ 47 x3.toNatClampNeg (vp_nar .boolean (1 : Int32))) own x3))) own) (if (q_whyNot (st τ 47 x3.toNatClampNeg (vp_nar .boolean (1 : Int32))) own x3) ≤ 0 then (s_comes (st τ 47 x3.toNatClampNeg (vp_nar .boolean (1 : Int32))) own x3) else (s_goesOver (st (st τ 47 x3.toNatClampNeg (vp_nar .boolean (1 : Int32))) 31 own.toNatClampNeg ((τ 31 own.toNatClampNeg) + (1 : Int32))) x3 (q_whyNot (st τ 47 x3.toNatClampNeg (vp_nar .boolean (1 : Int32))) own x3))))) = lf_depart_69 σ own 101 (q_nextOf (lf_depart_42 σ own 101 0 (st (st σ 22 own.toNatClampNeg (1 : Int32)) 19 (σ 23 own.toNatClampNeg).toNatClampNeg ((-1) : Int32))) own) (lf_depart_42 σ own 101 0 (st (st σ 22 own.toNatClampNeg (1 : Int32)) 19 (σ 23 own.toNatClampNeg).toNatClampNeg ((-1) : Int32))) := hfin
              refine lv_iload_n hx hb dX6_depart_69 rfl (lv_at hl 0 rfl) ?_
              refine lv_iconst (v := -1) hx hb dX6_depart_70 (by decide) ?_
              refine lv_icmp_eq (tgt := 129) hx hb dX6_depart_71 (by decide) (fun c_4 => ?_) (fun c_4 => ?_)
              · have hfin := (if_pos c_4).symm.trans hfin
                have e_x3 : x3 = (lf_depart_69 σ own 101 (q_nextOf (lf_depart_42 σ own 101 0 (st (st σ 22 own.toNatClampNeg (1 : Int32)) 19 (σ 23 own.toNatClampNeg).toNatClampNeg ((-1) : Int32))) own) (lf_depart_42 σ own 101 0 (st (st σ 22 own.toNatClampNeg (1 : Int32)) 19 (σ 23 own.toNatClampNeg).toNatClampNeg ((-1) : Int32)))).1 := congrArg (fun z => z.1) hfin
                have e_τ : τ = (lf_depart_69 σ own 101 (q_nextOf (lf_depart_42 σ own 101 0 (st (st σ 22 own.toNatClampNeg (1 : Int32)) 19 (σ 23 own.toNatClampNeg).toNatClampNeg ((-1) : Int32))) own) (lf_depart_42 σ own 101 0 (st (st σ 22 own.toNatClampNeg (1 : Int32)) 19 (σ 23 own.toNatClampNeg).toNatClampNeg ((-1) : Int32)))).2 := congrArg (fun z => z.2) hfin
                clear hfin
                subst e_x3
                subst e_τ
                have hKR6 := hKτ
                have hl := lv_sub hl [0, 1, 2, 3] rfl
                exact kr _ H locs ls dX6_depart_129 (by rw [hs]; exact hP) hS
              have hfin := (if_neg c_4).symm.trans hfin
              refine lv_aload_n hx hb dX6_depart_74 rfl (lv_at hl 2 rfl) ?_
              refine mg_isSeen E hP (by decide +kernel) dX6_depart_75 ?_
              refine lv_iload_n hx hb dX6_depart_78 rfl (lv_at hl 0 rfl) ?_
              refine lv_iconst (v := 1) hx hb dX6_depart_79 (by decide) ?_
              refine ms_isSeen E hP hA hS (nextOf_in hIτ hinv.2 (by assumption)) dX6_depart_80 (fun H locs hP hS => ?_)
              refine lv_aload_n hx hb dX6_depart_81 rfl (lv_at hl 2 rfl) ?_
              refine lv_iload_n hx hb dX6_depart_82 rfl (lv_at hl 3 rfl) ?_
              refine lv_iload_n hx hb dX6_depart_83 rfl (lv_at hl 0 rfl) ?_
              refine mcV_i E hml hP hS (c_whyNot l hA (st τ 47 x3.toNatClampNeg (vp_nar .boolean (1 : Int32))) own x3 (MI_o hIτ (by decide)) h_own (nextOf_in hIτ hinv.2 (by assumption))) (cwV 2 hts gX6_depart_X6_whyNot rfl rfl rfl (by decide +kernel) ⟨Nat.le_trans (Nat.le_of_ble_eq_true rfl) hR.1, Nat.le_trans (Nat.le_of_ble_eq_true rfl) hR.2⟩) rfl hl.1 rfl (Nat.le_of_ble_eq_true rfl) dX6_depart_84 hf (fun H locs hP hS => ?_)
              refine lv_istore (lv' := [(4, .int (q_whyNot (st τ 47 x3.toNatClampNeg (vp_nar .boolean (1 : Int32))) own x3)), (3, .int x3), (2, .int (q_reasonOf σ own (σ 1 0))), (0, .ref h), (1, .int own)]) hx hb dX6_depart_87 hl (by decide) rfl (fun ls hl => ?_)
              refine lv_iload hx hb dX6_depart_89 (lv_at hl 0 rfl) ?_
              have J_5 : ∀ (ρ5 : St) (H : Heap) (locs : List Loc) (ls : Array Slot), ρ5 = (if (q_whyNot (st τ 47 x3.toNatClampNeg (vp_nar .boolean (1 : Int32))) own x3) ≤ 0 then (s_comes (st τ 47 x3.toNatClampNeg (vp_nar .boolean (1 : Int32))) own x3) else (s_goesOver (st (st τ 47 x3.toNatClampNeg (vp_nar .boolean (1 : Int32))) 31 own.toNatClampNeg ((τ 31 own.toNatClampNeg) + (1 : Int32))) x3 (q_whyNot (st τ 47 x3.toNatClampNeg (vp_nar .boolean (1 : Int32))) own x3))) → MK σ ρ5 → va_P D vwCl (mW cI cZ h ρ5) H → va_S A s.heap H locs → lv_has ls 5 [(4, .int (q_whyNot (st τ 47 x3.toNatClampNeg (vp_nar .boolean (1 : Int32))) own x3)), (3, .int x3), (2, .int (q_reasonOf σ own (σ 1 0))), (0, .ref h), (1, .int own)] → W p l e R s m args below meth c H locs cells slots Q (F0 m 120 ls []) := by
                intro ρ5 H locs ls e_ρ5 hK5 hP hS hl
                subst e_ρ5
                refine lv_aload_n hx hb dX6_depart_120 rfl (lv_at hl 3 rfl) ?_
                refine lv_iload_n hx hb dX6_depart_121 rfl (lv_at hl 4 rfl) ?_
                refine mcV_i E hml hP hS (c_nextOf l hA (if (q_whyNot (st τ 47 x3.toNatClampNeg (vp_nar .boolean (1 : Int32))) own x3) ≤ 0 then (s_comes (st τ 47 x3.toNatClampNeg (vp_nar .boolean (1 : Int32))) own x3) else (s_goesOver (st (st τ 47 x3.toNatClampNeg (vp_nar .boolean (1 : Int32))) 31 own.toNatClampNeg ((τ 31 own.toNatClampNeg) + (1 : Int32))) x3 (q_whyNot (st τ 47 x3.toNatClampNeg (vp_nar .boolean (1 : Int32))) own x3))) own hK5.1) (cwV 1 hts gX6_depart_X6_nextOf rfl rfl rfl (by decide +kernel) ⟨Nat.le_trans (Nat.le_of_ble_eq_true rfl) hR.1, Nat.le_trans (Nat.le_of_ble_eq_true rfl) hR.2⟩) rfl hl.1 rfl (Nat.le_of_ble_eq_true rfl) dX6_depart_122 hf (fun H locs hP hS => ?_)
                refine lv_istore_n (lv' := [(3, .int (q_nextOf (if (q_whyNot (st τ 47 x3.toNatClampNeg (vp_nar .boolean (1 : Int32))) own x3) ≤ 0 then (s_comes (st τ 47 x3.toNatClampNeg (vp_nar .boolean (1 : Int32))) own x3) else (s_goesOver (st (st τ 47 x3.toNatClampNeg (vp_nar .boolean (1 : Int32))) 31 own.toNatClampNeg ((τ 31 own.toNatClampNeg) + (1 : Int32))) x3 (q_whyNot (st τ 47 x3.toNatClampNeg (vp_nar .boolean (1 : Int32))) own x3))) own)), (4, .int (q_whyNot (st τ 47 x3.toNatClampNeg (vp_nar .boolean (1 : Int32))) own x3)), (2, .int (q_reasonOf σ own (σ 1 0))), (0, .ref h), (1, .int own)]) hx hb dX6_depart_125 rfl hl (by decide) rfl (fun ls hl => ?_)
                refine lv_goto (tgt := 69) hx hb dX6_depart_126 (by decide) ?_
                exact ih (q_nextOf (if (q_whyNot (st τ 47 x3.toNatClampNeg (vp_nar .boolean (1 : Int32))) own x3) ≤ 0 then (s_comes (st τ 47 x3.toNatClampNeg (vp_nar .boolean (1 : Int32))) own x3) else (s_goesOver (st (st τ 47 x3.toNatClampNeg (vp_nar .boolean (1 : Int32))) 31 own.toNatClampNeg ((τ 31 own.toNatClampNeg) + (1 : Int32))) x3 (q_whyNot (st τ 47 x3.toNatClampNeg (vp_nar .boolean (1 : Int32))) own x3))) own) (if (q_whyNot (st τ 47 x3.toNatClampNeg (vp_nar .boolean (1 : Int32))) own x3) ≤ 0 then (s_comes (st τ 47 x3.toNatClampNeg (vp_nar .boolean (1 : Int32))) own x3) else (s_goesOver (st (st τ 47 x3.toNatClampNeg (vp_nar .boolean (1 : Int32))) 31 own.toNatClampNeg ((τ 31 own.toNatClampNeg) + (1 : Int32))) x3 (q_whyNot (st τ 47 x3.toNatClampNeg (vp_nar .boolean (1 : Int32))) own x3))) H locs ls ⟨Nat.lt_of_succ_lt_succ (Nat.lt_of_le_of_lt (dep_un hIτ hinv.2 (by assumption) (by first | split <;> first | exact s_goesOver_47 _ _ _ | exact s_comes_47 _ _ _)) hinv.1), rfl⟩ hfin hK5 hP hS (lv_sub hl [0, 2, 3, 4] rfl)
              refine lv_if_le (tgt := 114) hx hb dX6_depart_91 (by decide) (fun c_5 => ?_) (fun c_5 => ?_)
              · refine lv_aload_n hx hb dX6_depart_114 rfl (lv_at hl 3 rfl) ?_
                refine lv_iload_n hx hb dX6_depart_115 rfl (lv_at hl 4 rfl) ?_
                refine lv_iload_n hx hb dX6_depart_116 rfl (lv_at hl 1 rfl) ?_
                refine mcV_v E hml hP hS (c_comes l hA (st τ 47 x3.toNatClampNeg (vp_nar .boolean (1 : Int32))) own x3 (MI_o hIτ (by decide)) h_own (nextOf_in hIτ hinv.2 (by assumption))) (cwV 2 hts gX6_depart_X6_comes rfl rfl rfl (by decide +kernel) ⟨Nat.le_trans (Nat.le_of_ble_eq_true rfl) hR.1, Nat.le_trans (Nat.le_of_ble_eq_true rfl) hR.2⟩) rfl hl.1 rfl (Nat.le_of_ble_eq_true rfl) dX6_depart_117 hf (fun H locs hP hS => ?_)
                exact J_5 (s_comes (st τ 47 x3.toNatClampNeg (vp_nar .boolean (1 : Int32))) own x3) H locs ls (if_pos c_5).symm (MK_trans (MK_o hKτ (by decide)) (MK_s_comes (MK_o hKτ (by decide)).1 h_own (nextOf_in hIτ hinv.2 (by assumption)))) hP hS (lv_sub hl [0, 1, 2, 3, 4] rfl)
              refine lv_aload_n hx hb dX6_depart_94 rfl (lv_at hl 3 rfl) ?_
              refine mg_refusedAt E hP (by decide +kernel) dX6_depart_95 ?_
              refine lv_iload_n hx hb dX6_depart_98 rfl (lv_at hl 4 rfl) ?_
              refine lv_dup2_11 hx hb dX6_depart_99 rfl rfl ?_
              refine mlv_refusedAt E hP h_own (v := τ 31 own.toNatClampNeg) rfl dX6_depart_100 ?_
              refine lv_iconst (v := 1) hx hb dX6_depart_101 (by decide) ?_
              refine lv_iadd hx hb dX6_depart_102 ?_
              refine ms_refusedAt E hP hA hS h_own dX6_depart_103 (fun H locs hP hS => ?_)
              refine lv_aload_n hx hb dX6_depart_104 rfl (lv_at hl 3 rfl) ?_
              refine lv_iload_n hx hb dX6_depart_105 rfl (lv_at hl 1 rfl) ?_
              refine lv_iload hx hb dX6_depart_106 (lv_at hl 0 rfl) ?_
              refine mcV_v E hml hP hS (c_goesOver l hA (st (st τ 47 x3.toNatClampNeg (vp_nar .boolean (1 : Int32))) 31 own.toNatClampNeg ((τ 31 own.toNatClampNeg) + (1 : Int32))) x3 (q_whyNot (st τ 47 x3.toNatClampNeg (vp_nar .boolean (1 : Int32))) own x3) (MI_o (MI_o hIτ (by decide)) (by decide)) (nextOf_in hIτ hinv.2 (by assumption))) (cwV 2 hts gX6_depart_X6_goesOver rfl rfl rfl (by decide +kernel) ⟨Nat.le_trans (Nat.le_of_ble_eq_true rfl) hR.1, Nat.le_trans (Nat.le_of_ble_eq_true rfl) hR.2⟩) rfl hl.1 rfl (Nat.le_of_ble_eq_true rfl) dX6_depart_108 hf (fun H locs hP hS => ?_)
              refine lv_goto (tgt := 120) hx hb dX6_depart_111 (by decide) ?_
              exact J_5 (s_goesOver (st (st τ 47 x3.toNatClampNeg (vp_nar .boolean (1 : Int32))) 31 own.toNatClampNeg ((τ 31 own.toNatClampNeg) + (1 : Int32))) x3 (q_whyNot (st τ 47 x3.toNatClampNeg (vp_nar .boolean (1 : Int32))) own x3)) H locs ls (if_neg c_5).symm (MK_trans (MK_o (MK_o hKτ (by decide)) (by decide)) (MK_s_goesOver (MK_o (MK_o hKτ (by decide)) (by decide)).1 (nextOf_in hIτ hinv.2 (by assumption)))) hP hS (lv_sub hl [0, 1, 2, 3, 4] rfl)
          exact L_6 101 (q_nextOf (lf_depart_42 σ own 101 0 (st (st σ 22 own.toNatClampNeg (1 : Int32)) 19 (σ 23 own.toNatClampNeg).toNatClampNeg ((-1) : Int32))) own) (lf_depart_42 σ own 101 0 (st (st σ 22 own.toNatClampNeg (1 : Int32)) 19 (σ 23 own.toNatClampNeg).toNatClampNeg ((-1) : Int32))) H locs ls ⟨Nat.lt_succ_of_le (un_le _), rfl⟩ rfl hKR3 hP hS (lv_sub hl [0, 1, 2, 3] rfl)
        have hfin := (if_neg c_2).symm.trans hfin
        have hlt : i < C := m_lt eCτ c_2 (by omega) (by omega)
        refine lv_aload_n hx hb dX6_depart_50 rfl (lv_at hl 2 rfl) ?_
        refine mg_isSeen E hP (by decide +kernel) dX6_depart_51 ?_
        refine lv_iload_n hx hb dX6_depart_54 rfl (lv_at hl 0 rfl) ?_
        refine lv_iconst (v := 0) hx hb dX6_depart_55 (by decide) ?_
        refine ms_isSeen E hP hA hS (vp_in_nI (n := i) (by omega) (by omega)) dX6_depart_56 (fun H locs hP hS => ?_)
        refine lv_iinc (v := nI (i + 1)) (lv' := [(3, .int (nI (i + 1))), (2, .int (q_reasonOf σ own (σ 1 0))), (0, .ref h), (1, .int own)]) hx hb dX6_depart_57 hl (k := 0) rfl (by first | rfl | exact nI_1 _) (by decide) rfl (fun ls hl => ?_)
        refine lv_goto (tgt := 42) hx hb dX6_depart_60 (by decide) ?_
        exact ih (i + 1) (st τ 47 (nI i).toNatClampNeg (vp_nar .boolean (0 : Int32))) H locs ls (by omega) (by omega) hfin (MK_o hKτ (by decide)) hP hS (lv_sub hl [0, 1, 2, 3] rfl)
    exact L_3 101 0 (st (st σ 22 own.toNatClampNeg (1 : Int32)) 19 (σ 23 own.toNatClampNeg).toNatClampNeg ((-1) : Int32)) H locs ls (by omega) (Nat.zero_le _) rfl (MK_o (MK_o (MK_refl hI) (by decide)) (by decide)) hP hS (lv_sub hl [0, 1, 2, 3] rfl)
  have hs := hs.trans (if_neg c_1)
  refine lv_aload_n hx hb dX6_depart_14 rfl (lv_at hl 1 rfl) ?_
  refine lv_iload_n hx hb dX6_depart_15 rfl (lv_at hl 2 rfl) ?_
  refine lv_iload_n hx hb dX6_depart_16 rfl (lv_at hl 0 rfl) ?_
  refine mcV_v E hml hP hS (c_cancel l hA σ own (q_reasonOf σ own (σ 1 0)) hI h_own) (cwV 2 hts gX6_depart_X6_cancel rfl rfl rfl (by decide +kernel) ⟨Nat.le_trans (Nat.le_of_ble_eq_true rfl) hR.1, Nat.le_trans (Nat.le_of_ble_eq_true rfl) hR.2⟩) rfl hl.1 rfl (Nat.le_of_ble_eq_true rfl) dX6_depart_17 hf (fun H locs hP hS => ?_)
  exact kr _ H locs ls dX6_depart_20 (by rw [hs]; exact hP) hS
set_option maxHeartbeats 4000000 in
set_option maxRecDepth 100000 in
theorem c_depart (l : Launch) {D : va_G} {A : Nat → Prop} {cI cZ : ClassId} {h : Nat} (hA : ∀ i, i < 44 → A (h + i)) (σ : St) (own : Int32) (hI : MI σ) (h_own : vp_in own 60) : Met l yX6_depart wsX6_depart ({ frames := 3, cells := 0, slots := 0, locals := 71 }) (va_Pc [.ref h, .int own] (mU D cI cZ h σ)) (va_Qv (fun (_ : Unit) => True) (fun _ t => mU D cI cZ h (s_depart σ own) t) A) 0 0 A := by
  refine Met.ofW (cc := cX6_depart) (maxL := 5) (ret := none) (by decide) rfl ?_
  intro p e s m args below meth c s₁ B hml hv
  obtain ⟨rfl, hP, hK⟩ := hv
  have E : mE p c cX6_depart s m ([.ref h, .int own] : List Value).toArray wsX6_depart D cI cZ := ⟨⟨B.exec, B.bytes⟩, atoms_spec (ws := wsX6_depart) B.pre, (by decide +kernel), findClass_of_methodNamed B.named, hK⟩
  have hr := B.returns
  have hlocks := B.notSynchronized
  have hl := lv_entry ([.ref h, .int own]) (n := 5) (Nat.le_of_ble_eq_true rfl)
  rw [lg_entry_eq]
  generalize (lg_sl ([.ref h, .int own]) ++ List.replicate (5 - (lg_sl ([.ref h, .int own])).length) Slot.unset).toArray = ls at hl ⊢
  refine w_depart σ own hI h_own E hml hA ⟨Nat.le_of_ble_eq_true rfl, Nat.le_of_ble_eq_true rfl⟩ ⟨Nat.zero_le _, Nat.zero_le _⟩ hP va_S.rf hl (fun pc H1 locs1 ls1 hd hP1 hS1 => ?_)
  exact W.vret B.exec B.bytes hr (fun t ht hW => ⟨⟨(), rfl, trivial, by rw [ht]; exact hP1, va_K.moved hW.alike hK⟩, hS1.F ht⟩) hS1.2.2 hd
theorem MK_lf_depart_42 {σ0 σ : St} {own : Int32} : ∀ (n i : Nat) (τ : St), i + n ≤ 101 → MK σ0 τ → MK σ0 (lf_depart_42 σ own n i τ) := by
  intro n
  induction n with
  | zero => intro i τ _ h; exact h
  | succ n ih =>
    intro i τ hi h
    show MK σ0 (if (τ 34 0) ≤ (nI i) then τ else _)
    by_cases hc : (τ 34 0) ≤ (nI i)
    · rw [if_pos hc]; exact h
    · rw [if_neg hc]
      have hk : vp_in (nI i) 100 := by
        obtain ⟨C, hC, e⟩ := MI_n34 h.1
        exact vp_in_nI (Nat.lt_of_lt_of_le (m_lt e hc (by omega) (by omega)) hC) (by omega)
      have hM : MI τ := h.1
      repeat (first | with_reducible exact h | with_reducible refine ih _ _ (by omega) ?_ | with_reducible refine MK_o ?_ (by decide) | with_reducible refine MK_if (fun _ => ?_) (fun _ => ?_))
theorem MK_lf_depart_69 {σ0 σ : St} {own : Int32} (h_own : vp_in own 60) : ∀ (n : Nat) (x : Int32) (τ : St), x = q_nextOf τ own → MK σ0 τ → MK σ0 (lf_depart_69 σ own n x τ).2 := by
  intro n
  induction n with
  | zero => intro x τ _ h; exact h
  | succ n ih =>
    intro x τ hx h
    show MK σ0 (if x = ((-1) : Int32) then (x, τ) else _).2
    by_cases hc : x = ((-1) : Int32)
    · rw [if_pos hc]; exact h
    · rw [if_neg hc]
      have hk := nextOf_in h.1 hx hc
      refine ih _ _ rfl (MK_if (fun _ => ?_) (fun _ => ?_))
      · have h1 := MK_o (f := 47) (j := x.toNatClampNeg) (v := vp_nar .boolean (1 : Int32)) h (by decide)
        exact MK_trans h1 (MK_s_comes h1.1 h_own hk)
      · have h1 := MK_o (f := 31) (j := own.toNatClampNeg) (v := (τ 31 own.toNatClampNeg) + (1 : Int32)) (MK_o (f := 47) (j := x.toNatClampNeg) (v := vp_nar .boolean (1 : Int32)) h (by decide)) (by decide)
        exact MK_trans h1 (MK_s_goesOver h1.1 hk)
theorem MK_s_depart {σ : St} {own : Int32} (hI : MI σ) (h_own : vp_in own 60) : MK σ (s_depart σ own) := by
  unfold s_depart
  repeat (first | with_reducible exact MK_refl hI | with_reducible refine MK_lf_depart_69 h_own _ _ _ rfl ?_ | with_reducible refine MK_lf_depart_42 _ _ _ (by omega) ?_ | with_reducible exact MK_s_cancel hI h_own | with_reducible refine MK_o ?_ (by decide) | with_reducible refine MK_if (fun _ => ?_) (fun _ => ?_))
