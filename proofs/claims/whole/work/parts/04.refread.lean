def k33t0_tideOf (σ : St) (pier : Int32) (minute : Int32) : Int32 := if 0 ≤ (((minute + (σ 5 pier.toNatClampNeg)) - (minute + (σ 5 pier.toNatClampNeg)) / (720 : Int32) * (720 : Int32)) - (360 : Int32)) then (((minute + (σ 5 pier.toNatClampNeg)) - (minute + (σ 5 pier.toNatClampNeg)) / (720 : Int32) * (720 : Int32)) - (360 : Int32)) else (-(((minute + (σ 5 pier.toNatClampNeg)) - (minute + (σ 5 pier.toNatClampNeg)) / (720 : Int32) * (720 : Int32)) - (360 : Int32)))
def q_tideOf (σ : St) (pier : Int32) (minute : Int32) : Int32 := ((σ 4 pier.toNatClampNeg) * ((k33t0_tideOf σ pier minute) - (180 : Int32))) / (180 : Int32)
set_option maxHeartbeats 4000000 in
set_option maxRecDepth 100000 in
theorem w_tideOf {p : Program} {l : Launch} {e : Env} {R : Room} {s : State} {m : MethodId} {args : Array Value} {below : List Frame} {meth : Method} {c : Code} {H : Heap} {locs : List Loc} {cells slots : Nat} {Q : State → Prop} {D : va_G} {A : Nat → Prop} {cI cZ : ClassId} {h : Nat} {ls : Array Slot} (σ : St) (pier : Int32) (minute : Int32) (h_pier : vp_in pier 8) (E : mE p c cX6_tideOf s m args wsX6_tideOf D cI cZ) (hml : c.maxLocals = 4) (hA : ∀ i, i < 44 → A (h + i)) (hR : 0 ≤ R.frames ∧ 0 ≤ R.locals) (hf : cells ≤ R.cells ∧ slots ≤ R.slots) (hP : va_P D vwCl (mW cI cZ h σ) H) (hS : va_S A s.heap H locs) (hl : lv_has ls 4 [(0, .ref h), (1, .int pier), (2, .int minute)]) (kr : ∀ (pc : Nat) (rv : Int32) (H1 : Heap) (locs1 : List Loc) (ls1 : Array Slot), decode cX6_tideOf pc = .ok (.ireturn, 1) → rv = q_tideOf σ pier minute → va_P D vwCl (mW cI cZ h (σ)) H1 → va_S A s.heap H1 locs1 → W p l e R s m args below meth c H1 locs1 cells slots Q (F0 m pc ls1 [.int rv])) : W p l e R s m args below meth c H locs cells slots Q (F0 m 0 ls []) := by
  have hx := E.1.1
  have hb := E.1.2
  have hts := E.2.1
  have hq : q_tideOf σ pier minute = ((σ 4 pier.toNatClampNeg) * ((k33t0_tideOf σ pier minute) - (180 : Int32))) / (180 : Int32) := rfl
  refine lv_iload_n hx hb dX6_tideOf_0 rfl (lv_at hl 2 rfl) ?_
  refine lv_aload_n hx hb dX6_tideOf_1 rfl (lv_at hl 0 rfl) ?_
  refine mg_phase E hP (by decide +kernel) dX6_tideOf_2 ?_
  refine lv_iload_n hx hb dX6_tideOf_5 rfl (lv_at hl 1 rfl) ?_
  refine ml_phase E hP h_pier dX6_tideOf_6 ?_
  refine lv_iadd hx hb dX6_tideOf_7 ?_
  refine lv_sipush (v := 720) hx hb dX6_tideOf_8 (by decide) ?_
  refine lv_irem hx hb dX6_tideOf_11 (by decide) ?_
  refine lv_sipush (v := 360) hx hb dX6_tideOf_12 (by decide) ?_
  refine lv_isub hx hb dX6_tideOf_15 ?_
  refine lv_istore_n (lv' := [(3, .int (((minute + (σ 5 pier.toNatClampNeg)) - (minute + (σ 5 pier.toNatClampNeg)) / (720 : Int32) * (720 : Int32)) - (360 : Int32))), (0, .ref h), (1, .int pier), (2, .int minute)]) hx hb dX6_tideOf_16 rfl hl (by decide) rfl (fun ls hl => ?_)
  refine lv_aload_n hx hb dX6_tideOf_17 rfl (lv_at hl 1 rfl) ?_
  refine mg_range E hP (by decide +kernel) dX6_tideOf_18 ?_
  refine lv_iload_n hx hb dX6_tideOf_21 rfl (lv_at hl 2 rfl) ?_
  refine ml_range E hP h_pier dX6_tideOf_22 ?_
  refine lv_iload_n hx hb dX6_tideOf_23 rfl (lv_at hl 0 rfl) ?_
  have J_1 : ∀ (y1_t0 : Int32) (H : Heap) (locs : List Loc) (ls : Array Slot), y1_t0 = (k33t0_tideOf σ pier minute) → va_P D vwCl (mW cI cZ h σ) H → va_S A s.heap H locs → lv_has ls 4 [(3, .int (((minute + (σ 5 pier.toNatClampNeg)) - (minute + (σ 5 pier.toNatClampNeg)) / (720 : Int32) * (720 : Int32)) - (360 : Int32))), (0, .ref h), (1, .int pier), (2, .int minute)] → W p l e R s m args below meth c H locs cells slots Q (F0 m 33 ls [.int y1_t0, .int (σ 4 pier.toNatClampNeg)]) := by
    intro y1_t0 H locs ls e_y1_t0 hP hS hl
    subst e_y1_t0
    refine lv_sipush (v := 180) hx hb dX6_tideOf_33 (by decide) ?_
    refine lv_isub hx hb dX6_tideOf_36 ?_
    refine lv_imul hx hb dX6_tideOf_37 ?_
    refine lv_sipush (v := 180) hx hb dX6_tideOf_38 (by decide) ?_
    refine lv_idiv hx hb dX6_tideOf_41 (by decide) ?_
    exact kr _ (((σ 4 pier.toNatClampNeg) * ((k33t0_tideOf σ pier minute) - (180 : Int32))) / (180 : Int32)) H locs ls dX6_tideOf_42 hq.symm hP hS
  refine lv_if_ge (tgt := 32) hx hb dX6_tideOf_24 (by decide) (fun c_1 => ?_) (fun c_1 => ?_)
  · refine lv_iload_n hx hb dX6_tideOf_32 rfl (lv_at hl 0 rfl) ?_
    exact J_1 (((minute + (σ 5 pier.toNatClampNeg)) - (minute + (σ 5 pier.toNatClampNeg)) / (720 : Int32) * (720 : Int32)) - (360 : Int32)) H locs ls (if_pos c_1).symm hP hS (lv_sub hl [0, 1, 2, 3] rfl)
  refine lv_iload_n hx hb dX6_tideOf_27 rfl (lv_at hl 0 rfl) ?_
  refine lv_ineg hx hb dX6_tideOf_28 ?_
  refine lv_goto (tgt := 33) hx hb dX6_tideOf_29 (by decide) ?_
  exact J_1 (-(((minute + (σ 5 pier.toNatClampNeg)) - (minute + (σ 5 pier.toNatClampNeg)) / (720 : Int32) * (720 : Int32)) - (360 : Int32))) H locs ls (if_neg c_1).symm hP hS (lv_sub hl [0, 1, 2, 3] rfl)
set_option maxHeartbeats 4000000 in
set_option maxRecDepth 100000 in
theorem c_tideOf (l : Launch) {D : va_G} {A : Nat → Prop} {cI cZ : ClassId} {h : Nat} (hA : ∀ i, i < 44 → A (h + i)) (σ : St) (pier : Int32) (minute : Int32) (h_pier : vp_in pier 8) : Met l yX6_tideOf wsX6_tideOf ({ frames := 0, cells := 0, slots := 0, locals := 0 }) (va_Pc [.ref h, .int pier, .int minute] (mU D cI cZ h σ)) (va_Qi (fun r (_ : Unit) => r = q_tideOf σ pier minute) (fun _ t => mU D cI cZ h (σ) t) A) 0 0 A := by
  refine Met.ofW (cc := cX6_tideOf) (maxL := 4) (ret := (some .int)) (by decide) rfl ?_
  intro p e s m args below meth c s₁ B hml hv
  obtain ⟨rfl, hP, hK⟩ := hv
  have E : mE p c cX6_tideOf s m ([.ref h, .int pier, .int minute] : List Value).toArray wsX6_tideOf D cI cZ := ⟨⟨B.exec, B.bytes⟩, atoms_spec (ws := wsX6_tideOf) B.pre, (by decide +kernel), findClass_of_methodNamed B.named, hK⟩
  have hr := B.returns
  have hlocks := B.notSynchronized
  have hl := lv_entry ([.ref h, .int pier, .int minute]) (n := 4) (Nat.le_of_ble_eq_true rfl)
  rw [lg_entry_eq]
  generalize (lg_sl ([.ref h, .int pier, .int minute]) ++ List.replicate (4 - (lg_sl ([.ref h, .int pier, .int minute])).length) Slot.unset).toArray = ls at hl ⊢
  refine w_tideOf σ pier minute h_pier E hml hA ⟨Nat.le_of_ble_eq_true rfl, Nat.le_of_ble_eq_true rfl⟩ ⟨Nat.zero_le _, Nat.zero_le _⟩ hP va_S.rf hl (fun pc v H1 locs1 ls1 hd hv hP1 hS1 => ?_)
  exact W.iret (v := v) B.exec B.bytes hr (fun t ht hW => ⟨⟨v, (), rfl, hv, by rw [ht]; exact hP1, va_K.moved hW.alike hK⟩, hS1.F ht⟩) hS1.2.2 hd
def lf_hoursOf_5 (σ : St) (boat : Int32) (day : Int32) : Nat → Nat → Int32 → Int32
  | 0, _, x3 => x3
  | n + 1, i, x3 => if (σ 21 0) ≤ (nI i) then x3 else (lf_hoursOf_5 σ boat day n (i + 1) (x3 + (if (σ 23 (nI i).toNatClampNeg) = boat then (if (q_in (σ 22 (nI i).toNatClampNeg) (1 : Int32) (2 : Int32)) = 0 then (0 : Int32) else (if ((σ 26 (nI i).toNatClampNeg) / (1440 : Int32)) = day then (σ 27 (nI i).toNatClampNeg) else (0 : Int32))) else (0 : Int32))))
def q_hoursOf (σ : St) (boat : Int32) (day : Int32) : Int32 := (lf_hoursOf_5 σ boat day 61 0 (0 : Int32))
set_option maxHeartbeats 4000000 in
set_option maxRecDepth 100000 in
theorem w_hoursOf {p : Program} {l : Launch} {e : Env} {R : Room} {s : State} {m : MethodId} {args : Array Value} {below : List Frame} {meth : Method} {c : Code} {H : Heap} {locs : List Loc} {cells slots : Nat} {Q : State → Prop} {D : va_G} {A : Nat → Prop} {cI cZ : ClassId} {h : Nat} {ls : Array Slot} (σ : St) (boat : Int32) (day : Int32) (hI : MI σ) (E : mE p c cX6_hoursOf s m args wsX6_hoursOf D cI cZ) (hml : c.maxLocals = 5) (hA : ∀ i, i < 44 → A (h + i)) (hR : 1 ≤ R.frames ∧ 22 ≤ R.locals) (hf : cells ≤ R.cells ∧ slots ≤ R.slots) (hP : va_P D vwCl (mW cI cZ h σ) H) (hS : va_S A s.heap H locs) (hl : lv_has ls 5 [(0, .ref h), (1, .int boat), (2, .int day)]) (kr : ∀ (pc : Nat) (rv : Int32) (H1 : Heap) (locs1 : List Loc) (ls1 : Array Slot), decode cX6_hoursOf pc = .ok (.ireturn, 1) → rv = q_hoursOf σ boat day → va_P D vwCl (mW cI cZ h (σ)) H1 → va_S A s.heap H1 locs1 → W p l e R s m args below meth c H1 locs1 cells slots Q (F0 m pc ls1 [.int rv])) : W p l e R s m args below meth c H locs cells slots Q (F0 m 0 ls []) := by
  have hx := E.1.1
  have hb := E.1.2
  have hts := E.2.1
  have hq : q_hoursOf σ boat day = (lf_hoursOf_5 σ boat day 61 0 (0 : Int32)) := rfl
  refine lv_iconst (v := 0) hx hb dX6_hoursOf_0 (by decide) ?_
  refine lv_istore_n (lv' := [(3, .int (0 : Int32)), (0, .ref h), (1, .int boat), (2, .int day)]) hx hb dX6_hoursOf_1 rfl hl (by decide) rfl (fun ls hl => ?_)
  refine lv_iconst (v := 0) hx hb dX6_hoursOf_2 (by decide) ?_
  refine lv_istore (lv' := [(4, .int (0 : Int32)), (3, .int (0 : Int32)), (0, .ref h), (1, .int boat), (2, .int day)]) hx hb dX6_hoursOf_3 hl (by decide) rfl (fun ls hl => ?_)
  obtain ⟨C, hC, eC⟩ := MI_n21 hI
  have L_5 : ∀ (n : Nat) (i : Nat) (x3 : Int32) (H : Heap) (locs : List Loc) (ls : Array Slot), i + n = 61 → i ≤ C → lf_hoursOf_5 σ boat day n i x3 = lf_hoursOf_5 σ boat day 61 0 (0 : Int32) → va_P D vwCl (mW cI cZ h σ) H → va_S A s.heap H locs → lv_has ls 5 [(4, .int (nI i)), (3, .int x3), (0, .ref h), (1, .int boat), (2, .int day)] → W p l e R s m args below meth c H locs cells slots Q (F0 m 5 ls []) := by
    intro n
    induction n with
    | zero => intro i x3 H locs ls hin hiC; omega
    | succ n ih =>
      intro i x3 H locs ls hin hiC hfin hP hS hl
      have hfin : (if (σ 21 0) ≤ (nI i) then x3 else (lf_hoursOf_5 σ boat day n (i + 1) (x3 + (if (σ 23 (nI i).toNatClampNeg) = boat then (if (q_in (σ 22 (nI i).toNatClampNeg) (1 : Int32) (2 : Int32)) = 0 then (0 : Int32) else (if ((σ 26 (nI i).toNatClampNeg) / (1440 : Int32)) = day then (σ 27 (nI i).toNatClampNeg) else (0 : Int32))) else (0 : Int32))))) = lf_hoursOf_5 σ boat day 61 0 (0 : Int32) := hfin
      refine lv_iload hx hb dX6_hoursOf_5 (lv_at hl 0 rfl) ?_
      refine lv_aload_n hx hb dX6_hoursOf_7 rfl (lv_at hl 2 rfl) ?_
      refine mg_sailings E hP (by decide +kernel) dX6_hoursOf_8 ?_
      refine lv_icmp_ge (tgt := 75) hx hb dX6_hoursOf_11 (by decide) (fun c_1 => ?_) (fun c_1 => ?_)
      · have hfin := (if_pos c_1).symm.trans hfin
        subst hfin
        have hl := lv_sub hl [1, 2, 3, 4] rfl
        refine lv_iload_n hx hb dX6_hoursOf_75 rfl (lv_at hl 0 rfl) ?_
        exact kr _ (lf_hoursOf_5 σ boat day 61 0 (0 : Int32)) H locs ls dX6_hoursOf_76 hq.symm hP hS
      have hfin := (if_neg c_1).symm.trans hfin
      have hlt : i < C := m_lt eC c_1 (by omega) (by omega)
      refine lv_iload_n hx hb dX6_hoursOf_14 rfl (lv_at hl 1 rfl) ?_
      refine lv_aload_n hx hb dX6_hoursOf_15 rfl (lv_at hl 2 rfl) ?_
      refine mg_boatOf E hP (by decide +kernel) dX6_hoursOf_16 ?_
      refine lv_iload hx hb dX6_hoursOf_19 (lv_at hl 0 rfl) ?_
      refine ml_boatOf E hP (vp_in_nI (n := i) (by omega) (by omega)) dX6_hoursOf_21 ?_
      refine lv_iload_n hx hb dX6_hoursOf_22 rfl (lv_at hl 3 rfl) ?_
      have J_2 : ∀ (y2_t0 : Int32) (H : Heap) (locs : List Loc) (ls : Array Slot), y2_t0 = (if (σ 23 (nI i).toNatClampNeg) = boat then (if (q_in (σ 22 (nI i).toNatClampNeg) (1 : Int32) (2 : Int32)) = 0 then (0 : Int32) else (if ((σ 26 (nI i).toNatClampNeg) / (1440 : Int32)) = day then (σ 27 (nI i).toNatClampNeg) else (0 : Int32))) else (0 : Int32)) → va_P D vwCl (mW cI cZ h σ) H → va_S A s.heap H locs → lv_has ls 5 [(4, .int (nI i)), (3, .int x3), (0, .ref h), (1, .int boat), (2, .int day)] → W p l e R s m args below meth c H locs cells slots Q (F0 m 67 ls [.int y2_t0, .int x3]) := by
        intro y2_t0 H locs ls e_y2_t0 hP hS hl
        subst e_y2_t0
        refine lv_iadd hx hb dX6_hoursOf_67 ?_
        refine lv_istore_n (lv' := [(3, .int (x3 + (if (σ 23 (nI i).toNatClampNeg) = boat then (if (q_in (σ 22 (nI i).toNatClampNeg) (1 : Int32) (2 : Int32)) = 0 then (0 : Int32) else (if ((σ 26 (nI i).toNatClampNeg) / (1440 : Int32)) = day then (σ 27 (nI i).toNatClampNeg) else (0 : Int32))) else (0 : Int32)))), (4, .int (nI i)), (0, .ref h), (1, .int boat), (2, .int day)]) hx hb dX6_hoursOf_68 rfl hl (by decide) rfl (fun ls hl => ?_)
        refine lv_iinc (v := nI (i + 1)) (lv' := [(4, .int (nI (i + 1))), (3, .int (x3 + (if (σ 23 (nI i).toNatClampNeg) = boat then (if (q_in (σ 22 (nI i).toNatClampNeg) (1 : Int32) (2 : Int32)) = 0 then (0 : Int32) else (if ((σ 26 (nI i).toNatClampNeg) / (1440 : Int32)) = day then (σ 27 (nI i).toNatClampNeg) else (0 : Int32))) else (0 : Int32)))), (0, .ref h), (1, .int boat), (2, .int day)]) hx hb dX6_hoursOf_69 hl (k := 1) rfl (by first | rfl | exact nI_1 _) (by decide) rfl (fun ls hl => ?_)
        refine lv_goto (tgt := 5) hx hb dX6_hoursOf_72 (by decide) ?_
        exact ih (i + 1) (x3 + (if (σ 23 (nI i).toNatClampNeg) = boat then (if (q_in (σ 22 (nI i).toNatClampNeg) (1 : Int32) (2 : Int32)) = 0 then (0 : Int32) else (if ((σ 26 (nI i).toNatClampNeg) / (1440 : Int32)) = day then (σ 27 (nI i).toNatClampNeg) else (0 : Int32))) else (0 : Int32))) H locs ls (by omega) (by omega) hfin hP hS (lv_sub hl [0, 1, 2, 3, 4] rfl)
      refine lv_icmp_ne (tgt := 66) hx hb dX6_hoursOf_23 (by decide) (fun c_2 => ?_) (fun c_2 => ?_)
      · refine lv_iconst (v := 0) hx hb dX6_hoursOf_66 (by decide) ?_
        exact J_2 (0 : Int32) H locs ls (if_neg c_2).symm hP hS (lv_sub hl [0, 1, 2, 3, 4] rfl)
      refine lv_aload_n hx hb dX6_hoursOf_26 rfl (lv_at hl 2 rfl) ?_
      refine mg_state E hP (by decide +kernel) dX6_hoursOf_27 ?_
      refine lv_iload hx hb dX6_hoursOf_30 (lv_at hl 0 rfl) ?_
      refine ml_state E hP (vp_in_nI (n := i) (by omega) (by omega)) dX6_hoursOf_32 ?_
      refine lv_iconst (v := 1) hx hb dX6_hoursOf_33 (by decide) ?_
      refine lv_iconst (v := 2) hx hb dX6_hoursOf_34 (by decide) ?_
      refine mcS_i E hml hP hS (c_in l hA σ (σ 22 (nI i).toNatClampNeg) (1 : Int32) (2 : Int32)) (va_cwS 3 hts gX6_hoursOf_X6_in rfl rfl rfl (by decide +kernel) ⟨Nat.le_trans (Nat.le_of_ble_eq_true rfl) hR.1, Nat.le_trans (Nat.le_of_ble_eq_true rfl) hR.2⟩) rfl hl.1 rfl (Nat.le_of_ble_eq_true rfl) dX6_hoursOf_35 hf (fun H locs hP hS => ?_)
      refine lv_if_eq (tgt := 66) hx hb dX6_hoursOf_38 (by decide) (fun c_3 => ?_) (fun c_3 => ?_)
      · refine lv_iconst (v := 0) hx hb dX6_hoursOf_66 (by decide) ?_
        exact J_2 (0 : Int32) H locs ls ((if_pos c_3).symm.trans (if_pos c_2).symm) hP hS (lv_sub hl [0, 1, 2, 3, 4] rfl)
      refine lv_aload_n hx hb dX6_hoursOf_41 rfl (lv_at hl 2 rfl) ?_
      refine mg_departs E hP (by decide +kernel) dX6_hoursOf_42 ?_
      refine lv_iload hx hb dX6_hoursOf_45 (lv_at hl 0 rfl) ?_
      refine ml_departs E hP (vp_in_nI (n := i) (by omega) (by omega)) dX6_hoursOf_47 ?_
      refine lv_sipush (v := 1440) hx hb dX6_hoursOf_48 (by decide) ?_
      refine lv_idiv hx hb dX6_hoursOf_51 (by decide) ?_
      refine lv_iload_n hx hb dX6_hoursOf_52 rfl (lv_at hl 4 rfl) ?_
      refine lv_icmp_ne (tgt := 66) hx hb dX6_hoursOf_53 (by decide) (fun c_4 => ?_) (fun c_4 => ?_)
      · refine lv_iconst (v := 0) hx hb dX6_hoursOf_66 (by decide) ?_
        exact J_2 (0 : Int32) H locs ls ((if_neg c_4).symm.trans ((if_neg c_3).symm.trans (if_pos c_2).symm)) hP hS (lv_sub hl [0, 1, 2, 3, 4] rfl)
      refine lv_aload_n hx hb dX6_hoursOf_56 rfl (lv_at hl 2 rfl) ?_
      refine mg_takes E hP (by decide +kernel) dX6_hoursOf_57 ?_
      refine lv_iload hx hb dX6_hoursOf_60 (lv_at hl 0 rfl) ?_
      refine ml_takes E hP (vp_in_nI (n := i) (by omega) (by omega)) dX6_hoursOf_62 ?_
      refine lv_goto (tgt := 67) hx hb dX6_hoursOf_63 (by decide) ?_
      exact J_2 (σ 27 (nI i).toNatClampNeg) H locs ls ((if_pos c_4).symm.trans ((if_neg c_3).symm.trans (if_pos c_2).symm)) hP hS (lv_sub hl [0, 1, 2, 3, 4] rfl)
  exact L_5 61 0 (0 : Int32) H locs ls (by omega) (Nat.zero_le _) rfl hP hS (lv_sub hl [0, 1, 2, 3, 4] rfl)
set_option maxHeartbeats 4000000 in
set_option maxRecDepth 100000 in
theorem c_hoursOf (l : Launch) {D : va_G} {A : Nat → Prop} {cI cZ : ClassId} {h : Nat} (hA : ∀ i, i < 44 → A (h + i)) (σ : St) (boat : Int32) (day : Int32) (hI : MI σ) : Met l yX6_hoursOf wsX6_hoursOf ({ frames := 1, cells := 0, slots := 0, locals := 22 }) (va_Pc [.ref h, .int boat, .int day] (mU D cI cZ h σ)) (va_Qi (fun r (_ : Unit) => r = q_hoursOf σ boat day) (fun _ t => mU D cI cZ h (σ) t) A) 0 0 A := by
  refine Met.ofW (cc := cX6_hoursOf) (maxL := 5) (ret := (some .int)) (by decide) rfl ?_
  intro p e s m args below meth c s₁ B hml hv
  obtain ⟨rfl, hP, hK⟩ := hv
  have E : mE p c cX6_hoursOf s m ([.ref h, .int boat, .int day] : List Value).toArray wsX6_hoursOf D cI cZ := ⟨⟨B.exec, B.bytes⟩, atoms_spec (ws := wsX6_hoursOf) B.pre, (by decide +kernel), findClass_of_methodNamed B.named, hK⟩
  have hr := B.returns
  have hlocks := B.notSynchronized
  have hl := lv_entry ([.ref h, .int boat, .int day]) (n := 5) (Nat.le_of_ble_eq_true rfl)
  rw [lg_entry_eq]
  generalize (lg_sl ([.ref h, .int boat, .int day]) ++ List.replicate (5 - (lg_sl ([.ref h, .int boat, .int day])).length) Slot.unset).toArray = ls at hl ⊢
  refine w_hoursOf σ boat day hI E hml hA ⟨Nat.le_of_ble_eq_true rfl, Nat.le_of_ble_eq_true rfl⟩ ⟨Nat.zero_le _, Nat.zero_le _⟩ hP va_S.rf hl (fun pc v H1 locs1 ls1 hd hv hP1 hS1 => ?_)
  exact W.iret (v := v) B.exec B.bytes hr (fun t ht hW => ⟨⟨v, (), rfl, hv, by rw [ht]; exact hP1, va_K.moved hW.alike hK⟩, hS1.F ht⟩) hS1.2.2 hd
def k46t0_isBarred (σ : St) (boat : Int32) (first : Int32) (last : Int32) : Int32 := if (σ 20 boat.toNatClampNeg) = 0 then (if (σ 19 boat.toNatClampNeg) = first then (if ((((σ 18 boat.toNatClampNeg) >>> (first &&& 31)) &&& ((σ 18 boat.toNatClampNeg) >>> (last &&& 31))) &&& (1 : Int32)) = 0 then (1 : Int32) else (0 : Int32)) else (1 : Int32)) else (1 : Int32)
def q_isBarred (σ : St) (boat : Int32) (first : Int32) (last : Int32) : Int32 := k46t0_isBarred σ boat first last
set_option maxHeartbeats 4000000 in
set_option maxRecDepth 100000 in
theorem w_isBarred {p : Program} {l : Launch} {e : Env} {R : Room} {s : State} {m : MethodId} {args : Array Value} {below : List Frame} {meth : Method} {c : Code} {H : Heap} {locs : List Loc} {cells slots : Nat} {Q : State → Prop} {D : va_G} {A : Nat → Prop} {cI cZ : ClassId} {h : Nat} {ls : Array Slot} (σ : St) (boat : Int32) (first : Int32) (last : Int32) (h_boat : vp_in boat 6) (E : mE p c cX6_isBarred s m args wsX6_isBarred D cI cZ) (hml : c.maxLocals = 4) (hA : ∀ i, i < 44 → A (h + i)) (hR : 0 ≤ R.frames ∧ 0 ≤ R.locals) (hf : cells ≤ R.cells ∧ slots ≤ R.slots) (hP : va_P D vwCl (mW cI cZ h σ) H) (hS : va_S A s.heap H locs) (hl : lv_has ls 4 [(0, .ref h), (1, .int boat), (2, .int first), (3, .int last)]) (kr : ∀ (pc : Nat) (rv : Int32) (H1 : Heap) (locs1 : List Loc) (ls1 : Array Slot), decode cX6_isBarred pc = .ok (.ireturn, 1) → rv = q_isBarred σ boat first last → va_P D vwCl (mW cI cZ h (σ)) H1 → va_S A s.heap H1 locs1 → W p l e R s m args below meth c H1 locs1 cells slots Q (F0 m pc ls1 [.int rv])) : W p l e R s m args below meth c H locs cells slots Q (F0 m 0 ls []) := by
  have hx := E.1.1
  have hb := E.1.2
  have hts := E.2.1
  have hq : q_isBarred σ boat first last = k46t0_isBarred σ boat first last := rfl
  refine lv_aload_n hx hb dX6_isBarred_0 rfl (lv_at hl 0 rfl) ?_
  refine mg_isBroken E hP (by decide +kernel) dX6_isBarred_1 ?_
  refine lv_iload_n hx hb dX6_isBarred_4 rfl (lv_at hl 1 rfl) ?_
  refine ml_isBroken E hP h_boat dX6_isBarred_5 ?_
  have J_1 : ∀ (y1_t0 : Int32) (H : Heap) (locs : List Loc) (ls : Array Slot), y1_t0 = (k46t0_isBarred σ boat first last) → va_P D vwCl (mW cI cZ h σ) H → va_S A s.heap H locs → lv_has ls 4 [(0, .ref h), (1, .int boat), (2, .int first), (3, .int last)] → W p l e R s m args below meth c H locs cells slots Q (F0 m 46 ls [.int y1_t0]) := by
    intro y1_t0 H locs ls e_y1_t0 hP hS hl
    subst e_y1_t0
    exact kr _ (k46t0_isBarred σ boat first last) H locs ls dX6_isBarred_46 hq.symm hP hS
  refine lv_if_ne (tgt := 41) hx hb dX6_isBarred_6 (by decide) (fun c_1 => ?_) (fun c_1 => ?_)
  · refine lv_iconst (v := 1) hx hb dX6_isBarred_41 (by decide) ?_
    refine lv_goto (tgt := 46) hx hb dX6_isBarred_42 (by decide) ?_
    exact J_1 (1 : Int32) H locs ls (if_neg c_1).symm hP hS (lv_sub hl [0, 1, 2, 3] rfl)
  refine lv_aload_n hx hb dX6_isBarred_9 rfl (lv_at hl 0 rfl) ?_
  refine mg_lies E hP (by decide +kernel) dX6_isBarred_10 ?_
  refine lv_iload_n hx hb dX6_isBarred_13 rfl (lv_at hl 1 rfl) ?_
  refine ml_lies E hP h_boat dX6_isBarred_14 ?_
  refine lv_iload_n hx hb dX6_isBarred_15 rfl (lv_at hl 2 rfl) ?_
  refine lv_icmp_ne (tgt := 41) hx hb dX6_isBarred_16 (by decide) (fun c_2 => ?_) (fun c_2 => ?_)
  · refine lv_iconst (v := 1) hx hb dX6_isBarred_41 (by decide) ?_
    refine lv_goto (tgt := 46) hx hb dX6_isBarred_42 (by decide) ?_
    exact J_1 (1 : Int32) H locs ls ((if_neg c_2).symm.trans (if_pos c_1).symm) hP hS (lv_sub hl [0, 1, 2, 3] rfl)
  refine lv_aload_n hx hb dX6_isBarred_19 rfl (lv_at hl 0 rfl) ?_
  refine mg_ramp E hP (by decide +kernel) dX6_isBarred_20 ?_
  refine lv_iload_n hx hb dX6_isBarred_23 rfl (lv_at hl 1 rfl) ?_
  refine ml_ramp E hP h_boat dX6_isBarred_24 ?_
  refine lv_iload_n hx hb dX6_isBarred_25 rfl (lv_at hl 2 rfl) ?_
  refine lv_ishr hx hb dX6_isBarred_26 ?_
  refine lv_aload_n hx hb dX6_isBarred_27 rfl (lv_at hl 0 rfl) ?_
  refine mg_ramp E hP (by decide +kernel) dX6_isBarred_28 ?_
  refine lv_iload_n hx hb dX6_isBarred_31 rfl (lv_at hl 1 rfl) ?_
  refine ml_ramp E hP h_boat dX6_isBarred_32 ?_
  refine lv_iload_n hx hb dX6_isBarred_33 rfl (lv_at hl 3 rfl) ?_
  refine lv_ishr hx hb dX6_isBarred_34 ?_
  refine lv_iand hx hb dX6_isBarred_35 ?_
  refine lv_iconst (v := 1) hx hb dX6_isBarred_36 (by decide) ?_
  refine lv_iand hx hb dX6_isBarred_37 ?_
  refine lv_if_ne (tgt := 45) hx hb dX6_isBarred_38 (by decide) (fun c_3 => ?_) (fun c_3 => ?_)
  · refine lv_iconst (v := 0) hx hb dX6_isBarred_45 (by decide) ?_
    exact J_1 (0 : Int32) H locs ls ((if_neg c_3).symm.trans ((if_pos c_2).symm.trans (if_pos c_1).symm)) hP hS (lv_sub hl [0, 1, 2, 3] rfl)
  refine lv_iconst (v := 1) hx hb dX6_isBarred_41 (by decide) ?_
  refine lv_goto (tgt := 46) hx hb dX6_isBarred_42 (by decide) ?_
  exact J_1 (1 : Int32) H locs ls ((if_pos c_3).symm.trans ((if_pos c_2).symm.trans (if_pos c_1).symm)) hP hS (lv_sub hl [0, 1, 2, 3] rfl)
theorem b_isBarred (σ : St) (boat : Int32) (first : Int32) (last : Int32) : isB (q_isBarred σ boat first last) := by
  unfold q_isBarred; try unfold k46t0_isBarred;  repeat (first | exact isB0 | exact isB1 | apply isB_if)
set_option maxHeartbeats 4000000 in
set_option maxRecDepth 100000 in
theorem c_isBarred (l : Launch) {D : va_G} {A : Nat → Prop} {cI cZ : ClassId} {h : Nat} (hA : ∀ i, i < 44 → A (h + i)) (σ : St) (boat : Int32) (first : Int32) (last : Int32) (h_boat : vp_in boat 6) : Met l yX6_isBarred wsX6_isBarred ({ frames := 0, cells := 0, slots := 0, locals := 0 }) (va_Pc [.ref h, .int boat, .int first, .int last] (mU D cI cZ h σ)) (va_Qi (fun r (_ : Unit) => r = q_isBarred σ boat first last) (fun _ t => mU D cI cZ h (σ) t) A) 0 0 A := by
  refine Met.ofW (cc := cX6_isBarred) (maxL := 4) (ret := (some .boolean)) (by decide) rfl ?_
  intro p e s m args below meth c s₁ B hml hv
  obtain ⟨rfl, hP, hK⟩ := hv
  have E : mE p c cX6_isBarred s m ([.ref h, .int boat, .int first, .int last] : List Value).toArray wsX6_isBarred D cI cZ := ⟨⟨B.exec, B.bytes⟩, atoms_spec (ws := wsX6_isBarred) B.pre, (by decide +kernel), findClass_of_methodNamed B.named, hK⟩
  have hr := B.returns
  have hlocks := B.notSynchronized
  have hl := lv_entry ([.ref h, .int boat, .int first, .int last]) (n := 4) (Nat.le_of_ble_eq_true rfl)
  rw [lg_entry_eq]
  generalize (lg_sl ([.ref h, .int boat, .int first, .int last]) ++ List.replicate (4 - (lg_sl ([.ref h, .int boat, .int first, .int last])).length) Slot.unset).toArray = ls at hl ⊢
  refine w_isBarred σ boat first last h_boat E hml hA ⟨Nat.le_of_ble_eq_true rfl, Nat.le_of_ble_eq_true rfl⟩ ⟨Nat.zero_le _, Nat.zero_le _⟩ hP va_S.rf hl (fun pc v H1 locs1 ls1 hd hv hP1 hS1 => ?_)
  exact W.zret (v := v) B.exec B.bytes hr (by rw [hv]; exact isB_n (b_isBarred σ boat first last)) (fun t ht hW => ⟨⟨v, (), rfl, hv, by rw [ht]; exact hP1, va_K.moved hW.alike hK⟩, hS1.F ht⟩) hS1.2.2 hd
def q_isShallow (σ : St) (boat : Int32) (pier : Int32) (minute : Int32) : Int32 := if (σ 13 boat.toNatClampNeg) ≤ ((σ 3 pier.toNatClampNeg) + (q_tideOf σ pier minute)) then (0 : Int32) else (1 : Int32)
set_option maxHeartbeats 4000000 in
set_option maxRecDepth 100000 in
theorem w_isShallow {p : Program} {l : Launch} {e : Env} {R : Room} {s : State} {m : MethodId} {args : Array Value} {below : List Frame} {meth : Method} {c : Code} {H : Heap} {locs : List Loc} {cells slots : Nat} {Q : State → Prop} {D : va_G} {A : Nat → Prop} {cI cZ : ClassId} {h : Nat} {ls : Array Slot} (σ : St) (boat : Int32) (pier : Int32) (minute : Int32) (h_boat : vp_in boat 6) (h_pier : vp_in pier 8) (E : mE p c cX6_isShallow s m args wsX6_isShallow D cI cZ) (hml : c.maxLocals = 4) (hA : ∀ i, i < 44 → A (h + i)) (hR : 1 ≤ R.frames ∧ 23 ≤ R.locals) (hf : cells ≤ R.cells ∧ slots ≤ R.slots) (hP : va_P D vwCl (mW cI cZ h σ) H) (hS : va_S A s.heap H locs) (hl : lv_has ls 4 [(0, .ref h), (1, .int boat), (2, .int pier), (3, .int minute)]) (kr : ∀ (pc : Nat) (rv : Int32) (H1 : Heap) (locs1 : List Loc) (ls1 : Array Slot), decode cX6_isShallow pc = .ok (.ireturn, 1) → rv = q_isShallow σ boat pier minute → va_P D vwCl (mW cI cZ h (σ)) H1 → va_S A s.heap H1 locs1 → W p l e R s m args below meth c H1 locs1 cells slots Q (F0 m pc ls1 [.int rv])) : W p l e R s m args below meth c H locs cells slots Q (F0 m 0 ls []) := by
  have hx := E.1.1
  have hb := E.1.2
  have hts := E.2.1
  have hq : q_isShallow σ boat pier minute = if (σ 13 boat.toNatClampNeg) ≤ ((σ 3 pier.toNatClampNeg) + (q_tideOf σ pier minute)) then (0 : Int32) else (1 : Int32) := rfl
  refine lv_aload_n hx hb dX6_isShallow_0 rfl (lv_at hl 0 rfl) ?_
  refine mg_depth E hP (by decide +kernel) dX6_isShallow_1 ?_
  refine lv_iload_n hx hb dX6_isShallow_4 rfl (lv_at hl 2 rfl) ?_
  refine ml_depth E hP h_pier dX6_isShallow_5 ?_
  refine lv_aload_n hx hb dX6_isShallow_6 rfl (lv_at hl 0 rfl) ?_
  refine lv_iload_n hx hb dX6_isShallow_7 rfl (lv_at hl 2 rfl) ?_
  refine lv_iload_n hx hb dX6_isShallow_8 rfl (lv_at hl 3 rfl) ?_
  refine mcV_i E hml hP hS (c_tideOf l hA σ pier minute h_pier) (cwV 2 hts gX6_isShallow_X6_tideOf rfl rfl rfl (by decide +kernel) ⟨Nat.le_trans (Nat.le_of_ble_eq_true rfl) hR.1, Nat.le_trans (Nat.le_of_ble_eq_true rfl) hR.2⟩) rfl hl.1 rfl (Nat.le_of_ble_eq_true rfl) dX6_isShallow_9 hf (fun H locs hP hS => ?_)
  refine lv_iadd hx hb dX6_isShallow_12 ?_
  refine lv_aload_n hx hb dX6_isShallow_13 rfl (lv_at hl 0 rfl) ?_
  refine mg_draught E hP (by decide +kernel) dX6_isShallow_14 ?_
  refine lv_iload_n hx hb dX6_isShallow_17 rfl (lv_at hl 1 rfl) ?_
  refine ml_draught E hP h_boat dX6_isShallow_18 ?_
  have J_1 : ∀ (y1_t0 : Int32) (H : Heap) (locs : List Loc) (ls : Array Slot), y1_t0 = (if (σ 13 boat.toNatClampNeg) ≤ ((σ 3 pier.toNatClampNeg) + (q_tideOf σ pier minute)) then (0 : Int32) else (1 : Int32)) → va_P D vwCl (mW cI cZ h σ) H → va_S A s.heap H locs → lv_has ls 4 [(0, .ref h), (1, .int boat), (2, .int pier), (3, .int minute)] → W p l e R s m args below meth c H locs cells slots Q (F0 m 27 ls [.int y1_t0]) := by
    intro y1_t0 H locs ls e_y1_t0 hP hS hl
    subst e_y1_t0
    exact kr _ (if (σ 13 boat.toNatClampNeg) ≤ ((σ 3 pier.toNatClampNeg) + (q_tideOf σ pier minute)) then (0 : Int32) else (1 : Int32)) H locs ls dX6_isShallow_27 hq.symm hP hS
  refine lv_icmp_ge (tgt := 26) hx hb dX6_isShallow_19 (by decide) (fun c_1 => ?_) (fun c_1 => ?_)
  · refine lv_iconst (v := 0) hx hb dX6_isShallow_26 (by decide) ?_
    exact J_1 (0 : Int32) H locs ls (if_pos c_1).symm hP hS (lv_sub hl [0, 1, 2, 3] rfl)
  refine lv_iconst (v := 1) hx hb dX6_isShallow_22 (by decide) ?_
  refine lv_goto (tgt := 27) hx hb dX6_isShallow_23 (by decide) ?_
  exact J_1 (1 : Int32) H locs ls (if_neg c_1).symm hP hS (lv_sub hl [0, 1, 2, 3] rfl)
theorem b_isShallow (σ : St) (boat : Int32) (pier : Int32) (minute : Int32) : isB (q_isShallow σ boat pier minute) := by
  unfold q_isShallow;  repeat (first | exact isB0 | exact isB1 | apply isB_if)
set_option maxHeartbeats 4000000 in
set_option maxRecDepth 100000 in
theorem c_isShallow (l : Launch) {D : va_G} {A : Nat → Prop} {cI cZ : ClassId} {h : Nat} (hA : ∀ i, i < 44 → A (h + i)) (σ : St) (boat : Int32) (pier : Int32) (minute : Int32) (h_boat : vp_in boat 6) (h_pier : vp_in pier 8) : Met l yX6_isShallow wsX6_isShallow ({ frames := 1, cells := 0, slots := 0, locals := 23 }) (va_Pc [.ref h, .int boat, .int pier, .int minute] (mU D cI cZ h σ)) (va_Qi (fun r (_ : Unit) => r = q_isShallow σ boat pier minute) (fun _ t => mU D cI cZ h (σ) t) A) 0 0 A := by
  refine Met.ofW (cc := cX6_isShallow) (maxL := 4) (ret := (some .boolean)) (by decide) rfl ?_
  intro p e s m args below meth c s₁ B hml hv
  obtain ⟨rfl, hP, hK⟩ := hv
  have E : mE p c cX6_isShallow s m ([.ref h, .int boat, .int pier, .int minute] : List Value).toArray wsX6_isShallow D cI cZ := ⟨⟨B.exec, B.bytes⟩, atoms_spec (ws := wsX6_isShallow) B.pre, (by decide +kernel), findClass_of_methodNamed B.named, hK⟩
  have hr := B.returns
  have hlocks := B.notSynchronized
  have hl := lv_entry ([.ref h, .int boat, .int pier, .int minute]) (n := 4) (Nat.le_of_ble_eq_true rfl)
  rw [lg_entry_eq]
  generalize (lg_sl ([.ref h, .int boat, .int pier, .int minute]) ++ List.replicate (4 - (lg_sl ([.ref h, .int boat, .int pier, .int minute])).length) Slot.unset).toArray = ls at hl ⊢
  refine w_isShallow σ boat pier minute h_boat h_pier E hml hA ⟨Nat.le_of_ble_eq_true rfl, Nat.le_of_ble_eq_true rfl⟩ ⟨Nat.zero_le _, Nat.zero_le _⟩ hP va_S.rf hl (fun pc v H1 locs1 ls1 hd hv hP1 hS1 => ?_)
  exact W.zret (v := v) B.exec B.bytes hr (by rw [hv]; exact isB_n (b_isShallow σ boat pier minute)) (fun t ht hW => ⟨⟨v, (), rfl, hv, by rw [ht]; exact hP1, va_K.moved hW.alike hK⟩, hS1.F ht⟩) hS1.2.2 hd
def k39t0_isDark (σ : St) (own : Int32) (arrival : Int32) : Int32 := if (σ 6 (σ 25 own.toNatClampNeg).toNatClampNeg) = 0 then (if (arrival - arrival / (1440 : Int32) * (1440 : Int32)) < (360 : Int32) then (1 : Int32) else (if (arrival - arrival / (1440 : Int32) * (1440 : Int32)) < (1320 : Int32) then (0 : Int32) else (1 : Int32))) else (0 : Int32)
def q_isDark (σ : St) (own : Int32) (arrival : Int32) : Int32 := k39t0_isDark σ own arrival
set_option maxHeartbeats 4000000 in
set_option maxRecDepth 100000 in
theorem w_isDark {p : Program} {l : Launch} {e : Env} {R : Room} {s : State} {m : MethodId} {args : Array Value} {below : List Frame} {meth : Method} {c : Code} {H : Heap} {locs : List Loc} {cells slots : Nat} {Q : State → Prop} {D : va_G} {A : Nat → Prop} {cI cZ : ClassId} {h : Nat} {ls : Array Slot} (σ : St) (own : Int32) (arrival : Int32) (hI : MI σ) (h_own : vp_in own 60) (E : mE p c cX6_isDark s m args wsX6_isDark D cI cZ) (hml : c.maxLocals = 4) (hA : ∀ i, i < 44 → A (h + i)) (hR : 0 ≤ R.frames ∧ 0 ≤ R.locals) (hf : cells ≤ R.cells ∧ slots ≤ R.slots) (hP : va_P D vwCl (mW cI cZ h σ) H) (hS : va_S A s.heap H locs) (hl : lv_has ls 4 [(0, .ref h), (1, .int own), (2, .int arrival)]) (kr : ∀ (pc : Nat) (rv : Int32) (H1 : Heap) (locs1 : List Loc) (ls1 : Array Slot), decode cX6_isDark pc = .ok (.ireturn, 1) → rv = q_isDark σ own arrival → va_P D vwCl (mW cI cZ h (σ)) H1 → va_S A s.heap H1 locs1 → W p l e R s m args below meth c H1 locs1 cells slots Q (F0 m pc ls1 [.int rv])) : W p l e R s m args below meth c H locs cells slots Q (F0 m 0 ls []) := by
  have hx := E.1.1
  have hb := E.1.2
  have hts := E.2.1
  have hq : q_isDark σ own arrival = k39t0_isDark σ own arrival := rfl
  refine lv_iload_n hx hb dX6_isDark_0 rfl (lv_at hl 2 rfl) ?_
  refine lv_sipush (v := 1440) hx hb dX6_isDark_1 (by decide) ?_
  refine lv_irem hx hb dX6_isDark_4 (by decide) ?_
  refine lv_istore_n (lv' := [(3, .int (arrival - arrival / (1440 : Int32) * (1440 : Int32))), (0, .ref h), (1, .int own), (2, .int arrival)]) hx hb dX6_isDark_5 rfl hl (by decide) rfl (fun ls hl => ?_)
  refine lv_aload_n hx hb dX6_isDark_6 rfl (lv_at hl 1 rfl) ?_
  refine mg_isLit E hP (by decide +kernel) dX6_isDark_7 ?_
  refine lv_aload_n hx hb dX6_isDark_10 rfl (lv_at hl 1 rfl) ?_
  refine mg_to E hP (by decide +kernel) dX6_isDark_11 ?_
  refine lv_iload_n hx hb dX6_isDark_14 rfl (lv_at hl 2 rfl) ?_
  refine ml_to E hP h_own dX6_isDark_15 ?_
  refine ml_isLit E hP (MI_to hI _) dX6_isDark_16 ?_
  have J_1 : ∀ (y1_t0 : Int32) (H : Heap) (locs : List Loc) (ls : Array Slot), y1_t0 = (k39t0_isDark σ own arrival) → va_P D vwCl (mW cI cZ h σ) H → va_S A s.heap H locs → lv_has ls 4 [(3, .int (arrival - arrival / (1440 : Int32) * (1440 : Int32))), (0, .ref h), (1, .int own), (2, .int arrival)] → W p l e R s m args below meth c H locs cells slots Q (F0 m 39 ls [.int y1_t0]) := by
    intro y1_t0 H locs ls e_y1_t0 hP hS hl
    subst e_y1_t0
    exact kr _ (k39t0_isDark σ own arrival) H locs ls dX6_isDark_39 hq.symm hP hS
  refine lv_if_ne (tgt := 38) hx hb dX6_isDark_17 (by decide) (fun c_1 => ?_) (fun c_1 => ?_)
  · refine lv_iconst (v := 0) hx hb dX6_isDark_38 (by decide) ?_
    exact J_1 (0 : Int32) H locs ls (if_neg c_1).symm hP hS (lv_sub hl [0, 1, 2, 3] rfl)
  refine lv_iload_n hx hb dX6_isDark_20 rfl (lv_at hl 0 rfl) ?_
  refine lv_sipush (v := 360) hx hb dX6_isDark_21 (by decide) ?_
  refine lv_icmp_lt (tgt := 34) hx hb dX6_isDark_24 (by decide) (fun c_2 => ?_) (fun c_2 => ?_)
  · refine lv_iconst (v := 1) hx hb dX6_isDark_34 (by decide) ?_
    refine lv_goto (tgt := 39) hx hb dX6_isDark_35 (by decide) ?_
    exact J_1 (1 : Int32) H locs ls ((if_pos c_2).symm.trans (if_pos c_1).symm) hP hS (lv_sub hl [0, 1, 2, 3] rfl)
  refine lv_iload_n hx hb dX6_isDark_27 rfl (lv_at hl 0 rfl) ?_
  refine lv_sipush (v := 1320) hx hb dX6_isDark_28 (by decide) ?_
  refine lv_icmp_lt (tgt := 38) hx hb dX6_isDark_31 (by decide) (fun c_3 => ?_) (fun c_3 => ?_)
  · refine lv_iconst (v := 0) hx hb dX6_isDark_38 (by decide) ?_
    exact J_1 (0 : Int32) H locs ls ((if_pos c_3).symm.trans ((if_neg c_2).symm.trans (if_pos c_1).symm)) hP hS (lv_sub hl [0, 1, 2, 3] rfl)
  refine lv_iconst (v := 1) hx hb dX6_isDark_34 (by decide) ?_
  refine lv_goto (tgt := 39) hx hb dX6_isDark_35 (by decide) ?_
  exact J_1 (1 : Int32) H locs ls ((if_neg c_3).symm.trans ((if_neg c_2).symm.trans (if_pos c_1).symm)) hP hS (lv_sub hl [0, 1, 2, 3] rfl)
theorem b_isDark (σ : St) (own : Int32) (arrival : Int32) : isB (q_isDark σ own arrival) := by
  unfold q_isDark; try unfold k39t0_isDark;  repeat (first | exact isB0 | exact isB1 | apply isB_if)
set_option maxHeartbeats 4000000 in
set_option maxRecDepth 100000 in
theorem c_isDark (l : Launch) {D : va_G} {A : Nat → Prop} {cI cZ : ClassId} {h : Nat} (hA : ∀ i, i < 44 → A (h + i)) (σ : St) (own : Int32) (arrival : Int32) (hI : MI σ) (h_own : vp_in own 60) : Met l yX6_isDark wsX6_isDark ({ frames := 0, cells := 0, slots := 0, locals := 0 }) (va_Pc [.ref h, .int own, .int arrival] (mU D cI cZ h σ)) (va_Qi (fun r (_ : Unit) => r = q_isDark σ own arrival) (fun _ t => mU D cI cZ h (σ) t) A) 0 0 A := by
  refine Met.ofW (cc := cX6_isDark) (maxL := 4) (ret := (some .boolean)) (by decide) rfl ?_
  intro p e s m args below meth c s₁ B hml hv
  obtain ⟨rfl, hP, hK⟩ := hv
  have E : mE p c cX6_isDark s m ([.ref h, .int own, .int arrival] : List Value).toArray wsX6_isDark D cI cZ := ⟨⟨B.exec, B.bytes⟩, atoms_spec (ws := wsX6_isDark) B.pre, (by decide +kernel), findClass_of_methodNamed B.named, hK⟩
  have hr := B.returns
  have hlocks := B.notSynchronized
  have hl := lv_entry ([.ref h, .int own, .int arrival]) (n := 4) (Nat.le_of_ble_eq_true rfl)
  rw [lg_entry_eq]
  generalize (lg_sl ([.ref h, .int own, .int arrival]) ++ List.replicate (4 - (lg_sl ([.ref h, .int own, .int arrival])).length) Slot.unset).toArray = ls at hl ⊢
  refine w_isDark σ own arrival hI h_own E hml hA ⟨Nat.le_of_ble_eq_true rfl, Nat.le_of_ble_eq_true rfl⟩ ⟨Nat.zero_le _, Nat.zero_le _⟩ hP va_S.rf hl (fun pc v H1 locs1 ls1 hd hv hP1 hS1 => ?_)
  exact W.zret (v := v) B.exec B.bytes hr (by rw [hv]; exact isB_n (b_isDark σ own arrival)) (fun t ht hW => ⟨⟨v, (), rfl, hv, by rw [ht]; exact hP1, va_K.moved hW.alike hK⟩, hS1.F ht⟩) hS1.2.2 hd
def k50t0_isRough (σ : St) (own : Int32) : Int32 := if (σ 7 (σ 24 own.toNatClampNeg).toNatClampNeg) ≤ (σ 7 (σ 25 own.toNatClampNeg).toNatClampNeg) then (σ 7 (σ 25 own.toNatClampNeg).toNatClampNeg) else (σ 7 (σ 24 own.toNatClampNeg).toNatClampNeg)
def q_isRough (σ : St) (own : Int32) : Int32 := if (k50t0_isRough σ own) ≤ (σ 17 (σ 23 own.toNatClampNeg).toNatClampNeg) then (0 : Int32) else (1 : Int32)
set_option maxHeartbeats 4000000 in
set_option maxRecDepth 100000 in
theorem w_isRough {p : Program} {l : Launch} {e : Env} {R : Room} {s : State} {m : MethodId} {args : Array Value} {below : List Frame} {meth : Method} {c : Code} {H : Heap} {locs : List Loc} {cells slots : Nat} {Q : State → Prop} {D : va_G} {A : Nat → Prop} {cI cZ : ClassId} {h : Nat} {ls : Array Slot} (σ : St) (own : Int32) (hI : MI σ) (h_own : vp_in own 60) (E : mE p c cX6_isRough s m args wsX6_isRough D cI cZ) (hml : c.maxLocals = 3) (hA : ∀ i, i < 44 → A (h + i)) (hR : 0 ≤ R.frames ∧ 0 ≤ R.locals) (hf : cells ≤ R.cells ∧ slots ≤ R.slots) (hP : va_P D vwCl (mW cI cZ h σ) H) (hS : va_S A s.heap H locs) (hl : lv_has ls 3 [(0, .ref h), (1, .int own)]) (kr : ∀ (pc : Nat) (rv : Int32) (H1 : Heap) (locs1 : List Loc) (ls1 : Array Slot), decode cX6_isRough pc = .ok (.ireturn, 1) → rv = q_isRough σ own → va_P D vwCl (mW cI cZ h (σ)) H1 → va_S A s.heap H1 locs1 → W p l e R s m args below meth c H1 locs1 cells slots Q (F0 m pc ls1 [.int rv])) : W p l e R s m args below meth c H locs cells slots Q (F0 m 0 ls []) := by
  have hx := E.1.1
  have hb := E.1.2
  have hts := E.2.1
  have hq : q_isRough σ own = if (k50t0_isRough σ own) ≤ (σ 17 (σ 23 own.toNatClampNeg).toNatClampNeg) then (0 : Int32) else (1 : Int32) := rfl
  refine lv_aload_n hx hb dX6_isRough_0 rfl (lv_at hl 0 rfl) ?_
  refine mg_swells E hP (by decide +kernel) dX6_isRough_1 ?_
  refine lv_aload_n hx hb dX6_isRough_4 rfl (lv_at hl 0 rfl) ?_
  refine mg_from E hP (by decide +kernel) dX6_isRough_5 ?_
  refine lv_iload_n hx hb dX6_isRough_8 rfl (lv_at hl 1 rfl) ?_
  refine ml_from E hP h_own dX6_isRough_9 ?_
  refine ml_swells E hP (MI_fr hI _) dX6_isRough_10 ?_
  refine lv_aload_n hx hb dX6_isRough_11 rfl (lv_at hl 0 rfl) ?_
  refine mg_swells E hP (by decide +kernel) dX6_isRough_12 ?_
  refine lv_aload_n hx hb dX6_isRough_15 rfl (lv_at hl 0 rfl) ?_
  refine mg_to E hP (by decide +kernel) dX6_isRough_16 ?_
  refine lv_iload_n hx hb dX6_isRough_19 rfl (lv_at hl 1 rfl) ?_
  refine ml_to E hP h_own dX6_isRough_20 ?_
  refine ml_swells E hP (MI_to hI _) dX6_isRough_21 ?_
  have J_1 : ∀ (y1_t0 : Int32) (H : Heap) (locs : List Loc) (ls : Array Slot), y1_t0 = (k50t0_isRough σ own) → va_P D vwCl (mW cI cZ h σ) H → va_S A s.heap H locs → lv_has ls 3 [(0, .ref h), (1, .int own)] → W p l e R s m args below meth c H locs cells slots Q (F0 m 50 ls [.int y1_t0]) := by
    intro y1_t0 H locs ls e_y1_t0 hP hS hl
    subst e_y1_t0
    refine lv_istore_n (lv' := [(2, .int (k50t0_isRough σ own)), (0, .ref h), (1, .int own)]) hx hb dX6_isRough_50 rfl hl (by decide) rfl (fun ls hl => ?_)
    refine lv_iload_n hx hb dX6_isRough_51 rfl (lv_at hl 0 rfl) ?_
    refine lv_aload_n hx hb dX6_isRough_52 rfl (lv_at hl 1 rfl) ?_
    refine mg_bound E hP (by decide +kernel) dX6_isRough_53 ?_
    refine lv_aload_n hx hb dX6_isRough_56 rfl (lv_at hl 1 rfl) ?_
    refine mg_boatOf E hP (by decide +kernel) dX6_isRough_57 ?_
    refine lv_iload_n hx hb dX6_isRough_60 rfl (lv_at hl 2 rfl) ?_
    refine ml_boatOf E hP h_own dX6_isRough_61 ?_
    refine ml_bound E hP (MI_bo hI _) dX6_isRough_62 ?_
    have J_2 : ∀ (y2_t0 : Int32) (H : Heap) (locs : List Loc) (ls : Array Slot), y2_t0 = (if (k50t0_isRough σ own) ≤ (σ 17 (σ 23 own.toNatClampNeg).toNatClampNeg) then (0 : Int32) else (1 : Int32)) → va_P D vwCl (mW cI cZ h σ) H → va_S A s.heap H locs → lv_has ls 3 [(2, .int (k50t0_isRough σ own)), (0, .ref h), (1, .int own)] → W p l e R s m args below meth c H locs cells slots Q (F0 m 71 ls [.int y2_t0]) := by
      intro y2_t0 H locs ls e_y2_t0 hP hS hl
      subst e_y2_t0
      exact kr _ (if (k50t0_isRough σ own) ≤ (σ 17 (σ 23 own.toNatClampNeg).toNatClampNeg) then (0 : Int32) else (1 : Int32)) H locs ls dX6_isRough_71 hq.symm hP hS
    refine lv_icmp_le (tgt := 70) hx hb dX6_isRough_63 (by decide) (fun c_2 => ?_) (fun c_2 => ?_)
    · refine lv_iconst (v := 0) hx hb dX6_isRough_70 (by decide) ?_
      exact J_2 (0 : Int32) H locs ls (if_pos c_2).symm hP hS (lv_sub hl [0, 1, 2] rfl)
    refine lv_iconst (v := 1) hx hb dX6_isRough_66 (by decide) ?_
    refine lv_goto (tgt := 71) hx hb dX6_isRough_67 (by decide) ?_
    exact J_2 (1 : Int32) H locs ls (if_neg c_2).symm hP hS (lv_sub hl [0, 1, 2] rfl)
  refine lv_icmp_le (tgt := 39) hx hb dX6_isRough_22 (by decide) (fun c_1 => ?_) (fun c_1 => ?_)
  · refine lv_aload_n hx hb dX6_isRough_39 rfl (lv_at hl 0 rfl) ?_
    refine mg_swells E hP (by decide +kernel) dX6_isRough_40 ?_
    refine lv_aload_n hx hb dX6_isRough_43 rfl (lv_at hl 0 rfl) ?_
    refine mg_to E hP (by decide +kernel) dX6_isRough_44 ?_
    refine lv_iload_n hx hb dX6_isRough_47 rfl (lv_at hl 1 rfl) ?_
    refine ml_to E hP h_own dX6_isRough_48 ?_
    refine ml_swells E hP (MI_to hI _) dX6_isRough_49 ?_
    exact J_1 (σ 7 (σ 25 own.toNatClampNeg).toNatClampNeg) H locs ls (if_pos c_1).symm hP hS (lv_sub hl [0, 1] rfl)
  refine lv_aload_n hx hb dX6_isRough_25 rfl (lv_at hl 0 rfl) ?_
  refine mg_swells E hP (by decide +kernel) dX6_isRough_26 ?_
  refine lv_aload_n hx hb dX6_isRough_29 rfl (lv_at hl 0 rfl) ?_
  refine mg_from E hP (by decide +kernel) dX6_isRough_30 ?_
  refine lv_iload_n hx hb dX6_isRough_33 rfl (lv_at hl 1 rfl) ?_
  refine ml_from E hP h_own dX6_isRough_34 ?_
  refine ml_swells E hP (MI_fr hI _) dX6_isRough_35 ?_
  refine lv_goto (tgt := 50) hx hb dX6_isRough_36 (by decide) ?_
  exact J_1 (σ 7 (σ 24 own.toNatClampNeg).toNatClampNeg) H locs ls (if_neg c_1).symm hP hS (lv_sub hl [0, 1] rfl)
theorem b_isRough (σ : St) (own : Int32) : isB (q_isRough σ own) := by
  unfold q_isRough; try unfold k50t0_isRough;  repeat (first | exact isB0 | exact isB1 | apply isB_if)
set_option maxHeartbeats 4000000 in
set_option maxRecDepth 100000 in
theorem c_isRough (l : Launch) {D : va_G} {A : Nat → Prop} {cI cZ : ClassId} {h : Nat} (hA : ∀ i, i < 44 → A (h + i)) (σ : St) (own : Int32) (hI : MI σ) (h_own : vp_in own 60) : Met l yX6_isRough wsX6_isRough ({ frames := 0, cells := 0, slots := 0, locals := 0 }) (va_Pc [.ref h, .int own] (mU D cI cZ h σ)) (va_Qi (fun r (_ : Unit) => r = q_isRough σ own) (fun _ t => mU D cI cZ h (σ) t) A) 0 0 A := by
  refine Met.ofW (cc := cX6_isRough) (maxL := 3) (ret := (some .boolean)) (by decide) rfl ?_
  intro p e s m args below meth c s₁ B hml hv
  obtain ⟨rfl, hP, hK⟩ := hv
  have E : mE p c cX6_isRough s m ([.ref h, .int own] : List Value).toArray wsX6_isRough D cI cZ := ⟨⟨B.exec, B.bytes⟩, atoms_spec (ws := wsX6_isRough) B.pre, (by decide +kernel), findClass_of_methodNamed B.named, hK⟩
  have hr := B.returns
  have hlocks := B.notSynchronized
  have hl := lv_entry ([.ref h, .int own]) (n := 3) (Nat.le_of_ble_eq_true rfl)
  rw [lg_entry_eq]
  generalize (lg_sl ([.ref h, .int own]) ++ List.replicate (3 - (lg_sl ([.ref h, .int own])).length) Slot.unset).toArray = ls at hl ⊢
  refine w_isRough σ own hI h_own E hml hA ⟨Nat.le_of_ble_eq_true rfl, Nat.le_of_ble_eq_true rfl⟩ ⟨Nat.zero_le _, Nat.zero_le _⟩ hP va_S.rf hl (fun pc v H1 locs1 ls1 hd hv hP1 hS1 => ?_)
  exact W.zret (v := v) B.exec B.bytes hr (by rw [hv]; exact isB_n (b_isRough σ own)) (fun t ht hW => ⟨⟨v, (), rfl, hv, by rw [ht]; exact hP1, va_K.moved hW.alike hK⟩, hS1.F ht⟩) hS1.2.2 hd
def k124t0_reasonOf (σ : St) (own : Int32) (minute : Int32) : Int32 := if (q_isDark σ own (minute + (σ 27 own.toNatClampNeg))) = 0 then (if (q_isRough σ own) = 0 then (0 : Int32) else (5 : Int32)) else (4 : Int32)
def q_reasonOf (σ : St) (own : Int32) (minute : Int32) : Int32 := if (q_isBarred σ (σ 23 own.toNatClampNeg) (σ 24 own.toNatClampNeg) (σ 25 own.toNatClampNeg)) = 0 then (if ((q_hoursOf σ (σ 23 own.toNatClampNeg) (minute / (1440 : Int32))) + (σ 27 own.toNatClampNeg)) ≤ (720 : Int32) then (if (q_isShallow σ (σ 23 own.toNatClampNeg) (σ 24 own.toNatClampNeg) minute) = 0 then (if (q_isShallow σ (σ 23 own.toNatClampNeg) (σ 25 own.toNatClampNeg) (minute + (σ 27 own.toNatClampNeg))) = 0 then (k124t0_reasonOf σ own minute) else (3 : Int32)) else (3 : Int32)) else (2 : Int32)) else (1 : Int32)
set_option maxHeartbeats 4000000 in
set_option maxRecDepth 100000 in
theorem w_reasonOf {p : Program} {l : Launch} {e : Env} {R : Room} {s : State} {m : MethodId} {args : Array Value} {below : List Frame} {meth : Method} {c : Code} {H : Heap} {locs : List Loc} {cells slots : Nat} {Q : State → Prop} {D : va_G} {A : Nat → Prop} {cI cZ : ClassId} {h : Nat} {ls : Array Slot} (σ : St) (own : Int32) (minute : Int32) (hI : MI σ) (h_own : vp_in own 60) (E : mE p c cX6_reasonOf s m args wsX6_reasonOf D cI cZ) (hml : c.maxLocals = 5) (hA : ∀ i, i < 44 → A (h + i)) (hR : 2 ≤ R.frames ∧ 46 ≤ R.locals) (hf : cells ≤ R.cells ∧ slots ≤ R.slots) (hP : va_P D vwCl (mW cI cZ h σ) H) (hS : va_S A s.heap H locs) (hl : lv_has ls 5 [(0, .ref h), (1, .int own), (2, .int minute)]) (kr : ∀ (pc : Nat) (rv : Int32) (H1 : Heap) (locs1 : List Loc) (ls1 : Array Slot), decode cX6_reasonOf pc = .ok (.ireturn, 1) → rv = q_reasonOf σ own minute → va_P D vwCl (mW cI cZ h (σ)) H1 → va_S A s.heap H1 locs1 → W p l e R s m args below meth c H1 locs1 cells slots Q (F0 m pc ls1 [.int rv])) : W p l e R s m args below meth c H locs cells slots Q (F0 m 0 ls []) := by
  have hx := E.1.1
  have hb := E.1.2
  have hts := E.2.1
  have hq : q_reasonOf σ own minute = if (q_isBarred σ (σ 23 own.toNatClampNeg) (σ 24 own.toNatClampNeg) (σ 25 own.toNatClampNeg)) = 0 then (if ((q_hoursOf σ (σ 23 own.toNatClampNeg) (minute / (1440 : Int32))) + (σ 27 own.toNatClampNeg)) ≤ (720 : Int32) then (if (q_isShallow σ (σ 23 own.toNatClampNeg) (σ 24 own.toNatClampNeg) minute) = 0 then (if (q_isShallow σ (σ 23 own.toNatClampNeg) (σ 25 own.toNatClampNeg) (minute + (σ 27 own.toNatClampNeg))) = 0 then (k124t0_reasonOf σ own minute) else (3 : Int32)) else (3 : Int32)) else (2 : Int32)) else (1 : Int32) := rfl
  refine lv_aload_n hx hb dX6_reasonOf_0 rfl (lv_at hl 0 rfl) ?_
  refine mg_boatOf E hP (by decide +kernel) dX6_reasonOf_1 ?_
  refine lv_iload_n hx hb dX6_reasonOf_4 rfl (lv_at hl 1 rfl) ?_
  refine ml_boatOf E hP h_own dX6_reasonOf_5 ?_
  refine lv_istore_n (lv' := [(3, .int (σ 23 own.toNatClampNeg)), (0, .ref h), (1, .int own), (2, .int minute)]) hx hb dX6_reasonOf_6 rfl hl (by decide) rfl (fun ls hl => ?_)
  refine lv_iload_n hx hb dX6_reasonOf_7 rfl (lv_at hl 3 rfl) ?_
  refine lv_aload_n hx hb dX6_reasonOf_8 rfl (lv_at hl 1 rfl) ?_
  refine mg_takes E hP (by decide +kernel) dX6_reasonOf_9 ?_
  refine lv_iload_n hx hb dX6_reasonOf_12 rfl (lv_at hl 2 rfl) ?_
  refine ml_takes E hP h_own dX6_reasonOf_13 ?_
  refine lv_iadd hx hb dX6_reasonOf_14 ?_
  refine lv_istore (lv' := [(4, .int (minute + (σ 27 own.toNatClampNeg))), (3, .int (σ 23 own.toNatClampNeg)), (0, .ref h), (1, .int own), (2, .int minute)]) hx hb dX6_reasonOf_15 hl (by decide) rfl (fun ls hl => ?_)
  refine lv_aload_n hx hb dX6_reasonOf_17 rfl (lv_at hl 2 rfl) ?_
  refine lv_iload_n hx hb dX6_reasonOf_18 rfl (lv_at hl 1 rfl) ?_
  refine lv_aload_n hx hb dX6_reasonOf_19 rfl (lv_at hl 2 rfl) ?_
  refine mg_from E hP (by decide +kernel) dX6_reasonOf_20 ?_
  refine lv_iload_n hx hb dX6_reasonOf_23 rfl (lv_at hl 3 rfl) ?_
  refine ml_from E hP h_own dX6_reasonOf_24 ?_
  refine lv_aload_n hx hb dX6_reasonOf_25 rfl (lv_at hl 2 rfl) ?_
  refine mg_to E hP (by decide +kernel) dX6_reasonOf_26 ?_
  refine lv_iload_n hx hb dX6_reasonOf_29 rfl (lv_at hl 3 rfl) ?_
  refine ml_to E hP h_own dX6_reasonOf_30 ?_
  refine mcV_i E hml hP hS (c_isBarred l hA σ (σ 23 own.toNatClampNeg) (σ 24 own.toNatClampNeg) (σ 25 own.toNatClampNeg) (MI_bo hI _)) (cwV 3 hts gX6_reasonOf_X6_isBarred rfl rfl rfl (by decide +kernel) ⟨Nat.le_trans (Nat.le_of_ble_eq_true rfl) hR.1, Nat.le_trans (Nat.le_of_ble_eq_true rfl) hR.2⟩) rfl hl.1 rfl (Nat.le_of_ble_eq_true rfl) dX6_reasonOf_31 hf (fun H locs hP hS => ?_)
  refine lv_if_eq (tgt := 39) hx hb dX6_reasonOf_34 (by decide) (fun c_1 => ?_) (fun c_1 => ?_)
  · have hq := hq.trans (if_pos c_1)
    refine lv_aload_n hx hb dX6_reasonOf_39 rfl (lv_at hl 2 rfl) ?_
    refine lv_iload_n hx hb dX6_reasonOf_40 rfl (lv_at hl 1 rfl) ?_
    refine lv_iload_n hx hb dX6_reasonOf_41 rfl (lv_at hl 4 rfl) ?_
    refine lv_sipush (v := 1440) hx hb dX6_reasonOf_42 (by decide) ?_
    refine lv_idiv hx hb dX6_reasonOf_45 (by decide) ?_
    refine mcV_i E hml hP hS (c_hoursOf l hA σ (σ 23 own.toNatClampNeg) (minute / (1440 : Int32)) hI) (cwV 2 hts gX6_reasonOf_X6_hoursOf rfl rfl rfl (by decide +kernel) ⟨Nat.le_trans (Nat.le_of_ble_eq_true rfl) hR.1, Nat.le_trans (Nat.le_of_ble_eq_true rfl) hR.2⟩) rfl hl.1 rfl (Nat.le_of_ble_eq_true rfl) dX6_reasonOf_46 hf (fun H locs hP hS => ?_)
    refine lv_aload_n hx hb dX6_reasonOf_49 rfl (lv_at hl 2 rfl) ?_
    refine mg_takes E hP (by decide +kernel) dX6_reasonOf_50 ?_
    refine lv_iload_n hx hb dX6_reasonOf_53 rfl (lv_at hl 3 rfl) ?_
    refine ml_takes E hP h_own dX6_reasonOf_54 ?_
    refine lv_iadd hx hb dX6_reasonOf_55 ?_
    refine lv_sipush (v := 720) hx hb dX6_reasonOf_56 (by decide) ?_
    refine lv_icmp_le (tgt := 64) hx hb dX6_reasonOf_59 (by decide) (fun c_2 => ?_) (fun c_2 => ?_)
    · have hq := hq.trans (if_pos c_2)
      refine lv_aload_n hx hb dX6_reasonOf_64 rfl (lv_at hl 2 rfl) ?_
      refine lv_iload_n hx hb dX6_reasonOf_65 rfl (lv_at hl 1 rfl) ?_
      refine lv_aload_n hx hb dX6_reasonOf_66 rfl (lv_at hl 2 rfl) ?_
      refine mg_from E hP (by decide +kernel) dX6_reasonOf_67 ?_
      refine lv_iload_n hx hb dX6_reasonOf_70 rfl (lv_at hl 3 rfl) ?_
      refine ml_from E hP h_own dX6_reasonOf_71 ?_
      refine lv_iload_n hx hb dX6_reasonOf_72 rfl (lv_at hl 4 rfl) ?_
      refine mcV_i E hml hP hS (c_isShallow l hA σ (σ 23 own.toNatClampNeg) (σ 24 own.toNatClampNeg) minute (MI_bo hI _) (MI_fr hI _)) (cwV 3 hts gX6_reasonOf_X6_isShallow rfl rfl rfl (by decide +kernel) ⟨Nat.le_trans (Nat.le_of_ble_eq_true rfl) hR.1, Nat.le_trans (Nat.le_of_ble_eq_true rfl) hR.2⟩) rfl hl.1 rfl (Nat.le_of_ble_eq_true rfl) dX6_reasonOf_73 hf (fun H locs hP hS => ?_)
      refine lv_if_ne (tgt := 95) hx hb dX6_reasonOf_76 (by decide) (fun c_3 => ?_) (fun c_3 => ?_)
      · have hq := hq.trans (if_neg c_3)
        refine lv_iconst (v := 3) hx hb dX6_reasonOf_95 (by decide) ?_
        exact kr _ (3 : Int32) H locs ls dX6_reasonOf_96 hq.symm hP hS
      have hq := hq.trans (if_pos c_3)
      refine lv_aload_n hx hb dX6_reasonOf_79 rfl (lv_at hl 2 rfl) ?_
      refine lv_iload_n hx hb dX6_reasonOf_80 rfl (lv_at hl 1 rfl) ?_
      refine lv_aload_n hx hb dX6_reasonOf_81 rfl (lv_at hl 2 rfl) ?_
      refine mg_to E hP (by decide +kernel) dX6_reasonOf_82 ?_
      refine lv_iload_n hx hb dX6_reasonOf_85 rfl (lv_at hl 3 rfl) ?_
      refine ml_to E hP h_own dX6_reasonOf_86 ?_
      refine lv_iload hx hb dX6_reasonOf_87 (lv_at hl 0 rfl) ?_
      refine mcV_i E hml hP hS (c_isShallow l hA σ (σ 23 own.toNatClampNeg) (σ 25 own.toNatClampNeg) (minute + (σ 27 own.toNatClampNeg)) (MI_bo hI _) (MI_to hI _)) (cwV 3 hts gX6_reasonOf_X6_isShallow rfl rfl rfl (by decide +kernel) ⟨Nat.le_trans (Nat.le_of_ble_eq_true rfl) hR.1, Nat.le_trans (Nat.le_of_ble_eq_true rfl) hR.2⟩) rfl hl.1 rfl (Nat.le_of_ble_eq_true rfl) dX6_reasonOf_89 hf (fun H locs hP hS => ?_)
      refine lv_if_eq (tgt := 97) hx hb dX6_reasonOf_92 (by decide) (fun c_4 => ?_) (fun c_4 => ?_)
      · have hq := hq.trans (if_pos c_4)
        refine lv_aload_n hx hb dX6_reasonOf_97 rfl (lv_at hl 2 rfl) ?_
        refine lv_iload_n hx hb dX6_reasonOf_98 rfl (lv_at hl 3 rfl) ?_
        refine lv_iload hx hb dX6_reasonOf_99 (lv_at hl 0 rfl) ?_
        refine mcV_i E hml hP hS (c_isDark l hA σ own (minute + (σ 27 own.toNatClampNeg)) hI h_own) (cwV 2 hts gX6_reasonOf_X6_isDark rfl rfl rfl (by decide +kernel) ⟨Nat.le_trans (Nat.le_of_ble_eq_true rfl) hR.1, Nat.le_trans (Nat.le_of_ble_eq_true rfl) hR.2⟩) rfl hl.1 rfl (Nat.le_of_ble_eq_true rfl) dX6_reasonOf_101 hf (fun H locs hP hS => ?_)
        have J_5 : ∀ (y5_t0 : Int32) (H : Heap) (locs : List Loc) (ls : Array Slot), y5_t0 = (k124t0_reasonOf σ own minute) → va_P D vwCl (mW cI cZ h σ) H → va_S A s.heap H locs → lv_has ls 5 [(4, .int (minute + (σ 27 own.toNatClampNeg))), (3, .int (σ 23 own.toNatClampNeg)), (0, .ref h), (1, .int own), (2, .int minute)] → W p l e R s m args below meth c H locs cells slots Q (F0 m 124 ls [.int y5_t0]) := by
          intro y5_t0 H locs ls e_y5_t0 hP hS hl
          subst e_y5_t0
          exact kr _ (k124t0_reasonOf σ own minute) H locs ls dX6_reasonOf_124 hq.symm hP hS
        refine lv_if_eq (tgt := 111) hx hb dX6_reasonOf_104 (by decide) (fun c_5 => ?_) (fun c_5 => ?_)
        · refine lv_aload_n hx hb dX6_reasonOf_111 rfl (lv_at hl 2 rfl) ?_
          refine lv_iload_n hx hb dX6_reasonOf_112 rfl (lv_at hl 3 rfl) ?_
          refine mcV_i E hml hP hS (c_isRough l hA σ own hI h_own) (cwV 1 hts gX6_reasonOf_X6_isRough rfl rfl rfl (by decide +kernel) ⟨Nat.le_trans (Nat.le_of_ble_eq_true rfl) hR.1, Nat.le_trans (Nat.le_of_ble_eq_true rfl) hR.2⟩) rfl hl.1 rfl (Nat.le_of_ble_eq_true rfl) dX6_reasonOf_113 hf (fun H locs hP hS => ?_)
          refine lv_if_eq (tgt := 123) hx hb dX6_reasonOf_116 (by decide) (fun c_6 => ?_) (fun c_6 => ?_)
          · refine lv_iconst (v := 0) hx hb dX6_reasonOf_123 (by decide) ?_
            exact J_5 (0 : Int32) H locs ls ((if_pos c_6).symm.trans (if_pos c_5).symm) hP hS (lv_sub hl [0, 1, 2, 3, 4] rfl)
          refine lv_iconst (v := 5) hx hb dX6_reasonOf_119 (by decide) ?_
          refine lv_goto (tgt := 124) hx hb dX6_reasonOf_120 (by decide) ?_
          exact J_5 (5 : Int32) H locs ls ((if_neg c_6).symm.trans (if_pos c_5).symm) hP hS (lv_sub hl [0, 1, 2, 3, 4] rfl)
        refine lv_iconst (v := 4) hx hb dX6_reasonOf_107 (by decide) ?_
        refine lv_goto (tgt := 124) hx hb dX6_reasonOf_108 (by decide) ?_
        exact J_5 (4 : Int32) H locs ls (if_neg c_5).symm hP hS (lv_sub hl [0, 1, 2, 3, 4] rfl)
      have hq := hq.trans (if_neg c_4)
      refine lv_iconst (v := 3) hx hb dX6_reasonOf_95 (by decide) ?_
      exact kr _ (3 : Int32) H locs ls dX6_reasonOf_96 hq.symm hP hS
    have hq := hq.trans (if_neg c_2)
    refine lv_iconst (v := 2) hx hb dX6_reasonOf_62 (by decide) ?_
    exact kr _ (2 : Int32) H locs ls dX6_reasonOf_63 hq.symm hP hS
  have hq := hq.trans (if_neg c_1)
  refine lv_iconst (v := 1) hx hb dX6_reasonOf_37 (by decide) ?_
  exact kr _ (1 : Int32) H locs ls dX6_reasonOf_38 hq.symm hP hS
set_option maxHeartbeats 4000000 in
set_option maxRecDepth 100000 in
theorem c_reasonOf (l : Launch) {D : va_G} {A : Nat → Prop} {cI cZ : ClassId} {h : Nat} (hA : ∀ i, i < 44 → A (h + i)) (σ : St) (own : Int32) (minute : Int32) (hI : MI σ) (h_own : vp_in own 60) : Met l yX6_reasonOf wsX6_reasonOf ({ frames := 2, cells := 0, slots := 0, locals := 46 }) (va_Pc [.ref h, .int own, .int minute] (mU D cI cZ h σ)) (va_Qi (fun r (_ : Unit) => r = q_reasonOf σ own minute) (fun _ t => mU D cI cZ h (σ) t) A) 0 0 A := by
  refine Met.ofW (cc := cX6_reasonOf) (maxL := 5) (ret := (some .int)) (by decide) rfl ?_
  intro p e s m args below meth c s₁ B hml hv
  obtain ⟨rfl, hP, hK⟩ := hv
  have E : mE p c cX6_reasonOf s m ([.ref h, .int own, .int minute] : List Value).toArray wsX6_reasonOf D cI cZ := ⟨⟨B.exec, B.bytes⟩, atoms_spec (ws := wsX6_reasonOf) B.pre, (by decide +kernel), findClass_of_methodNamed B.named, hK⟩
  have hr := B.returns
  have hlocks := B.notSynchronized
  have hl := lv_entry ([.ref h, .int own, .int minute]) (n := 5) (Nat.le_of_ble_eq_true rfl)
  rw [lg_entry_eq]
  generalize (lg_sl ([.ref h, .int own, .int minute]) ++ List.replicate (5 - (lg_sl ([.ref h, .int own, .int minute])).length) Slot.unset).toArray = ls at hl ⊢
  refine w_reasonOf σ own minute hI h_own E hml hA ⟨Nat.le_of_ble_eq_true rfl, Nat.le_of_ble_eq_true rfl⟩ ⟨Nat.zero_le _, Nat.zero_le _⟩ hP va_S.rf hl (fun pc v H1 locs1 ls1 hd hv hP1 hS1 => ?_)
  exact W.iret (v := v) B.exec B.bytes hr (fun t ht hW => ⟨⟨v, (), rfl, hv, by rw [ht]; exact hP1, va_K.moved hW.alike hK⟩, hS1.F ht⟩) hS1.2.2 hd
