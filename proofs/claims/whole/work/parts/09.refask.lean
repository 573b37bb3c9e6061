def k44t0_tide (σ : St) (pier : Int32) (minute : Int32) : Int32 := if (q_refused σ (if (q_isPier σ pier) = 0 then (1 : Int32) else (if (q_in minute (0 : Int32) (1000000 : Int32)) = 0 then (2 : Int32) else (0 : Int32)))) = 0 then (q_tideOf (s_refused σ (if (q_isPier σ pier) = 0 then (1 : Int32) else (if (q_in minute (0 : Int32) (1000000 : Int32)) = 0 then (2 : Int32) else (0 : Int32)))) pier minute) else (0 : Int32)
def q_tide (σ : St) (pier : Int32) (minute : Int32) : Int32 := k44t0_tide σ pier minute
def s_tide (σ : St) (pier : Int32) (minute : Int32) : St := s_refused σ (if (q_isPier σ pier) = 0 then (1 : Int32) else (if (q_in minute (0 : Int32) (1000000 : Int32)) = 0 then (2 : Int32) else (0 : Int32)))
set_option maxHeartbeats 1000000 in
set_option maxRecDepth 100000 in
theorem w_tide {p : Program} {l : Launch} {e : Env} {R : Room} {s : State} {m : MethodId} {args : Array Value} {below : List Frame} {meth : Method} {c : Code} {H : Heap} {locs : List Loc} {cells slots : Nat} {Q : State → Prop} {D : va_G} {A : Nat → Prop} {cI cZ : ClassId} {h : Nat} {ls : Array Slot} (σ : St) (pier : Int32) (minute : Int32) (hI : MI σ) (E : mE p c cX6_tide s m args wsX6_tide D cI cZ) (hml : c.maxLocals = 3) (hA : ∀ i, i < 44 → A (h + i)) (hR : 2 ≤ R.frames ∧ 43 ≤ R.locals) (hf : cells ≤ R.cells ∧ slots ≤ R.slots) (hP : va_P D vwCl (mW cI cZ h σ) H) (hS : va_S A s.heap H locs) (hl : lv_has ls 3 [(0, .ref h), (1, .int pier), (2, .int minute)]) (kr : ∀ (pc : Nat) (rv : Int32) (H1 : Heap) (locs1 : List Loc) (ls1 : Array Slot), decode cX6_tide pc = .ok (.ireturn, 1) → rv = q_tide σ pier minute → va_P D vwCl (mW cI cZ h (s_tide σ pier minute)) H1 → va_S A s.heap H1 locs1 → W p l e R s m args below meth c H1 locs1 cells slots Q (F0 m pc ls1 [.int rv])) : W p l e R s m args below meth c H locs cells slots Q (F0 m 0 ls []) := by
  have hx := E.1.1
  have hb := E.1.2
  have hts := E.2.1
  have hq : q_tide σ pier minute = k44t0_tide σ pier minute := rfl
  have hs : s_tide σ pier minute = s_refused σ (if (q_isPier σ pier) = 0 then (1 : Int32) else (if (q_in minute (0 : Int32) (1000000 : Int32)) = 0 then (2 : Int32) else (0 : Int32))) := rfl
  refine lv_aload_n hx hb dX6_tide_0 rfl (lv_at hl 0 rfl) ?_
  refine lv_aload_n hx hb dX6_tide_1 rfl (lv_at hl 0 rfl) ?_
  refine lv_iload_n hx hb dX6_tide_2 rfl (lv_at hl 1 rfl) ?_
  refine mcV_i E hml hP hS (c_isPier l hA σ pier) (cwV 1 hts gX6_tide_X6_isPier rfl rfl rfl (by decide +kernel) ⟨Nat.le_trans (Nat.le_of_ble_eq_true rfl) hR.1, Nat.le_trans (Nat.le_of_ble_eq_true rfl) hR.2⟩) rfl hl.1 rfl (Nat.le_of_ble_eq_true rfl) dX6_tide_3 hf (fun H locs hP hS => ?_)
  have J_1 : ∀ (y1_t0 : Int32) (H : Heap) (locs : List Loc) (ls : Array Slot), y1_t0 = (if (q_isPier σ pier) = 0 then (1 : Int32) else (if (q_in minute (0 : Int32) (1000000 : Int32)) = 0 then (2 : Int32) else (0 : Int32))) → va_P D vwCl (mW cI cZ h σ) H → va_S A s.heap H locs → lv_has ls 3 [(0, .ref h), (1, .int pier), (2, .int minute)] → W p l e R s m args below meth c H locs cells slots Q (F0 m 28 ls [.int y1_t0, .ref h]) := by
    intro y1_t0 H locs ls e_y1_t0 hP hS hl
    subst e_y1_t0
    refine mcV_i E hml hP hS (c_refused l hA σ (if (q_isPier σ pier) = 0 then (1 : Int32) else (if (q_in minute (0 : Int32) (1000000 : Int32)) = 0 then (2 : Int32) else (0 : Int32)))) (cwV 1 hts gX6_tide_X6_refused rfl rfl rfl (by decide +kernel) ⟨Nat.le_trans (Nat.le_of_ble_eq_true rfl) hR.1, Nat.le_trans (Nat.le_of_ble_eq_true rfl) hR.2⟩) rfl hl.1 rfl (Nat.le_of_ble_eq_true rfl) dX6_tide_28 hf (fun H locs hP hS => ?_)
    have J_3 : ∀ (y3_t0 : Int32) (H : Heap) (locs : List Loc) (ls : Array Slot), y3_t0 = (k44t0_tide σ pier minute) → va_P D vwCl (mW cI cZ h (s_refused σ (if (q_isPier σ pier) = 0 then (1 : Int32) else (if (q_in minute (0 : Int32) (1000000 : Int32)) = 0 then (2 : Int32) else (0 : Int32))))) H → va_S A s.heap H locs → lv_has ls 3 [(0, .ref h), (1, .int pier), (2, .int minute)] → W p l e R s m args below meth c H locs cells slots Q (F0 m 44 ls [.int y3_t0]) := by
      intro y3_t0 H locs ls e_y3_t0 hP hS hl
      subst e_y3_t0
      exact kr _ (k44t0_tide σ pier minute) H locs ls dX6_tide_44 hq.symm (by rw [hs]; exact hP) hS
    refine lv_if_eq (tgt := 38) hx hb dX6_tide_31 (by decide) (fun c_3 => ?_) (fun c_3 => ?_)
    · have h_pier := isPier_in hI (rfp c_3)
      refine lv_aload_n hx hb dX6_tide_38 rfl (lv_at hl 0 rfl) ?_
      refine lv_iload_n hx hb dX6_tide_39 rfl (lv_at hl 1 rfl) ?_
      refine lv_iload_n hx hb dX6_tide_40 rfl (lv_at hl 2 rfl) ?_
      refine mcV_i E hml hP hS (c_tideOf l hA (s_refused σ (if (q_isPier σ pier) = 0 then (1 : Int32) else (if (q_in minute (0 : Int32) (1000000 : Int32)) = 0 then (2 : Int32) else (0 : Int32)))) pier minute h_pier) (cwV 2 hts gX6_tide_X6_tideOf rfl rfl rfl (by decide +kernel) ⟨Nat.le_trans (Nat.le_of_ble_eq_true rfl) hR.1, Nat.le_trans (Nat.le_of_ble_eq_true rfl) hR.2⟩) rfl hl.1 rfl (Nat.le_of_ble_eq_true rfl) dX6_tide_41 hf (fun H locs hP hS => ?_)
      exact J_3 (q_tideOf (s_refused σ (if (q_isPier σ pier) = 0 then (1 : Int32) else (if (q_in minute (0 : Int32) (1000000 : Int32)) = 0 then (2 : Int32) else (0 : Int32)))) pier minute) H locs ls (if_pos c_3).symm hP hS (lv_sub hl [0, 1, 2] rfl)
    refine lv_iconst (v := 0) hx hb dX6_tide_34 (by decide) ?_
    refine lv_goto (tgt := 44) hx hb dX6_tide_35 (by decide) ?_
    exact J_3 (0 : Int32) H locs ls (if_neg c_3).symm hP hS (lv_sub hl [0, 1, 2] rfl)
  refine lv_if_ne (tgt := 13) hx hb dX6_tide_6 (by decide) (fun c_1 => ?_) (fun c_1 => ?_)
  · refine lv_iload_n hx hb dX6_tide_13 rfl (lv_at hl 2 rfl) ?_
    refine lv_iconst (v := 0) hx hb dX6_tide_14 (by decide) ?_
    refine lv_ldc (v := 1000000) hx hb E.2.2.2.1 (E.2.1 (.constant RX6 238 (1000000)) (by decide +kernel)) dX6_tide_15 ?_
    refine mcS_i E hml hP hS (c_in l hA σ minute (0 : Int32) (1000000 : Int32)) (va_cwS 3 hts gX6_tide_X6_in rfl rfl rfl (by decide +kernel) ⟨Nat.le_trans (Nat.le_of_ble_eq_true rfl) hR.1, Nat.le_trans (Nat.le_of_ble_eq_true rfl) hR.2⟩) rfl hl.1 rfl (Nat.le_of_ble_eq_true rfl) dX6_tide_17 hf (fun H locs hP hS => ?_)
    refine lv_if_ne (tgt := 27) hx hb dX6_tide_20 (by decide) (fun c_2 => ?_) (fun c_2 => ?_)
    · refine lv_iconst (v := 0) hx hb dX6_tide_27 (by decide) ?_
      exact J_1 (0 : Int32) H locs ls ((if_neg c_2).symm.trans (if_neg c_1).symm) hP hS (lv_sub hl [0, 1, 2] rfl)
    refine lv_iconst (v := 2) hx hb dX6_tide_23 (by decide) ?_
    refine lv_goto (tgt := 28) hx hb dX6_tide_24 (by decide) ?_
    exact J_1 (2 : Int32) H locs ls ((if_pos c_2).symm.trans (if_neg c_1).symm) hP hS (lv_sub hl [0, 1, 2] rfl)
  refine lv_iconst (v := 1) hx hb dX6_tide_9 (by decide) ?_
  refine lv_goto (tgt := 28) hx hb dX6_tide_10 (by decide) ?_
  exact J_1 (1 : Int32) H locs ls (if_pos c_1).symm hP hS (lv_sub hl [0, 1, 2] rfl)
set_option maxHeartbeats 1000000 in
set_option maxRecDepth 100000 in
theorem c_tide (l : Launch) {D : va_G} {A : Nat → Prop} {cI cZ : ClassId} {h : Nat} (hA : ∀ i, i < 44 → A (h + i)) (σ : St) (pier : Int32) (minute : Int32) (hI : MI σ) : Met l yX6_tide wsX6_tide ({ frames := 2, cells := 0, slots := 0, locals := 43 }) (va_Pc [.ref h, .int pier, .int minute] (mU D cI cZ h σ)) (va_Qi (fun r (_ : Unit) => r = q_tide σ pier minute) (fun _ t => mU D cI cZ h (s_tide σ pier minute) t) A) 0 0 A := by
  refine Met.ofW (cc := cX6_tide) (maxL := 3) (ret := (some .int)) (by decide) rfl ?_
  intro p e s m args below meth c s₁ B hml hv
  obtain ⟨rfl, hP, hK⟩ := hv
  have E : mE p c cX6_tide s m ([.ref h, .int pier, .int minute] : List Value).toArray wsX6_tide D cI cZ := ⟨⟨B.exec, B.bytes⟩, atoms_spec (ws := wsX6_tide) B.pre, (by decide +kernel), findClass_of_methodNamed B.named, hK⟩
  have hr := B.returns
  have hlocks := B.notSynchronized
  have hl := lv_entry ([.ref h, .int pier, .int minute]) (n := 3) (Nat.le_of_ble_eq_true rfl)
  rw [lg_entry_eq]
  generalize (lg_sl ([.ref h, .int pier, .int minute]) ++ List.replicate (3 - (lg_sl ([.ref h, .int pier, .int minute])).length) Slot.unset).toArray = ls at hl ⊢
  refine w_tide σ pier minute hI E hml hA ⟨Nat.le_of_ble_eq_true rfl, Nat.le_of_ble_eq_true rfl⟩ ⟨Nat.zero_le _, Nat.zero_le _⟩ hP va_S.rf hl (fun pc v H1 locs1 ls1 hd hv hP1 hS1 => ?_)
  exact W.iret (v := v) B.exec B.bytes hr (fun t ht hW => ⟨⟨v, (), rfl, hv, by rw [ht]; exact hP1, va_K.moved hW.alike hK⟩, hS1.F ht⟩) hS1.2.2 hd
def k83t0_boatOf (σ : St) (boat : Int32) (what : Int32) : Int32 := if what = 0 then (σ 19 boat.toNatClampNeg) else (if what = (1 : Int32) then (if (σ 20 boat.toNatClampNeg) = 0 then (0 : Int32) else (1 : Int32)) else (q_hoursOf (s_refused σ (if (q_isBoat σ boat) = 0 then (1 : Int32) else (if (q_in what (0 : Int32) (2 : Int32)) = 0 then (2 : Int32) else (0 : Int32)))) boat ((σ 1 0) / (1440 : Int32))))
def q_boatOf (σ : St) (boat : Int32) (what : Int32) : Int32 := if (q_refused σ (if (q_isBoat σ boat) = 0 then (1 : Int32) else (if (q_in what (0 : Int32) (2 : Int32)) = 0 then (2 : Int32) else (0 : Int32)))) = 0 then (k83t0_boatOf σ boat what) else (0 : Int32)
def s_boatOf (σ : St) (boat : Int32) (what : Int32) : St := if (q_refused σ (if (q_isBoat σ boat) = 0 then (1 : Int32) else (if (q_in what (0 : Int32) (2 : Int32)) = 0 then (2 : Int32) else (0 : Int32)))) = 0 then (s_refused σ (if (q_isBoat σ boat) = 0 then (1 : Int32) else (if (q_in what (0 : Int32) (2 : Int32)) = 0 then (2 : Int32) else (0 : Int32)))) else (s_refused σ (if (q_isBoat σ boat) = 0 then (1 : Int32) else (if (q_in what (0 : Int32) (2 : Int32)) = 0 then (2 : Int32) else (0 : Int32))))
set_option maxHeartbeats 1000000 in
set_option maxRecDepth 100000 in
theorem w_boatOf {p : Program} {l : Launch} {e : Env} {R : Room} {s : State} {m : MethodId} {args : Array Value} {below : List Frame} {meth : Method} {c : Code} {H : Heap} {locs : List Loc} {cells slots : Nat} {Q : State → Prop} {D : va_G} {A : Nat → Prop} {cI cZ : ClassId} {h : Nat} {ls : Array Slot} (σ : St) (boat : Int32) (what : Int32) (hI : MI σ) (E : mE p c cX6_boatOf s m args wsX6_boatOf D cI cZ) (hml : c.maxLocals = 3) (hA : ∀ i, i < 44 → A (h + i)) (hR : 2 ≤ R.frames ∧ 46 ≤ R.locals) (hf : cells ≤ R.cells ∧ slots ≤ R.slots) (hP : va_P D vwCl (mW cI cZ h σ) H) (hS : va_S A s.heap H locs) (hl : lv_has ls 3 [(0, .ref h), (1, .int boat), (2, .int what)]) (kr : ∀ (pc : Nat) (rv : Int32) (H1 : Heap) (locs1 : List Loc) (ls1 : Array Slot), decode cX6_boatOf pc = .ok (.ireturn, 1) → rv = q_boatOf σ boat what → va_P D vwCl (mW cI cZ h (s_boatOf σ boat what)) H1 → va_S A s.heap H1 locs1 → W p l e R s m args below meth c H1 locs1 cells slots Q (F0 m pc ls1 [.int rv])) : W p l e R s m args below meth c H locs cells slots Q (F0 m 0 ls []) := by
  have hx := E.1.1
  have hb := E.1.2
  have hts := E.2.1
  have hq : q_boatOf σ boat what = if (q_refused σ (if (q_isBoat σ boat) = 0 then (1 : Int32) else (if (q_in what (0 : Int32) (2 : Int32)) = 0 then (2 : Int32) else (0 : Int32)))) = 0 then (k83t0_boatOf σ boat what) else (0 : Int32) := rfl
  have hs : s_boatOf σ boat what = if (q_refused σ (if (q_isBoat σ boat) = 0 then (1 : Int32) else (if (q_in what (0 : Int32) (2 : Int32)) = 0 then (2 : Int32) else (0 : Int32)))) = 0 then (s_refused σ (if (q_isBoat σ boat) = 0 then (1 : Int32) else (if (q_in what (0 : Int32) (2 : Int32)) = 0 then (2 : Int32) else (0 : Int32)))) else (s_refused σ (if (q_isBoat σ boat) = 0 then (1 : Int32) else (if (q_in what (0 : Int32) (2 : Int32)) = 0 then (2 : Int32) else (0 : Int32)))) := rfl
  refine lv_aload_n hx hb dX6_boatOf_0 rfl (lv_at hl 0 rfl) ?_
  refine lv_aload_n hx hb dX6_boatOf_1 rfl (lv_at hl 0 rfl) ?_
  refine lv_iload_n hx hb dX6_boatOf_2 rfl (lv_at hl 1 rfl) ?_
  refine mcV_i E hml hP hS (c_isBoat l hA σ boat) (cwV 1 hts gX6_boatOf_X6_isBoat rfl rfl rfl (by decide +kernel) ⟨Nat.le_trans (Nat.le_of_ble_eq_true rfl) hR.1, Nat.le_trans (Nat.le_of_ble_eq_true rfl) hR.2⟩) rfl hl.1 rfl (Nat.le_of_ble_eq_true rfl) dX6_boatOf_3 hf (fun H locs hP hS => ?_)
  have J_1 : ∀ (y1_t0 : Int32) (H : Heap) (locs : List Loc) (ls : Array Slot), y1_t0 = (if (q_isBoat σ boat) = 0 then (1 : Int32) else (if (q_in what (0 : Int32) (2 : Int32)) = 0 then (2 : Int32) else (0 : Int32))) → va_P D vwCl (mW cI cZ h σ) H → va_S A s.heap H locs → lv_has ls 3 [(0, .ref h), (1, .int boat), (2, .int what)] → W p l e R s m args below meth c H locs cells slots Q (F0 m 27 ls [.int y1_t0, .ref h]) := by
    intro y1_t0 H locs ls e_y1_t0 hP hS hl
    subst e_y1_t0
    refine mcV_i E hml hP hS (c_refused l hA σ (if (q_isBoat σ boat) = 0 then (1 : Int32) else (if (q_in what (0 : Int32) (2 : Int32)) = 0 then (2 : Int32) else (0 : Int32)))) (cwV 1 hts gX6_boatOf_X6_refused rfl rfl rfl (by decide +kernel) ⟨Nat.le_trans (Nat.le_of_ble_eq_true rfl) hR.1, Nat.le_trans (Nat.le_of_ble_eq_true rfl) hR.2⟩) rfl hl.1 rfl (Nat.le_of_ble_eq_true rfl) dX6_boatOf_27 hf (fun H locs hP hS => ?_)
    refine lv_if_eq (tgt := 35) hx hb dX6_boatOf_30 (by decide) (fun c_3 => ?_) (fun c_3 => ?_)
    · have hq := hq.trans (if_pos c_3)
      have hs := hs.trans (if_pos c_3)
      have h_boat := isBoat_in hI (rfp c_3)
      refine lv_iload_n hx hb dX6_boatOf_35 rfl (lv_at hl 2 rfl) ?_
      have J_4 : ∀ (y4_t0 : Int32) (H : Heap) (locs : List Loc) (ls : Array Slot), y4_t0 = (k83t0_boatOf σ boat what) → va_P D vwCl (mW cI cZ h (s_refused σ (if (q_isBoat σ boat) = 0 then (1 : Int32) else (if (q_in what (0 : Int32) (2 : Int32)) = 0 then (2 : Int32) else (0 : Int32))))) H → va_S A s.heap H locs → lv_has ls 3 [(0, .ref h), (1, .int boat), (2, .int what)] → W p l e R s m args below meth c H locs cells slots Q (F0 m 83 ls [.int y4_t0]) := by
        intro y4_t0 H locs ls e_y4_t0 hP hS hl
        subst e_y4_t0
        exact kr _ (k83t0_boatOf σ boat what) H locs ls dX6_boatOf_83 hq.symm (by rw [hs]; exact hP) hS
      refine lv_if_ne (tgt := 48) hx hb dX6_boatOf_36 (by decide) (fun c_4 => ?_) (fun c_4 => ?_)
      · refine lv_iload_n hx hb dX6_boatOf_48 rfl (lv_at hl 2 rfl) ?_
        refine lv_iconst (v := 1) hx hb dX6_boatOf_49 (by decide) ?_
        refine lv_icmp_ne (tgt := 70) hx hb dX6_boatOf_50 (by decide) (fun c_5 => ?_) (fun c_5 => ?_)
        · refine lv_aload_n hx hb dX6_boatOf_70 rfl (lv_at hl 0 rfl) ?_
          refine lv_iload_n hx hb dX6_boatOf_71 rfl (lv_at hl 1 rfl) ?_
          refine lv_aload_n hx hb dX6_boatOf_72 rfl (lv_at hl 0 rfl) ?_
          refine mgv_now E hP (v := σ 1 0) rfl (by decide +kernel) dX6_boatOf_73 ?_
          refine lv_sipush (v := 1440) hx hb dX6_boatOf_76 (by decide) ?_
          refine lv_idiv hx hb dX6_boatOf_79 (by decide) ?_
          refine mcV_i E hml hP hS (c_hoursOf l hA (s_refused σ (if (q_isBoat σ boat) = 0 then (1 : Int32) else (if (q_in what (0 : Int32) (2 : Int32)) = 0 then (2 : Int32) else (0 : Int32)))) boat ((σ 1 0) / (1440 : Int32)) (MK_s_refused hI).1) (cwV 2 hts gX6_boatOf_X6_hoursOf rfl rfl rfl (by decide +kernel) ⟨Nat.le_trans (Nat.le_of_ble_eq_true rfl) hR.1, Nat.le_trans (Nat.le_of_ble_eq_true rfl) hR.2⟩) rfl hl.1 rfl (Nat.le_of_ble_eq_true rfl) dX6_boatOf_80 hf (fun H locs hP hS => ?_)
          exact J_4 (q_hoursOf (s_refused σ (if (q_isBoat σ boat) = 0 then (1 : Int32) else (if (q_in what (0 : Int32) (2 : Int32)) = 0 then (2 : Int32) else (0 : Int32)))) boat ((σ 1 0) / (1440 : Int32))) H locs ls ((if_neg c_5).symm.trans (if_neg c_4).symm) hP hS (lv_sub hl [0, 1, 2] rfl)
        refine lv_aload_n hx hb dX6_boatOf_53 rfl (lv_at hl 0 rfl) ?_
        refine mg_isBroken E hP (by decide +kernel) dX6_boatOf_54 ?_
        refine lv_iload_n hx hb dX6_boatOf_57 rfl (lv_at hl 1 rfl) ?_
        refine mlv_isBroken E hP h_boat (v := σ 20 boat.toNatClampNeg) rfl dX6_boatOf_58 ?_
        refine lv_if_eq (tgt := 66) hx hb dX6_boatOf_59 (by decide) (fun c_6 => ?_) (fun c_6 => ?_)
        · refine lv_iconst (v := 0) hx hb dX6_boatOf_66 (by decide) ?_
          refine lv_goto (tgt := 83) hx hb dX6_boatOf_67 (by decide) ?_
          exact J_4 (0 : Int32) H locs ls ((if_pos c_6).symm.trans ((if_pos c_5).symm.trans (if_neg c_4).symm)) hP hS (lv_sub hl [0, 1, 2] rfl)
        refine lv_iconst (v := 1) hx hb dX6_boatOf_62 (by decide) ?_
        refine lv_goto (tgt := 83) hx hb dX6_boatOf_63 (by decide) ?_
        exact J_4 (1 : Int32) H locs ls ((if_neg c_6).symm.trans ((if_pos c_5).symm.trans (if_neg c_4).symm)) hP hS (lv_sub hl [0, 1, 2] rfl)
      refine lv_aload_n hx hb dX6_boatOf_39 rfl (lv_at hl 0 rfl) ?_
      refine mg_lies E hP (by decide +kernel) dX6_boatOf_40 ?_
      refine lv_iload_n hx hb dX6_boatOf_43 rfl (lv_at hl 1 rfl) ?_
      refine mlv_lies E hP h_boat (v := σ 19 boat.toNatClampNeg) rfl dX6_boatOf_44 ?_
      refine lv_goto (tgt := 83) hx hb dX6_boatOf_45 (by decide) ?_
      exact J_4 (σ 19 boat.toNatClampNeg) H locs ls (if_pos c_4).symm hP hS (lv_sub hl [0, 1, 2] rfl)
    have hq := hq.trans (if_neg c_3)
    have hs := hs.trans (if_neg c_3)
    refine lv_iconst (v := 0) hx hb dX6_boatOf_33 (by decide) ?_
    exact kr _ (0 : Int32) H locs ls dX6_boatOf_34 hq.symm (by rw [hs]; exact hP) hS
  refine lv_if_ne (tgt := 13) hx hb dX6_boatOf_6 (by decide) (fun c_1 => ?_) (fun c_1 => ?_)
  · refine lv_iload_n hx hb dX6_boatOf_13 rfl (lv_at hl 2 rfl) ?_
    refine lv_iconst (v := 0) hx hb dX6_boatOf_14 (by decide) ?_
    refine lv_iconst (v := 2) hx hb dX6_boatOf_15 (by decide) ?_
    refine mcS_i E hml hP hS (c_in l hA σ what (0 : Int32) (2 : Int32)) (va_cwS 3 hts gX6_boatOf_X6_in rfl rfl rfl (by decide +kernel) ⟨Nat.le_trans (Nat.le_of_ble_eq_true rfl) hR.1, Nat.le_trans (Nat.le_of_ble_eq_true rfl) hR.2⟩) rfl hl.1 rfl (Nat.le_of_ble_eq_true rfl) dX6_boatOf_16 hf (fun H locs hP hS => ?_)
    refine lv_if_ne (tgt := 26) hx hb dX6_boatOf_19 (by decide) (fun c_2 => ?_) (fun c_2 => ?_)
    · refine lv_iconst (v := 0) hx hb dX6_boatOf_26 (by decide) ?_
      exact J_1 (0 : Int32) H locs ls ((if_neg c_2).symm.trans (if_neg c_1).symm) hP hS (lv_sub hl [0, 1, 2] rfl)
    refine lv_iconst (v := 2) hx hb dX6_boatOf_22 (by decide) ?_
    refine lv_goto (tgt := 27) hx hb dX6_boatOf_23 (by decide) ?_
    exact J_1 (2 : Int32) H locs ls ((if_pos c_2).symm.trans (if_neg c_1).symm) hP hS (lv_sub hl [0, 1, 2] rfl)
  refine lv_iconst (v := 1) hx hb dX6_boatOf_9 (by decide) ?_
  refine lv_goto (tgt := 27) hx hb dX6_boatOf_10 (by decide) ?_
  exact J_1 (1 : Int32) H locs ls (if_pos c_1).symm hP hS (lv_sub hl [0, 1, 2] rfl)
set_option maxHeartbeats 1000000 in
set_option maxRecDepth 100000 in
theorem c_boatOf (l : Launch) {D : va_G} {A : Nat → Prop} {cI cZ : ClassId} {h : Nat} (hA : ∀ i, i < 44 → A (h + i)) (σ : St) (boat : Int32) (what : Int32) (hI : MI σ) : Met l yX6_boatOf wsX6_boatOf ({ frames := 2, cells := 0, slots := 0, locals := 46 }) (va_Pc [.ref h, .int boat, .int what] (mU D cI cZ h σ)) (va_Qi (fun r (_ : Unit) => r = q_boatOf σ boat what) (fun _ t => mU D cI cZ h (s_boatOf σ boat what) t) A) 0 0 A := by
  refine Met.ofW (cc := cX6_boatOf) (maxL := 3) (ret := (some .int)) (by decide) rfl ?_
  intro p e s m args below meth c s₁ B hml hv
  obtain ⟨rfl, hP, hK⟩ := hv
  have E : mE p c cX6_boatOf s m ([.ref h, .int boat, .int what] : List Value).toArray wsX6_boatOf D cI cZ := ⟨⟨B.exec, B.bytes⟩, atoms_spec (ws := wsX6_boatOf) B.pre, (by decide +kernel), findClass_of_methodNamed B.named, hK⟩
  have hr := B.returns
  have hlocks := B.notSynchronized
  have hl := lv_entry ([.ref h, .int boat, .int what]) (n := 3) (Nat.le_of_ble_eq_true rfl)
  rw [lg_entry_eq]
  generalize (lg_sl ([.ref h, .int boat, .int what]) ++ List.replicate (3 - (lg_sl ([.ref h, .int boat, .int what])).length) Slot.unset).toArray = ls at hl ⊢
  refine w_boatOf σ boat what hI E hml hA ⟨Nat.le_of_ble_eq_true rfl, Nat.le_of_ble_eq_true rfl⟩ ⟨Nat.zero_le _, Nat.zero_le _⟩ hP va_S.rf hl (fun pc v H1 locs1 ls1 hd hv hP1 hS1 => ?_)
  exact W.iret (v := v) B.exec B.bytes hr (fun t ht hW => ⟨⟨v, (), rfl, hv, by rw [ht]; exact hP1, va_K.moved hW.alike hK⟩, hS1.F ht⟩) hS1.2.2 hd
def q_sailingOf (σ : St) (own : Int32) (what : Int32) : Int32 := if (q_refused σ (if (q_isSailing σ own) = 0 then (1 : Int32) else (if (q_in what (0 : Int32) (6 : Int32)) = 0 then (2 : Int32) else (0 : Int32)))) = 0 then (if what.toInt = 0 then (σ 22 own.toNatClampNeg) else (if what.toInt = 1 then (σ 29 own.toNatClampNeg) else (if what.toInt = 2 then (σ 23 own.toNatClampNeg) else (if what.toInt = 3 then (σ 30 own.toNatClampNeg) else (if what.toInt = 4 then (σ 32 ((2 : Int32) * own).toNatClampNeg) else (if what.toInt = 5 then (σ 32 (((2 : Int32) * own) + (1 : Int32)).toNatClampNeg) else (σ 31 own.toNatClampNeg))))))) else (0 : Int32)
def s_sailingOf (σ : St) (own : Int32) (what : Int32) : St := if (q_refused σ (if (q_isSailing σ own) = 0 then (1 : Int32) else (if (q_in what (0 : Int32) (6 : Int32)) = 0 then (2 : Int32) else (0 : Int32)))) = 0 then (if what.toInt = 0 then (s_refused σ (if (q_isSailing σ own) = 0 then (1 : Int32) else (if (q_in what (0 : Int32) (6 : Int32)) = 0 then (2 : Int32) else (0 : Int32)))) else (if what.toInt = 1 then (s_refused σ (if (q_isSailing σ own) = 0 then (1 : Int32) else (if (q_in what (0 : Int32) (6 : Int32)) = 0 then (2 : Int32) else (0 : Int32)))) else (if what.toInt = 2 then (s_refused σ (if (q_isSailing σ own) = 0 then (1 : Int32) else (if (q_in what (0 : Int32) (6 : Int32)) = 0 then (2 : Int32) else (0 : Int32)))) else (if what.toInt = 3 then (s_refused σ (if (q_isSailing σ own) = 0 then (1 : Int32) else (if (q_in what (0 : Int32) (6 : Int32)) = 0 then (2 : Int32) else (0 : Int32)))) else (if what.toInt = 4 then (s_refused σ (if (q_isSailing σ own) = 0 then (1 : Int32) else (if (q_in what (0 : Int32) (6 : Int32)) = 0 then (2 : Int32) else (0 : Int32)))) else (if what.toInt = 5 then (s_refused σ (if (q_isSailing σ own) = 0 then (1 : Int32) else (if (q_in what (0 : Int32) (6 : Int32)) = 0 then (2 : Int32) else (0 : Int32)))) else (s_refused σ (if (q_isSailing σ own) = 0 then (1 : Int32) else (if (q_in what (0 : Int32) (6 : Int32)) = 0 then (2 : Int32) else (0 : Int32)))))))))) else (s_refused σ (if (q_isSailing σ own) = 0 then (1 : Int32) else (if (q_in what (0 : Int32) (6 : Int32)) = 0 then (2 : Int32) else (0 : Int32))))
set_option maxHeartbeats 1000000 in
set_option maxRecDepth 100000 in
theorem w_sailingOf {p : Program} {l : Launch} {e : Env} {R : Room} {s : State} {m : MethodId} {args : Array Value} {below : List Frame} {meth : Method} {c : Code} {H : Heap} {locs : List Loc} {cells slots : Nat} {Q : State → Prop} {D : va_G} {A : Nat → Prop} {cI cZ : ClassId} {h : Nat} {ls : Array Slot} (σ : St) (own : Int32) (what : Int32) (hI : MI σ) (E : mE p c cX6_sailingOf s m args wsX6_sailingOf D cI cZ) (hml : c.maxLocals = 3) (hA : ∀ i, i < 44 → A (h + i)) (hR : 2 ≤ R.frames ∧ 43 ≤ R.locals) (hf : cells ≤ R.cells ∧ slots ≤ R.slots) (hP : va_P D vwCl (mW cI cZ h σ) H) (hS : va_S A s.heap H locs) (hl : lv_has ls 3 [(0, .ref h), (1, .int own), (2, .int what)]) (kr : ∀ (pc : Nat) (rv : Int32) (H1 : Heap) (locs1 : List Loc) (ls1 : Array Slot), decode cX6_sailingOf pc = .ok (.ireturn, 1) → rv = q_sailingOf σ own what → va_P D vwCl (mW cI cZ h (s_sailingOf σ own what)) H1 → va_S A s.heap H1 locs1 → W p l e R s m args below meth c H1 locs1 cells slots Q (F0 m pc ls1 [.int rv])) : W p l e R s m args below meth c H locs cells slots Q (F0 m 0 ls []) := by
  have hx := E.1.1
  have hb := E.1.2
  have hts := E.2.1
  have hq : q_sailingOf σ own what = if (q_refused σ (if (q_isSailing σ own) = 0 then (1 : Int32) else (if (q_in what (0 : Int32) (6 : Int32)) = 0 then (2 : Int32) else (0 : Int32)))) = 0 then (if what.toInt = 0 then (σ 22 own.toNatClampNeg) else (if what.toInt = 1 then (σ 29 own.toNatClampNeg) else (if what.toInt = 2 then (σ 23 own.toNatClampNeg) else (if what.toInt = 3 then (σ 30 own.toNatClampNeg) else (if what.toInt = 4 then (σ 32 ((2 : Int32) * own).toNatClampNeg) else (if what.toInt = 5 then (σ 32 (((2 : Int32) * own) + (1 : Int32)).toNatClampNeg) else (σ 31 own.toNatClampNeg))))))) else (0 : Int32) := rfl
  have hs : s_sailingOf σ own what = if (q_refused σ (if (q_isSailing σ own) = 0 then (1 : Int32) else (if (q_in what (0 : Int32) (6 : Int32)) = 0 then (2 : Int32) else (0 : Int32)))) = 0 then (if what.toInt = 0 then (s_refused σ (if (q_isSailing σ own) = 0 then (1 : Int32) else (if (q_in what (0 : Int32) (6 : Int32)) = 0 then (2 : Int32) else (0 : Int32)))) else (if what.toInt = 1 then (s_refused σ (if (q_isSailing σ own) = 0 then (1 : Int32) else (if (q_in what (0 : Int32) (6 : Int32)) = 0 then (2 : Int32) else (0 : Int32)))) else (if what.toInt = 2 then (s_refused σ (if (q_isSailing σ own) = 0 then (1 : Int32) else (if (q_in what (0 : Int32) (6 : Int32)) = 0 then (2 : Int32) else (0 : Int32)))) else (if what.toInt = 3 then (s_refused σ (if (q_isSailing σ own) = 0 then (1 : Int32) else (if (q_in what (0 : Int32) (6 : Int32)) = 0 then (2 : Int32) else (0 : Int32)))) else (if what.toInt = 4 then (s_refused σ (if (q_isSailing σ own) = 0 then (1 : Int32) else (if (q_in what (0 : Int32) (6 : Int32)) = 0 then (2 : Int32) else (0 : Int32)))) else (if what.toInt = 5 then (s_refused σ (if (q_isSailing σ own) = 0 then (1 : Int32) else (if (q_in what (0 : Int32) (6 : Int32)) = 0 then (2 : Int32) else (0 : Int32)))) else (s_refused σ (if (q_isSailing σ own) = 0 then (1 : Int32) else (if (q_in what (0 : Int32) (6 : Int32)) = 0 then (2 : Int32) else (0 : Int32)))))))))) else (s_refused σ (if (q_isSailing σ own) = 0 then (1 : Int32) else (if (q_in what (0 : Int32) (6 : Int32)) = 0 then (2 : Int32) else (0 : Int32)))) := rfl
  refine lv_aload_n hx hb dX6_sailingOf_0 rfl (lv_at hl 0 rfl) ?_
  refine lv_aload_n hx hb dX6_sailingOf_1 rfl (lv_at hl 0 rfl) ?_
  refine lv_iload_n hx hb dX6_sailingOf_2 rfl (lv_at hl 1 rfl) ?_
  refine mcV_i E hml hP hS (c_isSailing l hA σ own) (cwV 1 hts gX6_sailingOf_X6_isSailing rfl rfl rfl (by decide +kernel) ⟨Nat.le_trans (Nat.le_of_ble_eq_true rfl) hR.1, Nat.le_trans (Nat.le_of_ble_eq_true rfl) hR.2⟩) rfl hl.1 rfl (Nat.le_of_ble_eq_true rfl) dX6_sailingOf_3 hf (fun H locs hP hS => ?_)
  have J_1 : ∀ (y1_t0 : Int32) (H : Heap) (locs : List Loc) (ls : Array Slot), y1_t0 = (if (q_isSailing σ own) = 0 then (1 : Int32) else (if (q_in what (0 : Int32) (6 : Int32)) = 0 then (2 : Int32) else (0 : Int32))) → va_P D vwCl (mW cI cZ h σ) H → va_S A s.heap H locs → lv_has ls 3 [(0, .ref h), (1, .int own), (2, .int what)] → W p l e R s m args below meth c H locs cells slots Q (F0 m 28 ls [.int y1_t0, .ref h]) := by
    intro y1_t0 H locs ls e_y1_t0 hP hS hl
    subst e_y1_t0
    refine mcV_i E hml hP hS (c_refused l hA σ (if (q_isSailing σ own) = 0 then (1 : Int32) else (if (q_in what (0 : Int32) (6 : Int32)) = 0 then (2 : Int32) else (0 : Int32)))) (cwV 1 hts gX6_sailingOf_X6_refused rfl rfl rfl (by decide +kernel) ⟨Nat.le_trans (Nat.le_of_ble_eq_true rfl) hR.1, Nat.le_trans (Nat.le_of_ble_eq_true rfl) hR.2⟩) rfl hl.1 rfl (Nat.le_of_ble_eq_true rfl) dX6_sailingOf_28 hf (fun H locs hP hS => ?_)
    refine lv_if_eq (tgt := 36) hx hb dX6_sailingOf_31 (by decide) (fun c_3 => ?_) (fun c_3 => ?_)
    · have hq := hq.trans (if_pos c_3)
      have hs := hs.trans (if_pos c_3)
      have h_own := isSailing_in hI (rfp c_3)
      refine lv_iload_n hx hb dX6_sailingOf_36 rfl (lv_at hl 2 rfl) ?_
      by_cases c_4_0 : what.toInt = 0
      · have hq := hq.trans (if_pos c_4_0)
        have hs := hs.trans (if_pos c_4_0)
        refine lv_tableIn (tgt := 76) hx hb dX6_sailingOf_37 (by omega) (by omega) (by rw [c_4_0]; rfl) (by decide) ?_
        refine lv_aload_n hx hb dX6_sailingOf_76 rfl (lv_at hl 0 rfl) ?_
        refine mg_state E hP (by decide +kernel) dX6_sailingOf_77 ?_
        refine lv_iload_n hx hb dX6_sailingOf_80 rfl (lv_at hl 1 rfl) ?_
        refine mlv_state E hP h_own (v := σ 22 own.toNatClampNeg) rfl dX6_sailingOf_81 ?_
        exact kr _ (σ 22 own.toNatClampNeg) H locs ls dX6_sailingOf_82 hq.symm (by rw [hs]; exact hP) hS
      have hq := hq.trans (if_neg c_4_0)
      have hs := hs.trans (if_neg c_4_0)
      by_cases c_4_1 : what.toInt = 1
      · have hq := hq.trans (if_pos c_4_1)
        have hs := hs.trans (if_pos c_4_1)
        refine lv_tableIn (tgt := 83) hx hb dX6_sailingOf_37 (by omega) (by omega) (by rw [c_4_1]; rfl) (by decide) ?_
        refine lv_aload_n hx hb dX6_sailingOf_83 rfl (lv_at hl 0 rfl) ?_
        refine mg_reason E hP (by decide +kernel) dX6_sailingOf_84 ?_
        refine lv_iload_n hx hb dX6_sailingOf_87 rfl (lv_at hl 1 rfl) ?_
        refine mlv_reason E hP h_own (v := σ 29 own.toNatClampNeg) rfl dX6_sailingOf_88 ?_
        exact kr _ (σ 29 own.toNatClampNeg) H locs ls dX6_sailingOf_89 hq.symm (by rw [hs]; exact hP) hS
      have hq := hq.trans (if_neg c_4_1)
      have hs := hs.trans (if_neg c_4_1)
      by_cases c_4_2 : what.toInt = 2
      · have hq := hq.trans (if_pos c_4_2)
        have hs := hs.trans (if_pos c_4_2)
        refine lv_tableIn (tgt := 90) hx hb dX6_sailingOf_37 (by omega) (by omega) (by rw [c_4_2]; rfl) (by decide) ?_
        refine lv_aload_n hx hb dX6_sailingOf_90 rfl (lv_at hl 0 rfl) ?_
        refine mg_boatOf E hP (by decide +kernel) dX6_sailingOf_91 ?_
        refine lv_iload_n hx hb dX6_sailingOf_94 rfl (lv_at hl 1 rfl) ?_
        refine mlv_boatOf E hP h_own (v := σ 23 own.toNatClampNeg) rfl dX6_sailingOf_95 ?_
        exact kr _ (σ 23 own.toNatClampNeg) H locs ls dX6_sailingOf_96 hq.symm (by rw [hs]; exact hP) hS
      have hq := hq.trans (if_neg c_4_2)
      have hs := hs.trans (if_neg c_4_2)
      by_cases c_4_3 : what.toInt = 3
      · have hq := hq.trans (if_pos c_4_3)
        have hs := hs.trans (if_pos c_4_3)
        refine lv_tableIn (tgt := 97) hx hb dX6_sailingOf_37 (by omega) (by omega) (by rw [c_4_3]; rfl) (by decide) ?_
        refine lv_aload_n hx hb dX6_sailingOf_97 rfl (lv_at hl 0 rfl) ?_
        refine mg_came E hP (by decide +kernel) dX6_sailingOf_98 ?_
        refine lv_iload_n hx hb dX6_sailingOf_101 rfl (lv_at hl 1 rfl) ?_
        refine mlv_came E hP h_own (v := σ 30 own.toNatClampNeg) rfl dX6_sailingOf_102 ?_
        exact kr _ (σ 30 own.toNatClampNeg) H locs ls dX6_sailingOf_103 hq.symm (by rw [hs]; exact hP) hS
      have hq := hq.trans (if_neg c_4_3)
      have hs := hs.trans (if_neg c_4_3)
      by_cases c_4_4 : what.toInt = 4
      · have hq := hq.trans (if_pos c_4_4)
        have hs := hs.trans (if_pos c_4_4)
        refine lv_tableIn (tgt := 104) hx hb dX6_sailingOf_37 (by omega) (by omega) (by rw [c_4_4]; rfl) (by decide) ?_
        refine lv_aload_n hx hb dX6_sailingOf_104 rfl (lv_at hl 0 rfl) ?_
        refine mg_weights E hP (by decide +kernel) dX6_sailingOf_105 ?_
        refine lv_iconst (v := 2) hx hb dX6_sailingOf_108 (by decide) ?_
        refine lv_iload_n hx hb dX6_sailingOf_109 rfl (lv_at hl 1 rfl) ?_
        refine lv_imul hx hb dX6_sailingOf_110 ?_
        refine mlv_weights E hP (in2z h_own) (v := σ 32 ((2 : Int32) * own).toNatClampNeg) rfl dX6_sailingOf_111 ?_
        exact kr _ (σ 32 ((2 : Int32) * own).toNatClampNeg) H locs ls dX6_sailingOf_112 hq.symm (by rw [hs]; exact hP) hS
      have hq := hq.trans (if_neg c_4_4)
      have hs := hs.trans (if_neg c_4_4)
      by_cases c_4_5 : what.toInt = 5
      · have hq := hq.trans (if_pos c_4_5)
        have hs := hs.trans (if_pos c_4_5)
        refine lv_tableIn (tgt := 113) hx hb dX6_sailingOf_37 (by omega) (by omega) (by rw [c_4_5]; rfl) (by decide) ?_
        refine lv_aload_n hx hb dX6_sailingOf_113 rfl (lv_at hl 0 rfl) ?_
        refine mg_weights E hP (by decide +kernel) dX6_sailingOf_114 ?_
        refine lv_iconst (v := 2) hx hb dX6_sailingOf_117 (by decide) ?_
        refine lv_iload_n hx hb dX6_sailingOf_118 rfl (lv_at hl 1 rfl) ?_
        refine lv_imul hx hb dX6_sailingOf_119 ?_
        refine lv_iconst (v := 1) hx hb dX6_sailingOf_120 (by decide) ?_
        refine lv_iadd hx hb dX6_sailingOf_121 ?_
        refine mlv_weights E hP (in2 h_own isB1) (v := σ 32 (((2 : Int32) * own) + (1 : Int32)).toNatClampNeg) rfl dX6_sailingOf_122 ?_
        exact kr _ (σ 32 (((2 : Int32) * own) + (1 : Int32)).toNatClampNeg) H locs ls dX6_sailingOf_123 hq.symm (by rw [hs]; exact hP) hS
      have hq := hq.trans (if_neg c_4_5)
      have hs := hs.trans (if_neg c_4_5)
      refine lv_tableOut (tgt := 124) hx hb dX6_sailingOf_37 (by omega) (by decide) ?_
      refine lv_aload_n hx hb dX6_sailingOf_124 rfl (lv_at hl 0 rfl) ?_
      refine mg_refusedAt E hP (by decide +kernel) dX6_sailingOf_125 ?_
      refine lv_iload_n hx hb dX6_sailingOf_128 rfl (lv_at hl 1 rfl) ?_
      refine mlv_refusedAt E hP h_own (v := σ 31 own.toNatClampNeg) rfl dX6_sailingOf_129 ?_
      exact kr _ (σ 31 own.toNatClampNeg) H locs ls dX6_sailingOf_130 hq.symm (by rw [hs]; exact hP) hS
    have hq := hq.trans (if_neg c_3)
    have hs := hs.trans (if_neg c_3)
    refine lv_iconst (v := 0) hx hb dX6_sailingOf_34 (by decide) ?_
    exact kr _ (0 : Int32) H locs ls dX6_sailingOf_35 hq.symm (by rw [hs]; exact hP) hS
  refine lv_if_ne (tgt := 13) hx hb dX6_sailingOf_6 (by decide) (fun c_1 => ?_) (fun c_1 => ?_)
  · refine lv_iload_n hx hb dX6_sailingOf_13 rfl (lv_at hl 2 rfl) ?_
    refine lv_iconst (v := 0) hx hb dX6_sailingOf_14 (by decide) ?_
    refine lv_bipush (v := 6) hx hb dX6_sailingOf_15 (by decide) ?_
    refine mcS_i E hml hP hS (c_in l hA σ what (0 : Int32) (6 : Int32)) (va_cwS 3 hts gX6_sailingOf_X6_in rfl rfl rfl (by decide +kernel) ⟨Nat.le_trans (Nat.le_of_ble_eq_true rfl) hR.1, Nat.le_trans (Nat.le_of_ble_eq_true rfl) hR.2⟩) rfl hl.1 rfl (Nat.le_of_ble_eq_true rfl) dX6_sailingOf_17 hf (fun H locs hP hS => ?_)
    refine lv_if_ne (tgt := 27) hx hb dX6_sailingOf_20 (by decide) (fun c_2 => ?_) (fun c_2 => ?_)
    · refine lv_iconst (v := 0) hx hb dX6_sailingOf_27 (by decide) ?_
      exact J_1 (0 : Int32) H locs ls ((if_neg c_2).symm.trans (if_neg c_1).symm) hP hS (lv_sub hl [0, 1, 2] rfl)
    refine lv_iconst (v := 2) hx hb dX6_sailingOf_23 (by decide) ?_
    refine lv_goto (tgt := 28) hx hb dX6_sailingOf_24 (by decide) ?_
    exact J_1 (2 : Int32) H locs ls ((if_pos c_2).symm.trans (if_neg c_1).symm) hP hS (lv_sub hl [0, 1, 2] rfl)
  refine lv_iconst (v := 1) hx hb dX6_sailingOf_9 (by decide) ?_
  refine lv_goto (tgt := 28) hx hb dX6_sailingOf_10 (by decide) ?_
  exact J_1 (1 : Int32) H locs ls (if_pos c_1).symm hP hS (lv_sub hl [0, 1, 2] rfl)
set_option maxHeartbeats 1000000 in
set_option maxRecDepth 100000 in
theorem c_sailingOf (l : Launch) {D : va_G} {A : Nat → Prop} {cI cZ : ClassId} {h : Nat} (hA : ∀ i, i < 44 → A (h + i)) (σ : St) (own : Int32) (what : Int32) (hI : MI σ) : Met l yX6_sailingOf wsX6_sailingOf ({ frames := 2, cells := 0, slots := 0, locals := 43 }) (va_Pc [.ref h, .int own, .int what] (mU D cI cZ h σ)) (va_Qi (fun r (_ : Unit) => r = q_sailingOf σ own what) (fun _ t => mU D cI cZ h (s_sailingOf σ own what) t) A) 0 0 A := by
  refine Met.ofW (cc := cX6_sailingOf) (maxL := 3) (ret := (some .int)) (by decide) rfl ?_
  intro p e s m args below meth c s₁ B hml hv
  obtain ⟨rfl, hP, hK⟩ := hv
  have E : mE p c cX6_sailingOf s m ([.ref h, .int own, .int what] : List Value).toArray wsX6_sailingOf D cI cZ := ⟨⟨B.exec, B.bytes⟩, atoms_spec (ws := wsX6_sailingOf) B.pre, (by decide +kernel), findClass_of_methodNamed B.named, hK⟩
  have hr := B.returns
  have hlocks := B.notSynchronized
  have hl := lv_entry ([.ref h, .int own, .int what]) (n := 3) (Nat.le_of_ble_eq_true rfl)
  rw [lg_entry_eq]
  generalize (lg_sl ([.ref h, .int own, .int what]) ++ List.replicate (3 - (lg_sl ([.ref h, .int own, .int what])).length) Slot.unset).toArray = ls at hl ⊢
  refine w_sailingOf σ own what hI E hml hA ⟨Nat.le_of_ble_eq_true rfl, Nat.le_of_ble_eq_true rfl⟩ ⟨Nat.zero_le _, Nat.zero_le _⟩ hP va_S.rf hl (fun pc v H1 locs1 ls1 hd hv hP1 hS1 => ?_)
  exact W.iret (v := v) B.exec B.bytes hr (fun t ht hW => ⟨⟨v, (), rfl, hv, by rw [ht]; exact hP1, va_K.moved hW.alike hK⟩, hS1.F ht⟩) hS1.2.2 hd
def k48t0_against (σ : St) (own : Int32) : Int32 := if (q_refused σ (if (q_isSailing σ own) = 0 then (1 : Int32) else (if (σ 22 own.toNatClampNeg) = 0 then (0 : Int32) else (2 : Int32)))) = 0 then (q_reasonOf (s_refused σ (if (q_isSailing σ own) = 0 then (1 : Int32) else (if (σ 22 own.toNatClampNeg) = 0 then (0 : Int32) else (2 : Int32)))) own (σ 1 0)) else (0 : Int32)
def q_against (σ : St) (own : Int32) : Int32 := k48t0_against σ own
def s_against (σ : St) (own : Int32) : St := s_refused σ (if (q_isSailing σ own) = 0 then (1 : Int32) else (if (σ 22 own.toNatClampNeg) = 0 then (0 : Int32) else (2 : Int32)))
set_option maxHeartbeats 1000000 in
set_option maxRecDepth 100000 in
theorem w_against {p : Program} {l : Launch} {e : Env} {R : Room} {s : State} {m : MethodId} {args : Array Value} {below : List Frame} {meth : Method} {c : Code} {H : Heap} {locs : List Loc} {cells slots : Nat} {Q : State → Prop} {D : va_G} {A : Nat → Prop} {cI cZ : ClassId} {h : Nat} {ls : Array Slot} (σ : St) (own : Int32) (hI : MI σ) (E : mE p c cX6_against s m args wsX6_against D cI cZ) (hml : c.maxLocals = 3) (hA : ∀ i, i < 44 → A (h + i)) (hR : 3 ≤ R.frames ∧ 70 ≤ R.locals) (hf : cells ≤ R.cells ∧ slots ≤ R.slots) (hP : va_P D vwCl (mW cI cZ h σ) H) (hS : va_S A s.heap H locs) (hl : lv_has ls 3 [(0, .ref h), (1, .int own)]) (kr : ∀ (pc : Nat) (rv : Int32) (H1 : Heap) (locs1 : List Loc) (ls1 : Array Slot), decode cX6_against pc = .ok (.ireturn, 1) → rv = q_against σ own → va_P D vwCl (mW cI cZ h (s_against σ own)) H1 → va_S A s.heap H1 locs1 → W p l e R s m args below meth c H1 locs1 cells slots Q (F0 m pc ls1 [.int rv])) : W p l e R s m args below meth c H locs cells slots Q (F0 m 0 ls []) := by
  have hx := E.1.1
  have hb := E.1.2
  have hts := E.2.1
  have hq : q_against σ own = k48t0_against σ own := rfl
  have hs : s_against σ own = s_refused σ (if (q_isSailing σ own) = 0 then (1 : Int32) else (if (σ 22 own.toNatClampNeg) = 0 then (0 : Int32) else (2 : Int32))) := rfl
  refine lv_aload_n hx hb dX6_against_0 rfl (lv_at hl 0 rfl) ?_
  refine lv_iload_n hx hb dX6_against_1 rfl (lv_at hl 1 rfl) ?_
  refine mcV_i E hml hP hS (c_isSailing l hA σ own) (cwV 1 hts gX6_against_X6_isSailing rfl rfl rfl (by decide +kernel) ⟨Nat.le_trans (Nat.le_of_ble_eq_true rfl) hR.1, Nat.le_trans (Nat.le_of_ble_eq_true rfl) hR.2⟩) rfl hl.1 rfl (Nat.le_of_ble_eq_true rfl) dX6_against_2 hf (fun H locs hP hS => ?_)
  refine lv_istore_n (lv' := [(2, .int (q_isSailing σ own)), (0, .ref h), (1, .int own)]) hx hb dX6_against_5 rfl hl (by decide) rfl (fun ls hl => ?_)
  refine lv_aload_n hx hb dX6_against_6 rfl (lv_at hl 1 rfl) ?_
  refine lv_iload_n hx hb dX6_against_7 rfl (lv_at hl 0 rfl) ?_
  have J_1 : ∀ (y1_t0 : Int32) (H : Heap) (locs : List Loc) (ls : Array Slot), y1_t0 = (if (q_isSailing σ own) = 0 then (1 : Int32) else (if (σ 22 own.toNatClampNeg) = 0 then (0 : Int32) else (2 : Int32))) → va_P D vwCl (mW cI cZ h σ) H → va_S A s.heap H locs → lv_has ls 3 [(2, .int (q_isSailing σ own)), (0, .ref h), (1, .int own)] → W p l e R s m args below meth c H locs cells slots Q (F0 m 29 ls [.int y1_t0, .ref h]) := by
    intro y1_t0 H locs ls e_y1_t0 hP hS hl
    subst e_y1_t0
    refine mcV_i E hml hP hS (c_refused l hA σ (if (q_isSailing σ own) = 0 then (1 : Int32) else (if (σ 22 own.toNatClampNeg) = 0 then (0 : Int32) else (2 : Int32)))) (cwV 1 hts gX6_against_X6_refused rfl rfl rfl (by decide +kernel) ⟨Nat.le_trans (Nat.le_of_ble_eq_true rfl) hR.1, Nat.le_trans (Nat.le_of_ble_eq_true rfl) hR.2⟩) rfl hl.1 rfl (Nat.le_of_ble_eq_true rfl) dX6_against_29 hf (fun H locs hP hS => ?_)
    have J_3 : ∀ (y3_t0 : Int32) (H : Heap) (locs : List Loc) (ls : Array Slot), y3_t0 = (k48t0_against σ own) → va_P D vwCl (mW cI cZ h (s_refused σ (if (q_isSailing σ own) = 0 then (1 : Int32) else (if (σ 22 own.toNatClampNeg) = 0 then (0 : Int32) else (2 : Int32))))) H → va_S A s.heap H locs → lv_has ls 3 [(2, .int (q_isSailing σ own)), (0, .ref h), (1, .int own)] → W p l e R s m args below meth c H locs cells slots Q (F0 m 48 ls [.int y3_t0]) := by
      intro y3_t0 H locs ls e_y3_t0 hP hS hl
      subst e_y3_t0
      exact kr _ (k48t0_against σ own) H locs ls dX6_against_48 hq.symm (by rw [hs]; exact hP) hS
    refine lv_if_eq (tgt := 39) hx hb dX6_against_32 (by decide) (fun c_3 => ?_) (fun c_3 => ?_)
    · have h_own := isSailing_in hI (rfp c_3)
      refine lv_aload_n hx hb dX6_against_39 rfl (lv_at hl 1 rfl) ?_
      refine lv_iload_n hx hb dX6_against_40 rfl (lv_at hl 2 rfl) ?_
      refine lv_aload_n hx hb dX6_against_41 rfl (lv_at hl 1 rfl) ?_
      refine mgv_now E hP (v := σ 1 0) rfl (by decide +kernel) dX6_against_42 ?_
      refine mcV_i E hml hP hS (c_reasonOf l hA (s_refused σ (if (q_isSailing σ own) = 0 then (1 : Int32) else (if (σ 22 own.toNatClampNeg) = 0 then (0 : Int32) else (2 : Int32)))) own (σ 1 0) (MK_s_refused hI).1 (by first | assumption | exact isSailing_in hI (by assumption))) (cwV 2 hts gX6_against_X6_reasonOf rfl rfl rfl (by decide +kernel) ⟨Nat.le_trans (Nat.le_of_ble_eq_true rfl) hR.1, Nat.le_trans (Nat.le_of_ble_eq_true rfl) hR.2⟩) rfl hl.1 rfl (Nat.le_of_ble_eq_true rfl) dX6_against_45 hf (fun H locs hP hS => ?_)
      exact J_3 (q_reasonOf (s_refused σ (if (q_isSailing σ own) = 0 then (1 : Int32) else (if (σ 22 own.toNatClampNeg) = 0 then (0 : Int32) else (2 : Int32)))) own (σ 1 0)) H locs ls (if_pos c_3).symm hP hS (lv_sub hl [0, 1, 2] rfl)
    refine lv_iconst (v := 0) hx hb dX6_against_35 (by decide) ?_
    refine lv_goto (tgt := 48) hx hb dX6_against_36 (by decide) ?_
    exact J_3 (0 : Int32) H locs ls (if_neg c_3).symm hP hS (lv_sub hl [0, 1, 2] rfl)
  refine lv_if_ne (tgt := 15) hx hb dX6_against_8 (by decide) (fun c_1 => ?_) (fun c_1 => ?_)
  · refine lv_aload_n hx hb dX6_against_15 rfl (lv_at hl 1 rfl) ?_
    refine mg_state E hP (by decide +kernel) dX6_against_16 ?_
    refine lv_iload_n hx hb dX6_against_19 rfl (lv_at hl 2 rfl) ?_
    refine ml_state E hP (by first | assumption | exact isSailing_in hI (by assumption)) dX6_against_20 ?_
    refine lv_if_eq (tgt := 28) hx hb dX6_against_21 (by decide) (fun c_2 => ?_) (fun c_2 => ?_)
    · refine lv_iconst (v := 0) hx hb dX6_against_28 (by decide) ?_
      exact J_1 (0 : Int32) H locs ls ((if_pos c_2).symm.trans (if_neg c_1).symm) hP hS (lv_sub hl [0, 1, 2] rfl)
    refine lv_iconst (v := 2) hx hb dX6_against_24 (by decide) ?_
    refine lv_goto (tgt := 29) hx hb dX6_against_25 (by decide) ?_
    exact J_1 (2 : Int32) H locs ls ((if_neg c_2).symm.trans (if_neg c_1).symm) hP hS (lv_sub hl [0, 1, 2] rfl)
  refine lv_iconst (v := 1) hx hb dX6_against_11 (by decide) ?_
  refine lv_goto (tgt := 29) hx hb dX6_against_12 (by decide) ?_
  exact J_1 (1 : Int32) H locs ls (if_pos c_1).symm hP hS (lv_sub hl [0, 1, 2] rfl)
set_option maxHeartbeats 1000000 in
set_option maxRecDepth 100000 in
theorem c_against (l : Launch) {D : va_G} {A : Nat → Prop} {cI cZ : ClassId} {h : Nat} (hA : ∀ i, i < 44 → A (h + i)) (σ : St) (own : Int32) (hI : MI σ) : Met l yX6_against wsX6_against ({ frames := 3, cells := 0, slots := 0, locals := 70 }) (va_Pc [.ref h, .int own] (mU D cI cZ h σ)) (va_Qi (fun r (_ : Unit) => r = q_against σ own) (fun _ t => mU D cI cZ h (s_against σ own) t) A) 0 0 A := by
  refine Met.ofW (cc := cX6_against) (maxL := 3) (ret := (some .int)) (by decide) rfl ?_
  intro p e s m args below meth c s₁ B hml hv
  obtain ⟨rfl, hP, hK⟩ := hv
  have E : mE p c cX6_against s m ([.ref h, .int own] : List Value).toArray wsX6_against D cI cZ := ⟨⟨B.exec, B.bytes⟩, atoms_spec (ws := wsX6_against) B.pre, (by decide +kernel), findClass_of_methodNamed B.named, hK⟩
  have hr := B.returns
  have hlocks := B.notSynchronized
  have hl := lv_entry ([.ref h, .int own]) (n := 3) (Nat.le_of_ble_eq_true rfl)
  rw [lg_entry_eq]
  generalize (lg_sl ([.ref h, .int own]) ++ List.replicate (3 - (lg_sl ([.ref h, .int own])).length) Slot.unset).toArray = ls at hl ⊢
  refine w_against σ own hI E hml hA ⟨Nat.le_of_ble_eq_true rfl, Nat.le_of_ble_eq_true rfl⟩ ⟨Nat.zero_le _, Nat.zero_le _⟩ hP va_S.rf hl (fun pc v H1 locs1 ls1 hd hv hP1 hS1 => ?_)
  exact W.iret (v := v) B.exec B.bytes hr (fun t ht hW => ⟨⟨v, (), rfl, hv, by rw [ht]; exact hP1, va_K.moved hW.alike hK⟩, hS1.F ht⟩) hS1.2.2 hd
def k35t0_fareOf (σ : St) (own : Int32) : Int32 := if (σ 37 own.toNatClampNeg) = 0 then (((σ 38 own.toNatClampNeg) * (σ 48 (σ 37 own.toNatClampNeg).toNatClampNeg)) / (2 : Int32)) else ((σ 38 own.toNatClampNeg) * (σ 48 (σ 37 own.toNatClampNeg).toNatClampNeg))
def k68t0_fareOf (σ : St) (own : Int32) : Int32 := if (q_in (σ 35 own.toNatClampNeg) (1 : Int32) (2 : Int32)) = 0 then (0 : Int32) else (if (k35t0_fareOf σ own) ≤ (5000 : Int32) then (k35t0_fareOf σ own) else (5000 : Int32))
def q_fareOf (σ : St) (own : Int32) : Int32 := k68t0_fareOf σ own
set_option maxHeartbeats 1000000 in
set_option maxRecDepth 100000 in
theorem w_fareOf {p : Program} {l : Launch} {e : Env} {R : Room} {s : State} {m : MethodId} {args : Array Value} {below : List Frame} {meth : Method} {c : Code} {H : Heap} {locs : List Loc} {cells slots : Nat} {Q : State → Prop} {D : va_G} {A : Nat → Prop} {cI cZ : ClassId} {h : Nat} {ls : Array Slot} (σ : St) (own : Int32) (hI : MI σ) (h_own : vp_in own 100) (E : mE p c cX6_fareOf s m args wsX6_fareOf D cI cZ) (hml : c.maxLocals = 3) (hA : ∀ i, i < 44 → A (h + i)) (hR : 1 ≤ R.frames ∧ 22 ≤ R.locals) (hf : cells ≤ R.cells ∧ slots ≤ R.slots) (hP : va_P D vwCl (mW cI cZ h σ) H) (hS : va_S A s.heap H locs) (hl : lv_has ls 3 [(0, .ref h), (1, .int own)]) (kr : ∀ (pc : Nat) (rv : Int32) (H1 : Heap) (locs1 : List Loc) (ls1 : Array Slot), decode cX6_fareOf pc = .ok (.ireturn, 1) → rv = q_fareOf σ own → va_P D vwCl (mW cI cZ h (σ)) H1 → va_S A s.heap H1 locs1 → W p l e R s m args below meth c H1 locs1 cells slots Q (F0 m pc ls1 [.int rv])) : W p l e R s m args below meth c H locs cells slots Q (F0 m 0 ls []) := by
  have hx := E.1.1
  have hb := E.1.2
  have hts := E.2.1
  have hq : q_fareOf σ own = k68t0_fareOf σ own := rfl
  refine lv_aload_n hx hb dX6_fareOf_0 rfl (lv_at hl 0 rfl) ?_
  refine mg_length E hP (by decide +kernel) dX6_fareOf_1 ?_
  refine lv_iload_n hx hb dX6_fareOf_4 rfl (lv_at hl 1 rfl) ?_
  refine ml_length E hP h_own dX6_fareOf_5 ?_
  refine lv_aload_n hx hb dX6_fareOf_6 rfl (lv_at hl 0 rfl) ?_
  refine mg_rates E hP (by decide +kernel) dX6_fareOf_7 ?_
  refine lv_aload_n hx hb dX6_fareOf_10 rfl (lv_at hl 0 rfl) ?_
  refine mg_kindOf E hP (by decide +kernel) dX6_fareOf_11 ?_
  refine lv_iload_n hx hb dX6_fareOf_14 rfl (lv_at hl 1 rfl) ?_
  refine ml_kindOf E hP h_own dX6_fareOf_15 ?_
  refine ml_rates E hP (MI_kd hI _) dX6_fareOf_16 ?_
  refine lv_imul hx hb dX6_fareOf_17 ?_
  refine lv_istore_n (lv' := [(2, .int ((σ 38 own.toNatClampNeg) * (σ 48 (σ 37 own.toNatClampNeg).toNatClampNeg))), (0, .ref h), (1, .int own)]) hx hb dX6_fareOf_18 rfl hl (by decide) rfl (fun ls hl => ?_)
  refine lv_aload_n hx hb dX6_fareOf_19 rfl (lv_at hl 1 rfl) ?_
  refine mg_kindOf E hP (by decide +kernel) dX6_fareOf_20 ?_
  refine lv_iload_n hx hb dX6_fareOf_23 rfl (lv_at hl 2 rfl) ?_
  refine ml_kindOf E hP h_own dX6_fareOf_24 ?_
  have J_1 : ∀ (y1_t0 : Int32) (H : Heap) (locs : List Loc) (ls : Array Slot), y1_t0 = (k35t0_fareOf σ own) → va_P D vwCl (mW cI cZ h σ) H → va_S A s.heap H locs → lv_has ls 3 [(2, .int ((σ 38 own.toNatClampNeg) * (σ 48 (σ 37 own.toNatClampNeg).toNatClampNeg))), (0, .ref h), (1, .int own)] → W p l e R s m args below meth c H locs cells slots Q (F0 m 35 ls [.int y1_t0]) := by
    intro y1_t0 H locs ls e_y1_t0 hP hS hl
    subst e_y1_t0
    refine lv_istore_n (lv' := [(2, .int (k35t0_fareOf σ own)), (0, .ref h), (1, .int own)]) hx hb dX6_fareOf_35 rfl hl (by decide) rfl (fun ls hl => ?_)
    refine lv_aload_n hx hb dX6_fareOf_36 rfl (lv_at hl 1 rfl) ?_
    refine mg_how E hP (by decide +kernel) dX6_fareOf_37 ?_
    refine lv_iload_n hx hb dX6_fareOf_40 rfl (lv_at hl 2 rfl) ?_
    refine ml_how E hP h_own dX6_fareOf_41 ?_
    refine lv_iconst (v := 1) hx hb dX6_fareOf_42 (by decide) ?_
    refine lv_iconst (v := 2) hx hb dX6_fareOf_43 (by decide) ?_
    refine mcS_i E hml hP hS (c_in l hA σ (σ 35 own.toNatClampNeg) (1 : Int32) (2 : Int32)) (va_cwS 3 hts gX6_fareOf_X6_in rfl rfl rfl (by decide +kernel) ⟨Nat.le_trans (Nat.le_of_ble_eq_true rfl) hR.1, Nat.le_trans (Nat.le_of_ble_eq_true rfl) hR.2⟩) rfl hl.1 rfl (Nat.le_of_ble_eq_true rfl) dX6_fareOf_44 hf (fun H locs hP hS => ?_)
    have J_2 : ∀ (y2_t0 : Int32) (H : Heap) (locs : List Loc) (ls : Array Slot), y2_t0 = (k68t0_fareOf σ own) → va_P D vwCl (mW cI cZ h σ) H → va_S A s.heap H locs → lv_has ls 3 [(2, .int (k35t0_fareOf σ own)), (0, .ref h), (1, .int own)] → W p l e R s m args below meth c H locs cells slots Q (F0 m 68 ls [.int y2_t0]) := by
      intro y2_t0 H locs ls e_y2_t0 hP hS hl
      subst e_y2_t0
      exact kr _ (k68t0_fareOf σ own) H locs ls dX6_fareOf_68 hq.symm hP hS
    refine lv_if_ne (tgt := 54) hx hb dX6_fareOf_47 (by decide) (fun c_2 => ?_) (fun c_2 => ?_)
    · refine lv_iload_n hx hb dX6_fareOf_54 rfl (lv_at hl 0 rfl) ?_
      refine lv_sipush (v := 5000) hx hb dX6_fareOf_55 (by decide) ?_
      refine lv_icmp_le (tgt := 67) hx hb dX6_fareOf_58 (by decide) (fun c_3 => ?_) (fun c_3 => ?_)
      · refine lv_iload_n hx hb dX6_fareOf_67 rfl (lv_at hl 0 rfl) ?_
        exact J_2 (k35t0_fareOf σ own) H locs ls ((if_pos c_3).symm.trans (if_neg c_2).symm) hP hS (lv_sub hl [0, 1, 2] rfl)
      refine lv_sipush (v := 5000) hx hb dX6_fareOf_61 (by decide) ?_
      refine lv_goto (tgt := 68) hx hb dX6_fareOf_64 (by decide) ?_
      exact J_2 (5000 : Int32) H locs ls ((if_neg c_3).symm.trans (if_neg c_2).symm) hP hS (lv_sub hl [0, 1, 2] rfl)
    refine lv_iconst (v := 0) hx hb dX6_fareOf_50 (by decide) ?_
    refine lv_goto (tgt := 68) hx hb dX6_fareOf_51 (by decide) ?_
    exact J_2 (0 : Int32) H locs ls (if_pos c_2).symm hP hS (lv_sub hl [0, 1, 2] rfl)
  refine lv_if_ne (tgt := 34) hx hb dX6_fareOf_25 (by decide) (fun c_1 => ?_) (fun c_1 => ?_)
  · refine lv_iload_n hx hb dX6_fareOf_34 rfl (lv_at hl 0 rfl) ?_
    exact J_1 ((σ 38 own.toNatClampNeg) * (σ 48 (σ 37 own.toNatClampNeg).toNatClampNeg)) H locs ls (if_neg c_1).symm hP hS (lv_sub hl [0, 1, 2] rfl)
  refine lv_iload_n hx hb dX6_fareOf_28 rfl (lv_at hl 0 rfl) ?_
  refine lv_iconst (v := 2) hx hb dX6_fareOf_29 (by decide) ?_
  refine lv_idiv hx hb dX6_fareOf_30 (by decide) ?_
  refine lv_goto (tgt := 35) hx hb dX6_fareOf_31 (by decide) ?_
  exact J_1 (((σ 38 own.toNatClampNeg) * (σ 48 (σ 37 own.toNatClampNeg).toNatClampNeg)) / (2 : Int32)) H locs ls (if_pos c_1).symm hP hS (lv_sub hl [0, 1, 2] rfl)
set_option maxHeartbeats 1000000 in
set_option maxRecDepth 100000 in
theorem c_fareOf (l : Launch) {D : va_G} {A : Nat → Prop} {cI cZ : ClassId} {h : Nat} (hA : ∀ i, i < 44 → A (h + i)) (σ : St) (own : Int32) (hI : MI σ) (h_own : vp_in own 100) : Met l yX6_fareOf wsX6_fareOf ({ frames := 1, cells := 0, slots := 0, locals := 22 }) (va_Pc [.ref h, .int own] (mU D cI cZ h σ)) (va_Qi (fun r (_ : Unit) => r = q_fareOf σ own) (fun _ t => mU D cI cZ h (σ) t) A) 0 0 A := by
  refine Met.ofW (cc := cX6_fareOf) (maxL := 3) (ret := (some .int)) (by decide) rfl ?_
  intro p e s m args below meth c s₁ B hml hv
  obtain ⟨rfl, hP, hK⟩ := hv
  have E : mE p c cX6_fareOf s m ([.ref h, .int own] : List Value).toArray wsX6_fareOf D cI cZ := ⟨⟨B.exec, B.bytes⟩, atoms_spec (ws := wsX6_fareOf) B.pre, (by decide +kernel), findClass_of_methodNamed B.named, hK⟩
  have hr := B.returns
  have hlocks := B.notSynchronized
  have hl := lv_entry ([.ref h, .int own]) (n := 3) (Nat.le_of_ble_eq_true rfl)
  rw [lg_entry_eq]
  generalize (lg_sl ([.ref h, .int own]) ++ List.replicate (3 - (lg_sl ([.ref h, .int own])).length) Slot.unset).toArray = ls at hl ⊢
  refine w_fareOf σ own hI h_own E hml hA ⟨Nat.le_of_ble_eq_true rfl, Nat.le_of_ble_eq_true rfl⟩ ⟨Nat.zero_le _, Nat.zero_le _⟩ hP va_S.rf hl (fun pc v H1 locs1 ls1 hd hv hP1 hS1 => ?_)
  exact W.iret (v := v) B.exec B.bytes hr (fun t ht hW => ⟨⟨v, (), rfl, hv, by rw [ht]; exact hP1, va_K.moved hW.alike hK⟩, hS1.F ht⟩) hS1.2.2 hd
def k33t0_bookingOf (σ : St) (own : Int32) (what : Int32) : Int32 := if (q_in own (0 : Int32) ((σ 34 0) - (1 : Int32))) = 0 then (1 : Int32) else (if (q_in what (0 : Int32) (5 : Int32)) = 0 then (2 : Int32) else (0 : Int32))
def q_bookingOf (σ : St) (own : Int32) (what : Int32) : Int32 := if (q_refused σ (k33t0_bookingOf σ own what)) = 0 then (if what.toInt = 0 then (σ 35 own.toNatClampNeg) else (if what.toInt = 1 then (σ 36 own.toNatClampNeg) else (if what.toInt = 2 then (σ 44 own.toNatClampNeg) else (if what.toInt = 3 then (σ 43 own.toNatClampNeg) else (if what.toInt = 4 then (σ 45 own.toNatClampNeg) else (q_fareOf (s_refused σ (k33t0_bookingOf σ own what)) own)))))) else (0 : Int32)
def s_bookingOf (σ : St) (own : Int32) (what : Int32) : St := if (q_refused σ (k33t0_bookingOf σ own what)) = 0 then (if what.toInt = 0 then (s_refused σ (k33t0_bookingOf σ own what)) else (if what.toInt = 1 then (s_refused σ (k33t0_bookingOf σ own what)) else (if what.toInt = 2 then (s_refused σ (k33t0_bookingOf σ own what)) else (if what.toInt = 3 then (s_refused σ (k33t0_bookingOf σ own what)) else (if what.toInt = 4 then (s_refused σ (k33t0_bookingOf σ own what)) else (s_refused σ (k33t0_bookingOf σ own what))))))) else (s_refused σ (k33t0_bookingOf σ own what))
set_option maxHeartbeats 1000000 in
set_option maxRecDepth 100000 in
theorem w_bookingOf {p : Program} {l : Launch} {e : Env} {R : Room} {s : State} {m : MethodId} {args : Array Value} {below : List Frame} {meth : Method} {c : Code} {H : Heap} {locs : List Loc} {cells slots : Nat} {Q : State → Prop} {D : va_G} {A : Nat → Prop} {cI cZ : ClassId} {h : Nat} {ls : Array Slot} (σ : St) (own : Int32) (what : Int32) (hI : MI σ) (E : mE p c cX6_bookingOf s m args wsX6_bookingOf D cI cZ) (hml : c.maxLocals = 3) (hA : ∀ i, i < 44 → A (h + i)) (hR : 2 ≤ R.frames ∧ 44 ≤ R.locals) (hf : cells ≤ R.cells ∧ slots ≤ R.slots) (hP : va_P D vwCl (mW cI cZ h σ) H) (hS : va_S A s.heap H locs) (hl : lv_has ls 3 [(0, .ref h), (1, .int own), (2, .int what)]) (kr : ∀ (pc : Nat) (rv : Int32) (H1 : Heap) (locs1 : List Loc) (ls1 : Array Slot), decode cX6_bookingOf pc = .ok (.ireturn, 1) → rv = q_bookingOf σ own what → va_P D vwCl (mW cI cZ h (s_bookingOf σ own what)) H1 → va_S A s.heap H1 locs1 → W p l e R s m args below meth c H1 locs1 cells slots Q (F0 m pc ls1 [.int rv])) : W p l e R s m args below meth c H locs cells slots Q (F0 m 0 ls []) := by
  have hx := E.1.1
  have hb := E.1.2
  have hts := E.2.1
  have hq : q_bookingOf σ own what = if (q_refused σ (k33t0_bookingOf σ own what)) = 0 then (if what.toInt = 0 then (σ 35 own.toNatClampNeg) else (if what.toInt = 1 then (σ 36 own.toNatClampNeg) else (if what.toInt = 2 then (σ 44 own.toNatClampNeg) else (if what.toInt = 3 then (σ 43 own.toNatClampNeg) else (if what.toInt = 4 then (σ 45 own.toNatClampNeg) else (q_fareOf (s_refused σ (k33t0_bookingOf σ own what)) own)))))) else (0 : Int32) := rfl
  have hs : s_bookingOf σ own what = if (q_refused σ (k33t0_bookingOf σ own what)) = 0 then (if what.toInt = 0 then (s_refused σ (k33t0_bookingOf σ own what)) else (if what.toInt = 1 then (s_refused σ (k33t0_bookingOf σ own what)) else (if what.toInt = 2 then (s_refused σ (k33t0_bookingOf σ own what)) else (if what.toInt = 3 then (s_refused σ (k33t0_bookingOf σ own what)) else (if what.toInt = 4 then (s_refused σ (k33t0_bookingOf σ own what)) else (s_refused σ (k33t0_bookingOf σ own what))))))) else (s_refused σ (k33t0_bookingOf σ own what)) := rfl
  refine lv_aload_n hx hb dX6_bookingOf_0 rfl (lv_at hl 0 rfl) ?_
  refine lv_iload_n hx hb dX6_bookingOf_1 rfl (lv_at hl 1 rfl) ?_
  refine lv_iconst (v := 0) hx hb dX6_bookingOf_2 (by decide) ?_
  refine lv_aload_n hx hb dX6_bookingOf_3 rfl (lv_at hl 0 rfl) ?_
  refine mg_bookings E hP (by decide +kernel) dX6_bookingOf_4 ?_
  refine lv_iconst (v := 1) hx hb dX6_bookingOf_7 (by decide) ?_
  refine lv_isub hx hb dX6_bookingOf_8 ?_
  refine mcS_i E hml hP hS (c_in l hA σ own (0 : Int32) ((σ 34 0) - (1 : Int32))) (va_cwS 3 hts gX6_bookingOf_X6_in rfl rfl rfl (by decide +kernel) ⟨Nat.le_trans (Nat.le_of_ble_eq_true rfl) hR.1, Nat.le_trans (Nat.le_of_ble_eq_true rfl) hR.2⟩) rfl hl.1 rfl (Nat.le_of_ble_eq_true rfl) dX6_bookingOf_9 hf (fun H locs hP hS => ?_)
  have J_1 : ∀ (y1_t0 : Int32) (H : Heap) (locs : List Loc) (ls : Array Slot), y1_t0 = (k33t0_bookingOf σ own what) → va_P D vwCl (mW cI cZ h σ) H → va_S A s.heap H locs → lv_has ls 3 [(0, .ref h), (1, .int own), (2, .int what)] → W p l e R s m args below meth c H locs cells slots Q (F0 m 33 ls [.int y1_t0, .ref h]) := by
    intro y1_t0 H locs ls e_y1_t0 hP hS hl
    subst e_y1_t0
    refine mcV_i E hml hP hS (c_refused l hA σ (k33t0_bookingOf σ own what)) (cwV 1 hts gX6_bookingOf_X6_refused rfl rfl rfl (by decide +kernel) ⟨Nat.le_trans (Nat.le_of_ble_eq_true rfl) hR.1, Nat.le_trans (Nat.le_of_ble_eq_true rfl) hR.2⟩) rfl hl.1 rfl (Nat.le_of_ble_eq_true rfl) dX6_bookingOf_33 hf (fun H locs hP hS => ?_)
    refine lv_if_eq (tgt := 41) hx hb dX6_bookingOf_36 (by decide) (fun c_3 => ?_) (fun c_3 => ?_)
    · have hq := hq.trans (if_pos c_3)
      have hs := hs.trans (if_pos c_3)
      have h_own := booking_in hI (rfp c_3)
      refine lv_iload_n hx hb dX6_bookingOf_41 rfl (lv_at hl 2 rfl) ?_
      by_cases c_4_0 : what.toInt = 0
      · have hq := hq.trans (if_pos c_4_0)
        have hs := hs.trans (if_pos c_4_0)
        refine lv_tableIn (tgt := 76) hx hb dX6_bookingOf_42 (by omega) (by omega) (by rw [c_4_0]; rfl) (by decide) ?_
        refine lv_aload_n hx hb dX6_bookingOf_76 rfl (lv_at hl 0 rfl) ?_
        refine mg_how E hP (by decide +kernel) dX6_bookingOf_77 ?_
        refine lv_iload_n hx hb dX6_bookingOf_80 rfl (lv_at hl 1 rfl) ?_
        refine mlv_how E hP h_own (v := σ 35 own.toNatClampNeg) rfl dX6_bookingOf_81 ?_
        exact kr _ (σ 35 own.toNatClampNeg) H locs ls dX6_bookingOf_82 hq.symm (by rw [hs]; exact hP) hS
      have hq := hq.trans (if_neg c_4_0)
      have hs := hs.trans (if_neg c_4_0)
      by_cases c_4_1 : what.toInt = 1
      · have hq := hq.trans (if_pos c_4_1)
        have hs := hs.trans (if_pos c_4_1)
        refine lv_tableIn (tgt := 83) hx hb dX6_bookingOf_42 (by omega) (by omega) (by rw [c_4_1]; rfl) (by decide) ?_
        refine lv_aload_n hx hb dX6_bookingOf_83 rfl (lv_at hl 0 rfl) ?_
        refine mg_on E hP (by decide +kernel) dX6_bookingOf_84 ?_
        refine lv_iload_n hx hb dX6_bookingOf_87 rfl (lv_at hl 1 rfl) ?_
        refine mlv_on E hP h_own (v := σ 36 own.toNatClampNeg) rfl dX6_bookingOf_88 ?_
        exact kr _ (σ 36 own.toNatClampNeg) H locs ls dX6_bookingOf_89 hq.symm (by rw [hs]; exact hP) hS
      have hq := hq.trans (if_neg c_4_1)
      have hs := hs.trans (if_neg c_4_1)
      by_cases c_4_2 : what.toInt = 2
      · have hq := hq.trans (if_pos c_4_2)
        have hs := hs.trans (if_pos c_4_2)
        refine lv_tableIn (tgt := 90) hx hb dX6_bookingOf_42 (by omega) (by omega) (by rw [c_4_2]; rfl) (by decide) ?_
        refine lv_aload_n hx hb dX6_bookingOf_90 rfl (lv_at hl 0 rfl) ?_
        refine mg_latest E hP (by decide +kernel) dX6_bookingOf_91 ?_
        refine lv_iload_n hx hb dX6_bookingOf_94 rfl (lv_at hl 1 rfl) ?_
        refine mlv_latest E hP h_own (v := σ 44 own.toNatClampNeg) rfl dX6_bookingOf_95 ?_
        exact kr _ (σ 44 own.toNatClampNeg) H locs ls dX6_bookingOf_96 hq.symm (by rw [hs]; exact hP) hS
      have hq := hq.trans (if_neg c_4_2)
      have hs := hs.trans (if_neg c_4_2)
      by_cases c_4_3 : what.toInt = 3
      · have hq := hq.trans (if_pos c_4_3)
        have hs := hs.trans (if_pos c_4_3)
        refine lv_tableIn (tgt := 97) hx hb dX6_bookingOf_42 (by omega) (by omega) (by rw [c_4_3]; rfl) (by decide) ?_
        refine lv_aload_n hx hb dX6_bookingOf_97 rfl (lv_at hl 0 rfl) ?_
        refine mg_points E hP (by decide +kernel) dX6_bookingOf_98 ?_
        refine lv_iload_n hx hb dX6_bookingOf_101 rfl (lv_at hl 1 rfl) ?_
        refine mlv_points E hP h_own (v := σ 43 own.toNatClampNeg) rfl dX6_bookingOf_102 ?_
        exact kr _ (σ 43 own.toNatClampNeg) H locs ls dX6_bookingOf_103 hq.symm (by rw [hs]; exact hP) hS
      have hq := hq.trans (if_neg c_4_3)
      have hs := hs.trans (if_neg c_4_3)
      by_cases c_4_4 : what.toInt = 4
      · have hq := hq.trans (if_pos c_4_4)
        have hs := hs.trans (if_pos c_4_4)
        refine lv_tableIn (tgt := 104) hx hb dX6_bookingOf_42 (by omega) (by omega) (by rw [c_4_4]; rfl) (by decide) ?_
        refine lv_aload_n hx hb dX6_bookingOf_104 rfl (lv_at hl 0 rfl) ?_
        refine mg_side E hP (by decide +kernel) dX6_bookingOf_105 ?_
        refine lv_iload_n hx hb dX6_bookingOf_108 rfl (lv_at hl 1 rfl) ?_
        refine mlv_side E hP h_own (v := σ 45 own.toNatClampNeg) rfl dX6_bookingOf_109 ?_
        exact kr _ (σ 45 own.toNatClampNeg) H locs ls dX6_bookingOf_110 hq.symm (by rw [hs]; exact hP) hS
      have hq := hq.trans (if_neg c_4_4)
      have hs := hs.trans (if_neg c_4_4)
      refine lv_tableOut (tgt := 111) hx hb dX6_bookingOf_42 (by omega) (by decide) ?_
      refine lv_aload_n hx hb dX6_bookingOf_111 rfl (lv_at hl 0 rfl) ?_
      refine lv_iload_n hx hb dX6_bookingOf_112 rfl (lv_at hl 1 rfl) ?_
      refine mcV_i E hml hP hS (c_fareOf l hA (s_refused σ (k33t0_bookingOf σ own what)) own (MK_s_refused hI).1 h_own) (cwV 1 hts gX6_bookingOf_X6_fareOf rfl rfl rfl (by decide +kernel) ⟨Nat.le_trans (Nat.le_of_ble_eq_true rfl) hR.1, Nat.le_trans (Nat.le_of_ble_eq_true rfl) hR.2⟩) rfl hl.1 rfl (Nat.le_of_ble_eq_true rfl) dX6_bookingOf_113 hf (fun H locs hP hS => ?_)
      exact kr _ (q_fareOf (s_refused σ (k33t0_bookingOf σ own what)) own) H locs ls dX6_bookingOf_116 hq.symm (by rw [hs]; exact hP) hS
    have hq := hq.trans (if_neg c_3)
    have hs := hs.trans (if_neg c_3)
    refine lv_iconst (v := 0) hx hb dX6_bookingOf_39 (by decide) ?_
    exact kr _ (0 : Int32) H locs ls dX6_bookingOf_40 hq.symm (by rw [hs]; exact hP) hS
  refine lv_if_ne (tgt := 19) hx hb dX6_bookingOf_12 (by decide) (fun c_1 => ?_) (fun c_1 => ?_)
  · refine lv_iload_n hx hb dX6_bookingOf_19 rfl (lv_at hl 2 rfl) ?_
    refine lv_iconst (v := 0) hx hb dX6_bookingOf_20 (by decide) ?_
    refine lv_iconst (v := 5) hx hb dX6_bookingOf_21 (by decide) ?_
    refine mcS_i E hml hP hS (c_in l hA σ what (0 : Int32) (5 : Int32)) (va_cwS 3 hts gX6_bookingOf_X6_in rfl rfl rfl (by decide +kernel) ⟨Nat.le_trans (Nat.le_of_ble_eq_true rfl) hR.1, Nat.le_trans (Nat.le_of_ble_eq_true rfl) hR.2⟩) rfl hl.1 rfl (Nat.le_of_ble_eq_true rfl) dX6_bookingOf_22 hf (fun H locs hP hS => ?_)
    refine lv_if_ne (tgt := 32) hx hb dX6_bookingOf_25 (by decide) (fun c_2 => ?_) (fun c_2 => ?_)
    · refine lv_iconst (v := 0) hx hb dX6_bookingOf_32 (by decide) ?_
      exact J_1 (0 : Int32) H locs ls ((if_neg c_2).symm.trans (if_neg c_1).symm) hP hS (lv_sub hl [0, 1, 2] rfl)
    refine lv_iconst (v := 2) hx hb dX6_bookingOf_28 (by decide) ?_
    refine lv_goto (tgt := 33) hx hb dX6_bookingOf_29 (by decide) ?_
    exact J_1 (2 : Int32) H locs ls ((if_pos c_2).symm.trans (if_neg c_1).symm) hP hS (lv_sub hl [0, 1, 2] rfl)
  refine lv_iconst (v := 1) hx hb dX6_bookingOf_15 (by decide) ?_
  refine lv_goto (tgt := 33) hx hb dX6_bookingOf_16 (by decide) ?_
  exact J_1 (1 : Int32) H locs ls (if_pos c_1).symm hP hS (lv_sub hl [0, 1, 2] rfl)
set_option maxHeartbeats 1000000 in
set_option maxRecDepth 100000 in
theorem c_bookingOf (l : Launch) {D : va_G} {A : Nat → Prop} {cI cZ : ClassId} {h : Nat} (hA : ∀ i, i < 44 → A (h + i)) (σ : St) (own : Int32) (what : Int32) (hI : MI σ) : Met l yX6_bookingOf wsX6_bookingOf ({ frames := 2, cells := 0, slots := 0, locals := 44 }) (va_Pc [.ref h, .int own, .int what] (mU D cI cZ h σ)) (va_Qi (fun r (_ : Unit) => r = q_bookingOf σ own what) (fun _ t => mU D cI cZ h (s_bookingOf σ own what) t) A) 0 0 A := by
  refine Met.ofW (cc := cX6_bookingOf) (maxL := 3) (ret := (some .int)) (by decide) rfl ?_
  intro p e s m args below meth c s₁ B hml hv
  obtain ⟨rfl, hP, hK⟩ := hv
  have E : mE p c cX6_bookingOf s m ([.ref h, .int own, .int what] : List Value).toArray wsX6_bookingOf D cI cZ := ⟨⟨B.exec, B.bytes⟩, atoms_spec (ws := wsX6_bookingOf) B.pre, (by decide +kernel), findClass_of_methodNamed B.named, hK⟩
  have hr := B.returns
  have hlocks := B.notSynchronized
  have hl := lv_entry ([.ref h, .int own, .int what]) (n := 3) (Nat.le_of_ble_eq_true rfl)
  rw [lg_entry_eq]
  generalize (lg_sl ([.ref h, .int own, .int what]) ++ List.replicate (3 - (lg_sl ([.ref h, .int own, .int what])).length) Slot.unset).toArray = ls at hl ⊢
  refine w_bookingOf σ own what hI E hml hA ⟨Nat.le_of_ble_eq_true rfl, Nat.le_of_ble_eq_true rfl⟩ ⟨Nat.zero_le _, Nat.zero_le _⟩ hP va_S.rf hl (fun pc v H1 locs1 ls1 hd hv hP1 hS1 => ?_)
  exact W.iret (v := v) B.exec B.bytes hr (fun t ht hW => ⟨⟨v, (), rfl, hv, by rw [ht]; exact hP1, va_K.moved hW.alike hK⟩, hS1.F ht⟩) hS1.2.2 hd
def k29t0_isOn (σ : St) (booking : Int32) (own : Int32) : Int32 := if (σ 36 booking.toNatClampNeg) = own then (if (q_in (σ 35 booking.toNatClampNeg) (1 : Int32) (2 : Int32)) = 0 then (0 : Int32) else (1 : Int32)) else (0 : Int32)
def q_isOn (σ : St) (booking : Int32) (own : Int32) : Int32 := k29t0_isOn σ booking own
set_option maxHeartbeats 1000000 in
set_option maxRecDepth 100000 in
theorem w_isOn {p : Program} {l : Launch} {e : Env} {R : Room} {s : State} {m : MethodId} {args : Array Value} {below : List Frame} {meth : Method} {c : Code} {H : Heap} {locs : List Loc} {cells slots : Nat} {Q : State → Prop} {D : va_G} {A : Nat → Prop} {cI cZ : ClassId} {h : Nat} {ls : Array Slot} (σ : St) (booking : Int32) (own : Int32) (h_booking : vp_in booking 100) (E : mE p c cX6_isOn s m args wsX6_isOn D cI cZ) (hml : c.maxLocals = 3) (hA : ∀ i, i < 44 → A (h + i)) (hR : 1 ≤ R.frames ∧ 22 ≤ R.locals) (hf : cells ≤ R.cells ∧ slots ≤ R.slots) (hP : va_P D vwCl (mW cI cZ h σ) H) (hS : va_S A s.heap H locs) (hl : lv_has ls 3 [(0, .ref h), (1, .int booking), (2, .int own)]) (kr : ∀ (pc : Nat) (rv : Int32) (H1 : Heap) (locs1 : List Loc) (ls1 : Array Slot), decode cX6_isOn pc = .ok (.ireturn, 1) → rv = q_isOn σ booking own → va_P D vwCl (mW cI cZ h (σ)) H1 → va_S A s.heap H1 locs1 → W p l e R s m args below meth c H1 locs1 cells slots Q (F0 m pc ls1 [.int rv])) : W p l e R s m args below meth c H locs cells slots Q (F0 m 0 ls []) := by
  have hx := E.1.1
  have hb := E.1.2
  have hts := E.2.1
  have hq : q_isOn σ booking own = k29t0_isOn σ booking own := rfl
  refine lv_aload_n hx hb dX6_isOn_0 rfl (lv_at hl 0 rfl) ?_
  refine mg_on E hP (by decide +kernel) dX6_isOn_1 ?_
  refine lv_iload_n hx hb dX6_isOn_4 rfl (lv_at hl 1 rfl) ?_
  refine ml_on E hP h_booking dX6_isOn_5 ?_
  refine lv_iload_n hx hb dX6_isOn_6 rfl (lv_at hl 2 rfl) ?_
  have J_1 : ∀ (y1_t0 : Int32) (H : Heap) (locs : List Loc) (ls : Array Slot), y1_t0 = (k29t0_isOn σ booking own) → va_P D vwCl (mW cI cZ h σ) H → va_S A s.heap H locs → lv_has ls 3 [(0, .ref h), (1, .int booking), (2, .int own)] → W p l e R s m args below meth c H locs cells slots Q (F0 m 29 ls [.int y1_t0]) := by
    intro y1_t0 H locs ls e_y1_t0 hP hS hl
    subst e_y1_t0
    exact kr _ (k29t0_isOn σ booking own) H locs ls dX6_isOn_29 hq.symm hP hS
  refine lv_icmp_ne (tgt := 28) hx hb dX6_isOn_7 (by decide) (fun c_1 => ?_) (fun c_1 => ?_)
  · refine lv_iconst (v := 0) hx hb dX6_isOn_28 (by decide) ?_
    exact J_1 (0 : Int32) H locs ls (if_neg c_1).symm hP hS (lv_sub hl [0, 1, 2] rfl)
  refine lv_aload_n hx hb dX6_isOn_10 rfl (lv_at hl 0 rfl) ?_
  refine mg_how E hP (by decide +kernel) dX6_isOn_11 ?_
  refine lv_iload_n hx hb dX6_isOn_14 rfl (lv_at hl 1 rfl) ?_
  refine ml_how E hP h_booking dX6_isOn_15 ?_
  refine lv_iconst (v := 1) hx hb dX6_isOn_16 (by decide) ?_
  refine lv_iconst (v := 2) hx hb dX6_isOn_17 (by decide) ?_
  refine mcS_i E hml hP hS (c_in l hA σ (σ 35 booking.toNatClampNeg) (1 : Int32) (2 : Int32)) (va_cwS 3 hts gX6_isOn_X6_in rfl rfl rfl (by decide +kernel) ⟨Nat.le_trans (Nat.le_of_ble_eq_true rfl) hR.1, Nat.le_trans (Nat.le_of_ble_eq_true rfl) hR.2⟩) rfl hl.1 rfl (Nat.le_of_ble_eq_true rfl) dX6_isOn_18 hf (fun H locs hP hS => ?_)
  refine lv_if_eq (tgt := 28) hx hb dX6_isOn_21 (by decide) (fun c_2 => ?_) (fun c_2 => ?_)
  · refine lv_iconst (v := 0) hx hb dX6_isOn_28 (by decide) ?_
    exact J_1 (0 : Int32) H locs ls ((if_pos c_2).symm.trans (if_pos c_1).symm) hP hS (lv_sub hl [0, 1, 2] rfl)
  refine lv_iconst (v := 1) hx hb dX6_isOn_24 (by decide) ?_
  refine lv_goto (tgt := 29) hx hb dX6_isOn_25 (by decide) ?_
  exact J_1 (1 : Int32) H locs ls ((if_neg c_2).symm.trans (if_pos c_1).symm) hP hS (lv_sub hl [0, 1, 2] rfl)
theorem b_isOn (σ : St) (booking : Int32) (own : Int32) : isB (q_isOn σ booking own) := by
  unfold q_isOn; (try unfold k29t0_isOn);  repeat (first | exact isB0 | exact isB1 | exact MI_z41 hI _ | apply isB_if)
set_option maxHeartbeats 1000000 in
set_option maxRecDepth 100000 in
theorem c_isOn (l : Launch) {D : va_G} {A : Nat → Prop} {cI cZ : ClassId} {h : Nat} (hA : ∀ i, i < 44 → A (h + i)) (σ : St) (booking : Int32) (own : Int32) (h_booking : vp_in booking 100) : Met l yX6_isOn wsX6_isOn ({ frames := 1, cells := 0, slots := 0, locals := 22 }) (va_Pc [.ref h, .int booking, .int own] (mU D cI cZ h σ)) (va_Qi (fun r (_ : Unit) => r = q_isOn σ booking own) (fun _ t => mU D cI cZ h (σ) t) A) 0 0 A := by
  refine Met.ofW (cc := cX6_isOn) (maxL := 3) (ret := (some .boolean)) (by decide) rfl ?_
  intro p e s m args below meth c s₁ B hml hv
  obtain ⟨rfl, hP, hK⟩ := hv
  have E : mE p c cX6_isOn s m ([.ref h, .int booking, .int own] : List Value).toArray wsX6_isOn D cI cZ := ⟨⟨B.exec, B.bytes⟩, atoms_spec (ws := wsX6_isOn) B.pre, (by decide +kernel), findClass_of_methodNamed B.named, hK⟩
  have hr := B.returns
  have hlocks := B.notSynchronized
  have hl := lv_entry ([.ref h, .int booking, .int own]) (n := 3) (Nat.le_of_ble_eq_true rfl)
  rw [lg_entry_eq]
  generalize (lg_sl ([.ref h, .int booking, .int own]) ++ List.replicate (3 - (lg_sl ([.ref h, .int booking, .int own])).length) Slot.unset).toArray = ls at hl ⊢
  refine w_isOn σ booking own h_booking E hml hA ⟨Nat.le_of_ble_eq_true rfl, Nat.le_of_ble_eq_true rfl⟩ ⟨Nat.zero_le _, Nat.zero_le _⟩ hP va_S.rf hl (fun pc v H1 locs1 ls1 hd hv hP1 hS1 => ?_)
  exact W.zret (v := v) B.exec B.bytes hr (by rw [hv]; exact isB_n (b_isOn σ booking own)) (fun t ht hW => ⟨⟨v, (), rfl, hv, by rw [ht]; exact hP1, va_K.moved hW.alike hK⟩, hS1.F ht⟩) hS1.2.2 hd
def lf_offAhead_5 (σ : St) (own : Int32) (booking : Int32) : Nat → Nat → Int32 → Int32
  | 0, _, x3 => x3
  | n + 1, i, x3 => if (σ 34 0) ≤ (nI i) then x3 else (lf_offAhead_5 σ own booking n (i + 1) (x3 + (if (q_isOn σ (nI i) own) = 0 then (0 : Int32) else (if (if (σ 42 (nI i).toNatClampNeg) = (σ 42 booking.toNatClampNeg) then (if (σ 46 (nI i).toNatClampNeg) ≤ (σ 46 booking.toNatClampNeg) then (0 : Int32) else (1 : Int32)) else (σ 42 (nI i).toNatClampNeg)) = 0 then (0 : Int32) else (1 : Int32)))))
def q_offAhead (σ : St) (own : Int32) (booking : Int32) : Int32 := (lf_offAhead_5 σ own booking 101 0 (0 : Int32))
set_option maxHeartbeats 1000000 in
set_option maxRecDepth 100000 in
theorem w_offAhead {p : Program} {l : Launch} {e : Env} {R : Room} {s : State} {m : MethodId} {args : Array Value} {below : List Frame} {meth : Method} {c : Code} {H : Heap} {locs : List Loc} {cells slots : Nat} {Q : State → Prop} {D : va_G} {A : Nat → Prop} {cI cZ : ClassId} {h : Nat} {ls : Array Slot} (σ : St) (own : Int32) (booking : Int32) (hI : MI σ) (h_booking : vp_in booking 100) (E : mE p c cX6_offAhead s m args wsX6_offAhead D cI cZ) (hml : c.maxLocals = 6) (hA : ∀ i, i < 44 → A (h + i)) (hR : 2 ≤ R.frames ∧ 44 ≤ R.locals) (hf : cells ≤ R.cells ∧ slots ≤ R.slots) (hP : va_P D vwCl (mW cI cZ h σ) H) (hS : va_S A s.heap H locs) (hl : lv_has ls 6 [(0, .ref h), (1, .int own), (2, .int booking)]) (kr : ∀ (pc : Nat) (rv : Int32) (H1 : Heap) (locs1 : List Loc) (ls1 : Array Slot), decode cX6_offAhead pc = .ok (.ireturn, 1) → rv = q_offAhead σ own booking → va_P D vwCl (mW cI cZ h (σ)) H1 → va_S A s.heap H1 locs1 → W p l e R s m args below meth c H1 locs1 cells slots Q (F0 m pc ls1 [.int rv])) : W p l e R s m args below meth c H locs cells slots Q (F0 m 0 ls []) := by
  have hx := E.1.1
  have hb := E.1.2
  have hts := E.2.1
  have hq : q_offAhead σ own booking = (lf_offAhead_5 σ own booking 101 0 (0 : Int32)) := rfl
  refine lv_iconst (v := 0) hx hb dX6_offAhead_0 (by decide) ?_
  refine lv_istore_n (lv' := [(3, .int (0 : Int32)), (0, .ref h), (1, .int own), (2, .int booking)]) hx hb dX6_offAhead_1 rfl hl (by decide) rfl (fun ls hl => ?_)
  refine lv_iconst (v := 0) hx hb dX6_offAhead_2 (by decide) ?_
  refine lv_istore (lv' := [(4, .int (0 : Int32)), (3, .int (0 : Int32)), (0, .ref h), (1, .int own), (2, .int booking)]) hx hb dX6_offAhead_3 hl (by decide) rfl (fun ls hl => ?_)
  obtain ⟨C, hC, eC⟩ := MI_n34 hI
  have L_6 : ∀ (n : Nat) (i : Nat) (x3 : Int32) (H : Heap) (locs : List Loc) (ls : Array Slot), i + n = 101 → i ≤ C → lf_offAhead_5 σ own booking n i x3 = lf_offAhead_5 σ own booking 101 0 (0 : Int32) → va_P D vwCl (mW cI cZ h σ) H → va_S A s.heap H locs → lv_has ls 6 [(4, .int (nI i)), (3, .int x3), (0, .ref h), (1, .int own), (2, .int booking)] → W p l e R s m args below meth c H locs cells slots Q (F0 m 5 ls []) := by
    intro n
    induction n with
    | zero => intro i x3 H locs ls hin hiC; omega
    | succ n ih =>
      intro i x3 H locs ls hin hiC hfin hP hS hl
      have hfin : (if (σ 34 0) ≤ (nI i) then x3 else (lf_offAhead_5 σ own booking n (i + 1) (x3 + (if (q_isOn σ (nI i) own) = 0 then (0 : Int32) else (if (if (σ 42 (nI i).toNatClampNeg) = (σ 42 booking.toNatClampNeg) then (if (σ 46 (nI i).toNatClampNeg) ≤ (σ 46 booking.toNatClampNeg) then (0 : Int32) else (1 : Int32)) else (σ 42 (nI i).toNatClampNeg)) = 0 then (0 : Int32) else (1 : Int32)))))) = lf_offAhead_5 σ own booking 101 0 (0 : Int32) := hfin
      refine lv_iload hx hb dX6_offAhead_5 (lv_at hl 0 rfl) ?_
      refine lv_aload_n hx hb dX6_offAhead_7 rfl (lv_at hl 2 rfl) ?_
      refine mg_bookings E hP (by decide +kernel) dX6_offAhead_8 ?_
      refine lv_icmp_ge (tgt := 92) hx hb dX6_offAhead_11 (by decide) (fun c_1 => ?_) (fun c_1 => ?_)
      · have hfin := (if_pos c_1).symm.trans hfin
        subst hfin
        have hl := lv_sub hl [1, 2, 3, 4] rfl
        refine lv_iload_n hx hb dX6_offAhead_92 rfl (lv_at hl 0 rfl) ?_
        exact kr _ (lf_offAhead_5 σ own booking 101 0 (0 : Int32)) H locs ls dX6_offAhead_93 hq.symm hP hS
      have hfin := (if_neg c_1).symm.trans hfin
      have hlt : i < C := m_lt eC c_1 (by omega) (by omega)
      refine lv_aload_n hx hb dX6_offAhead_14 rfl (lv_at hl 2 rfl) ?_
      refine mg_isLorry E hP (by decide +kernel) dX6_offAhead_15 ?_
      refine lv_iload hx hb dX6_offAhead_18 (lv_at hl 0 rfl) ?_
      refine ml_isLorry E hP (vp_in_nI (n := i) (by omega) (by omega)) dX6_offAhead_20 ?_
      refine lv_aload_n hx hb dX6_offAhead_21 rfl (lv_at hl 2 rfl) ?_
      refine mg_isLorry E hP (by decide +kernel) dX6_offAhead_22 ?_
      refine lv_iload_n hx hb dX6_offAhead_25 rfl (lv_at hl 4 rfl) ?_
      refine ml_isLorry E hP h_booking dX6_offAhead_26 ?_
      have J_2 : ∀ (y2_t0 : Int32) (H : Heap) (locs : List Loc) (ls : Array Slot), y2_t0 = (if (σ 42 (nI i).toNatClampNeg) = (σ 42 booking.toNatClampNeg) then (if (σ 46 (nI i).toNatClampNeg) ≤ (σ 46 booking.toNatClampNeg) then (0 : Int32) else (1 : Int32)) else (σ 42 (nI i).toNatClampNeg)) → va_P D vwCl (mW cI cZ h σ) H → va_S A s.heap H locs → lv_has ls 6 [(4, .int (nI i)), (3, .int x3), (0, .ref h), (1, .int own), (2, .int booking)] → W p l e R s m args below meth c H locs cells slots Q (F0 m 61 ls [.int y2_t0]) := by
        intro y2_t0 H locs ls e_y2_t0 hP hS hl
        subst e_y2_t0
        refine lv_istore (lv' := [(5, .int (if (σ 42 (nI i).toNatClampNeg) = (σ 42 booking.toNatClampNeg) then (if (σ 46 (nI i).toNatClampNeg) ≤ (σ 46 booking.toNatClampNeg) then (0 : Int32) else (1 : Int32)) else (σ 42 (nI i).toNatClampNeg))), (4, .int (nI i)), (3, .int x3), (0, .ref h), (1, .int own), (2, .int booking)]) hx hb dX6_offAhead_61 hl (by decide) rfl (fun ls hl => ?_)
        refine lv_iload_n hx hb dX6_offAhead_63 rfl (lv_at hl 2 rfl) ?_
        refine lv_aload_n hx hb dX6_offAhead_64 rfl (lv_at hl 3 rfl) ?_
        refine lv_iload hx hb dX6_offAhead_65 (lv_at hl 1 rfl) ?_
        refine lv_iload_n hx hb dX6_offAhead_67 rfl (lv_at hl 4 rfl) ?_
        refine mcV_i E hml hP hS (c_isOn l hA σ (nI i) own (vp_in_nI (n := i) (by omega) (by omega))) (cwV 2 hts gX6_offAhead_X6_isOn rfl rfl rfl (by decide +kernel) ⟨Nat.le_trans (Nat.le_of_ble_eq_true rfl) hR.1, Nat.le_trans (Nat.le_of_ble_eq_true rfl) hR.2⟩) rfl hl.1 rfl (Nat.le_of_ble_eq_true rfl) dX6_offAhead_68 hf (fun H locs hP hS => ?_)
        have J_4 : ∀ (y4_t0 : Int32) (H : Heap) (locs : List Loc) (ls : Array Slot), y4_t0 = (if (q_isOn σ (nI i) own) = 0 then (0 : Int32) else (if (if (σ 42 (nI i).toNatClampNeg) = (σ 42 booking.toNatClampNeg) then (if (σ 46 (nI i).toNatClampNeg) ≤ (σ 46 booking.toNatClampNeg) then (0 : Int32) else (1 : Int32)) else (σ 42 (nI i).toNatClampNeg)) = 0 then (0 : Int32) else (1 : Int32))) → va_P D vwCl (mW cI cZ h σ) H → va_S A s.heap H locs → lv_has ls 6 [(5, .int (if (σ 42 (nI i).toNatClampNeg) = (σ 42 booking.toNatClampNeg) then (if (σ 46 (nI i).toNatClampNeg) ≤ (σ 46 booking.toNatClampNeg) then (0 : Int32) else (1 : Int32)) else (σ 42 (nI i).toNatClampNeg))), (4, .int (nI i)), (3, .int x3), (0, .ref h), (1, .int own), (2, .int booking)] → W p l e R s m args below meth c H locs cells slots Q (F0 m 84 ls [.int y4_t0, .int x3]) := by
          intro y4_t0 H locs ls e_y4_t0 hP hS hl
          subst e_y4_t0
          refine lv_iadd hx hb dX6_offAhead_84 ?_
          refine lv_istore_n (lv' := [(3, .int (x3 + (if (q_isOn σ (nI i) own) = 0 then (0 : Int32) else (if (if (σ 42 (nI i).toNatClampNeg) = (σ 42 booking.toNatClampNeg) then (if (σ 46 (nI i).toNatClampNeg) ≤ (σ 46 booking.toNatClampNeg) then (0 : Int32) else (1 : Int32)) else (σ 42 (nI i).toNatClampNeg)) = 0 then (0 : Int32) else (1 : Int32))))), (5, .int (if (σ 42 (nI i).toNatClampNeg) = (σ 42 booking.toNatClampNeg) then (if (σ 46 (nI i).toNatClampNeg) ≤ (σ 46 booking.toNatClampNeg) then (0 : Int32) else (1 : Int32)) else (σ 42 (nI i).toNatClampNeg))), (4, .int (nI i)), (0, .ref h), (1, .int own), (2, .int booking)]) hx hb dX6_offAhead_85 rfl hl (by decide) rfl (fun ls hl => ?_)
          refine lv_iinc (v := nI (i + 1)) (lv' := [(4, .int (nI (i + 1))), (3, .int (x3 + (if (q_isOn σ (nI i) own) = 0 then (0 : Int32) else (if (if (σ 42 (nI i).toNatClampNeg) = (σ 42 booking.toNatClampNeg) then (if (σ 46 (nI i).toNatClampNeg) ≤ (σ 46 booking.toNatClampNeg) then (0 : Int32) else (1 : Int32)) else (σ 42 (nI i).toNatClampNeg)) = 0 then (0 : Int32) else (1 : Int32))))), (5, .int (if (σ 42 (nI i).toNatClampNeg) = (σ 42 booking.toNatClampNeg) then (if (σ 46 (nI i).toNatClampNeg) ≤ (σ 46 booking.toNatClampNeg) then (0 : Int32) else (1 : Int32)) else (σ 42 (nI i).toNatClampNeg))), (0, .ref h), (1, .int own), (2, .int booking)]) hx hb dX6_offAhead_86 hl (k := 2) rfl (by first | rfl | exact nI_1 _) (by decide) rfl (fun ls hl => ?_)
          refine lv_goto (tgt := 5) hx hb dX6_offAhead_89 (by decide) ?_
          exact ih (i + 1) (x3 + (if (q_isOn σ (nI i) own) = 0 then (0 : Int32) else (if (if (σ 42 (nI i).toNatClampNeg) = (σ 42 booking.toNatClampNeg) then (if (σ 46 (nI i).toNatClampNeg) ≤ (σ 46 booking.toNatClampNeg) then (0 : Int32) else (1 : Int32)) else (σ 42 (nI i).toNatClampNeg)) = 0 then (0 : Int32) else (1 : Int32)))) H locs ls (by omega) (by omega) hfin hP hS (lv_sub hl [0, 1, 3, 4, 5] rfl)
        refine lv_if_eq (tgt := 83) hx hb dX6_offAhead_71 (by decide) (fun c_4 => ?_) (fun c_4 => ?_)
        · refine lv_iconst (v := 0) hx hb dX6_offAhead_83 (by decide) ?_
          exact J_4 (0 : Int32) H locs ls (if_pos c_4).symm hP hS (lv_sub hl [0, 1, 2, 3, 4, 5] rfl)
        refine lv_iload hx hb dX6_offAhead_74 (lv_at hl 0 rfl) ?_
        refine lv_if_eq (tgt := 83) hx hb dX6_offAhead_76 (by decide) (fun c_5 => ?_) (fun c_5 => ?_)
        · refine lv_iconst (v := 0) hx hb dX6_offAhead_83 (by decide) ?_
          exact J_4 (0 : Int32) H locs ls ((if_pos c_5).symm.trans (if_neg c_4).symm) hP hS (lv_sub hl [0, 1, 2, 3, 4, 5] rfl)
        refine lv_iconst (v := 1) hx hb dX6_offAhead_79 (by decide) ?_
        refine lv_goto (tgt := 84) hx hb dX6_offAhead_80 (by decide) ?_
        exact J_4 (1 : Int32) H locs ls ((if_neg c_5).symm.trans (if_neg c_4).symm) hP hS (lv_sub hl [0, 1, 2, 3, 4, 5] rfl)
      refine lv_icmp_eq (tgt := 40) hx hb dX6_offAhead_27 (by decide) (fun c_2 => ?_) (fun c_2 => ?_)
      · refine lv_aload_n hx hb dX6_offAhead_40 rfl (lv_at hl 2 rfl) ?_
        refine mg_place E hP (by decide +kernel) dX6_offAhead_41 ?_
        refine lv_iload hx hb dX6_offAhead_44 (lv_at hl 0 rfl) ?_
        refine ml_place E hP (vp_in_nI (n := i) (by omega) (by omega)) dX6_offAhead_46 ?_
        refine lv_aload_n hx hb dX6_offAhead_47 rfl (lv_at hl 2 rfl) ?_
        refine mg_place E hP (by decide +kernel) dX6_offAhead_48 ?_
        refine lv_iload_n hx hb dX6_offAhead_51 rfl (lv_at hl 4 rfl) ?_
        refine ml_place E hP h_booking dX6_offAhead_52 ?_
        refine lv_icmp_le (tgt := 60) hx hb dX6_offAhead_53 (by decide) (fun c_3 => ?_) (fun c_3 => ?_)
        · refine lv_iconst (v := 0) hx hb dX6_offAhead_60 (by decide) ?_
          exact J_2 (0 : Int32) H locs ls ((if_pos c_3).symm.trans (if_pos c_2).symm) hP hS (lv_sub hl [0, 1, 2, 3, 4] rfl)
        refine lv_iconst (v := 1) hx hb dX6_offAhead_56 (by decide) ?_
        refine lv_goto (tgt := 61) hx hb dX6_offAhead_57 (by decide) ?_
        exact J_2 (1 : Int32) H locs ls ((if_neg c_3).symm.trans (if_pos c_2).symm) hP hS (lv_sub hl [0, 1, 2, 3, 4] rfl)
      refine lv_aload_n hx hb dX6_offAhead_30 rfl (lv_at hl 2 rfl) ?_
      refine mg_isLorry E hP (by decide +kernel) dX6_offAhead_31 ?_
      refine lv_iload hx hb dX6_offAhead_34 (lv_at hl 0 rfl) ?_
      refine ml_isLorry E hP (vp_in_nI (n := i) (by omega) (by omega)) dX6_offAhead_36 ?_
      refine lv_goto (tgt := 61) hx hb dX6_offAhead_37 (by decide) ?_
      exact J_2 (σ 42 (nI i).toNatClampNeg) H locs ls (if_neg c_2).symm hP hS (lv_sub hl [0, 1, 2, 3, 4] rfl)
  exact L_6 101 0 (0 : Int32) H locs ls (by omega) (Nat.zero_le _) rfl hP hS (lv_sub hl [0, 1, 2, 3, 4] rfl)
set_option maxHeartbeats 1000000 in
set_option maxRecDepth 100000 in
theorem c_offAhead (l : Launch) {D : va_G} {A : Nat → Prop} {cI cZ : ClassId} {h : Nat} (hA : ∀ i, i < 44 → A (h + i)) (σ : St) (own : Int32) (booking : Int32) (hI : MI σ) (h_booking : vp_in booking 100) : Met l yX6_offAhead wsX6_offAhead ({ frames := 2, cells := 0, slots := 0, locals := 44 }) (va_Pc [.ref h, .int own, .int booking] (mU D cI cZ h σ)) (va_Qi (fun r (_ : Unit) => r = q_offAhead σ own booking) (fun _ t => mU D cI cZ h (σ) t) A) 0 0 A := by
  refine Met.ofW (cc := cX6_offAhead) (maxL := 6) (ret := (some .int)) (by decide) rfl ?_
  intro p e s m args below meth c s₁ B hml hv
  obtain ⟨rfl, hP, hK⟩ := hv
  have E : mE p c cX6_offAhead s m ([.ref h, .int own, .int booking] : List Value).toArray wsX6_offAhead D cI cZ := ⟨⟨B.exec, B.bytes⟩, atoms_spec (ws := wsX6_offAhead) B.pre, (by decide +kernel), findClass_of_methodNamed B.named, hK⟩
  have hr := B.returns
  have hlocks := B.notSynchronized
  have hl := lv_entry ([.ref h, .int own, .int booking]) (n := 6) (Nat.le_of_ble_eq_true rfl)
  rw [lg_entry_eq]
  generalize (lg_sl ([.ref h, .int own, .int booking]) ++ List.replicate (6 - (lg_sl ([.ref h, .int own, .int booking])).length) Slot.unset).toArray = ls at hl ⊢
  refine w_offAhead σ own booking hI h_booking E hml hA ⟨Nat.le_of_ble_eq_true rfl, Nat.le_of_ble_eq_true rfl⟩ ⟨Nat.zero_le _, Nat.zero_le _⟩ hP va_S.rf hl (fun pc v H1 locs1 ls1 hd hv hP1 hS1 => ?_)
  exact W.iret (v := v) B.exec B.bytes hr (fun t ht hW => ⟨⟨v, (), rfl, hv, by rw [ht]; exact hP1, va_K.moved hW.alike hK⟩, hS1.F ht⟩) hS1.2.2 hd
def lf_plan_32 (σ : St) (own : Int32) (at_ : Int32) (isOff : Int32) : Nat → Nat → Int32 → Int32
  | 0, _, x4 => x4
  | n + 1, i, x4 => if (σ 34 0) ≤ (nI i) then x4 else (lf_plan_32 σ own at_ isOff n (i + 1) (if (q_isOn (s_refused σ (if (q_isSailing σ own) = 0 then (1 : Int32) else (if at_ < 0 then (1 : Int32) else (0 : Int32)))) (nI i) own) = 0 then x4 else (if (if isOff = 0 then (σ 46 (nI i).toNatClampNeg) else (q_offAhead (s_refused σ (if (q_isSailing σ own) = 0 then (1 : Int32) else (if at_ < 0 then (1 : Int32) else (0 : Int32)))) own (nI i))) = at_ then (nI i) else x4)))
def q_plan (σ : St) (own : Int32) (at_ : Int32) (isOff : Int32) : Int32 := if (q_refused σ (if (q_isSailing σ own) = 0 then (1 : Int32) else (if at_ < 0 then (1 : Int32) else (0 : Int32)))) = 0 then (lf_plan_32 σ own at_ isOff 101 0 ((-1) : Int32)) else (0 : Int32)
def s_plan (σ : St) (own : Int32) (at_ : Int32) (isOff : Int32) : St := if (q_refused σ (if (q_isSailing σ own) = 0 then (1 : Int32) else (if at_ < 0 then (1 : Int32) else (0 : Int32)))) = 0 then (s_refused σ (if (q_isSailing σ own) = 0 then (1 : Int32) else (if at_ < 0 then (1 : Int32) else (0 : Int32)))) else (s_refused σ (if (q_isSailing σ own) = 0 then (1 : Int32) else (if at_ < 0 then (1 : Int32) else (0 : Int32))))
set_option maxHeartbeats 1000000 in
set_option maxRecDepth 100000 in
theorem w_plan {p : Program} {l : Launch} {e : Env} {R : Room} {s : State} {m : MethodId} {args : Array Value} {below : List Frame} {meth : Method} {c : Code} {H : Heap} {locs : List Loc} {cells slots : Nat} {Q : State → Prop} {D : va_G} {A : Nat → Prop} {cI cZ : ClassId} {h : Nat} {ls : Array Slot} (σ : St) (own : Int32) (at_ : Int32) (isOff : Int32) (hI : MI σ) (E : mE p c cX6_plan s m args wsX6_plan D cI cZ) (hml : c.maxLocals = 6) (hA : ∀ i, i < 44 → A (h + i)) (hR : 3 ≤ R.frames ∧ 69 ≤ R.locals) (hf : cells ≤ R.cells ∧ slots ≤ R.slots) (hP : va_P D vwCl (mW cI cZ h σ) H) (hS : va_S A s.heap H locs) (hl : lv_has ls 6 [(0, .ref h), (1, .int own), (2, .int at_), (3, .int isOff)]) (kr : ∀ (pc : Nat) (rv : Int32) (H1 : Heap) (locs1 : List Loc) (ls1 : Array Slot), decode cX6_plan pc = .ok (.ireturn, 1) → rv = q_plan σ own at_ isOff → va_P D vwCl (mW cI cZ h (s_plan σ own at_ isOff)) H1 → va_S A s.heap H1 locs1 → W p l e R s m args below meth c H1 locs1 cells slots Q (F0 m pc ls1 [.int rv])) : W p l e R s m args below meth c H locs cells slots Q (F0 m 0 ls []) := by
  have hx := E.1.1
  have hb := E.1.2
  have hts := E.2.1
  have hq : q_plan σ own at_ isOff = if (q_refused σ (if (q_isSailing σ own) = 0 then (1 : Int32) else (if at_ < 0 then (1 : Int32) else (0 : Int32)))) = 0 then (lf_plan_32 σ own at_ isOff 101 0 ((-1) : Int32)) else (0 : Int32) := rfl
  have hs : s_plan σ own at_ isOff = if (q_refused σ (if (q_isSailing σ own) = 0 then (1 : Int32) else (if at_ < 0 then (1 : Int32) else (0 : Int32)))) = 0 then (s_refused σ (if (q_isSailing σ own) = 0 then (1 : Int32) else (if at_ < 0 then (1 : Int32) else (0 : Int32)))) else (s_refused σ (if (q_isSailing σ own) = 0 then (1 : Int32) else (if at_ < 0 then (1 : Int32) else (0 : Int32)))) := rfl
  refine lv_aload_n hx hb dX6_plan_0 rfl (lv_at hl 0 rfl) ?_
  refine lv_aload_n hx hb dX6_plan_1 rfl (lv_at hl 0 rfl) ?_
  refine lv_iload_n hx hb dX6_plan_2 rfl (lv_at hl 1 rfl) ?_
  refine mcV_i E hml hP hS (c_isSailing l hA σ own) (cwV 1 hts gX6_plan_X6_isSailing rfl rfl rfl (by decide +kernel) ⟨Nat.le_trans (Nat.le_of_ble_eq_true rfl) hR.1, Nat.le_trans (Nat.le_of_ble_eq_true rfl) hR.2⟩) rfl hl.1 rfl (Nat.le_of_ble_eq_true rfl) dX6_plan_3 hf (fun H locs hP hS => ?_)
  have J_1 : ∀ (y1_t0 : Int32) (H : Heap) (locs : List Loc) (ls : Array Slot), y1_t0 = (if (q_isSailing σ own) = 0 then (1 : Int32) else (if at_ < 0 then (1 : Int32) else (0 : Int32))) → va_P D vwCl (mW cI cZ h σ) H → va_S A s.heap H locs → lv_has ls 6 [(0, .ref h), (1, .int own), (2, .int at_), (3, .int isOff)] → W p l e R s m args below meth c H locs cells slots Q (F0 m 18 ls [.int y1_t0, .ref h]) := by
    intro y1_t0 H locs ls e_y1_t0 hP hS hl
    subst e_y1_t0
    refine mcV_i E hml hP hS (c_refused l hA σ (if (q_isSailing σ own) = 0 then (1 : Int32) else (if at_ < 0 then (1 : Int32) else (0 : Int32)))) (cwV 1 hts gX6_plan_X6_refused rfl rfl rfl (by decide +kernel) ⟨Nat.le_trans (Nat.le_of_ble_eq_true rfl) hR.1, Nat.le_trans (Nat.le_of_ble_eq_true rfl) hR.2⟩) rfl hl.1 rfl (Nat.le_of_ble_eq_true rfl) dX6_plan_18 hf (fun H locs hP hS => ?_)
    refine lv_if_eq (tgt := 26) hx hb dX6_plan_21 (by decide) (fun c_3 => ?_) (fun c_3 => ?_)
    · have hq := hq.trans (if_pos c_3)
      have hs := hs.trans (if_pos c_3)
      refine lv_iconst (v := -1) hx hb dX6_plan_26 (by decide) ?_
      refine lv_istore (lv' := [(4, .int ((-1) : Int32)), (0, .ref h), (1, .int own), (2, .int at_), (3, .int isOff)]) hx hb dX6_plan_27 hl (by decide) rfl (fun ls hl => ?_)
      refine lv_iconst (v := 0) hx hb dX6_plan_29 (by decide) ?_
      refine lv_istore (lv' := [(5, .int (0 : Int32)), (4, .int ((-1) : Int32)), (0, .ref h), (1, .int own), (2, .int at_), (3, .int isOff)]) hx hb dX6_plan_30 hl (by decide) rfl (fun ls hl => ?_)
      obtain ⟨C, hC, eC⟩ := MI_n34 hI
      have L_8 : ∀ (n : Nat) (i : Nat) (x4 : Int32) (H : Heap) (locs : List Loc) (ls : Array Slot), i + n = 101 → i ≤ C → lf_plan_32 σ own at_ isOff n i x4 = lf_plan_32 σ own at_ isOff 101 0 ((-1) : Int32) → va_P D vwCl (mW cI cZ h (s_refused σ (if (q_isSailing σ own) = 0 then (1 : Int32) else (if at_ < 0 then (1 : Int32) else (0 : Int32))))) H → va_S A s.heap H locs → lv_has ls 6 [(5, .int (nI i)), (4, .int x4), (0, .ref h), (1, .int own), (2, .int at_), (3, .int isOff)] → W p l e R s m args below meth c H locs cells slots Q (F0 m 32 ls []) := by
        intro n
        induction n with
        | zero => intro i x4 H locs ls hin hiC; omega
        | succ n ih =>
          intro i x4 H locs ls hin hiC hfin hP hS hl
          have hfin : (if (σ 34 0) ≤ (nI i) then x4 else (lf_plan_32 σ own at_ isOff n (i + 1) (if (q_isOn (s_refused σ (if (q_isSailing σ own) = 0 then (1 : Int32) else (if at_ < 0 then (1 : Int32) else (0 : Int32)))) (nI i) own) = 0 then x4 else (if (if isOff = 0 then (σ 46 (nI i).toNatClampNeg) else (q_offAhead (s_refused σ (if (q_isSailing σ own) = 0 then (1 : Int32) else (if at_ < 0 then (1 : Int32) else (0 : Int32)))) own (nI i))) = at_ then (nI i) else x4)))) = lf_plan_32 σ own at_ isOff 101 0 ((-1) : Int32) := hfin
          refine lv_iload hx hb dX6_plan_32 (lv_at hl 0 rfl) ?_
          refine lv_aload_n hx hb dX6_plan_34 rfl (lv_at hl 2 rfl) ?_
          refine mgv_bookings E hP (v := σ 34 0) rfl (by decide +kernel) dX6_plan_35 ?_
          refine lv_icmp_ge (tgt := 91) hx hb dX6_plan_38 (by decide) (fun c_4 => ?_) (fun c_4 => ?_)
          · have hfin := (if_pos c_4).symm.trans hfin
            subst hfin
            have hl := lv_sub hl [1, 2, 3, 4, 5] rfl
            refine lv_iload hx hb dX6_plan_91 (lv_at hl 0 rfl) ?_
            exact kr _ (lf_plan_32 σ own at_ isOff 101 0 ((-1) : Int32)) H locs ls dX6_plan_93 hq.symm (by rw [hs]; exact hP) hS
          have hfin := (if_neg c_4).symm.trans hfin
          have hlt : i < C := m_lt eC c_4 (by omega) (by omega)
          refine lv_aload_n hx hb dX6_plan_41 rfl (lv_at hl 2 rfl) ?_
          refine lv_iload hx hb dX6_plan_42 (lv_at hl 0 rfl) ?_
          refine lv_iload_n hx hb dX6_plan_44 rfl (lv_at hl 3 rfl) ?_
          refine mcV_i E hml hP hS (c_isOn l hA (s_refused σ (if (q_isSailing σ own) = 0 then (1 : Int32) else (if at_ < 0 then (1 : Int32) else (0 : Int32)))) (nI i) own (vp_in_nI (n := i) (by omega) (by omega))) (cwV 2 hts gX6_plan_X6_isOn rfl rfl rfl (by decide +kernel) ⟨Nat.le_trans (Nat.le_of_ble_eq_true rfl) hR.1, Nat.le_trans (Nat.le_of_ble_eq_true rfl) hR.2⟩) rfl hl.1 rfl (Nat.le_of_ble_eq_true rfl) dX6_plan_45 hf (fun H locs hP hS => ?_)
          have J_5 : ∀ (y5_t0 : Int32) (H : Heap) (locs : List Loc) (ls : Array Slot), y5_t0 = (if (q_isOn (s_refused σ (if (q_isSailing σ own) = 0 then (1 : Int32) else (if at_ < 0 then (1 : Int32) else (0 : Int32)))) (nI i) own) = 0 then x4 else (if (if isOff = 0 then (σ 46 (nI i).toNatClampNeg) else (q_offAhead (s_refused σ (if (q_isSailing σ own) = 0 then (1 : Int32) else (if at_ < 0 then (1 : Int32) else (0 : Int32)))) own (nI i))) = at_ then (nI i) else x4)) → va_P D vwCl (mW cI cZ h (s_refused σ (if (q_isSailing σ own) = 0 then (1 : Int32) else (if at_ < 0 then (1 : Int32) else (0 : Int32))))) H → va_S A s.heap H locs → lv_has ls 6 [(5, .int (nI i)), (4, .int x4), (0, .ref h), (1, .int own), (2, .int at_), (3, .int isOff)] → W p l e R s m args below meth c H locs cells slots Q (F0 m 83 ls [.int y5_t0]) := by
            intro y5_t0 H locs ls e_y5_t0 hP hS hl
            subst e_y5_t0
            refine lv_istore (lv' := [(4, .int (if (q_isOn (s_refused σ (if (q_isSailing σ own) = 0 then (1 : Int32) else (if at_ < 0 then (1 : Int32) else (0 : Int32)))) (nI i) own) = 0 then x4 else (if (if isOff = 0 then (σ 46 (nI i).toNatClampNeg) else (q_offAhead (s_refused σ (if (q_isSailing σ own) = 0 then (1 : Int32) else (if at_ < 0 then (1 : Int32) else (0 : Int32)))) own (nI i))) = at_ then (nI i) else x4))), (5, .int (nI i)), (0, .ref h), (1, .int own), (2, .int at_), (3, .int isOff)]) hx hb dX6_plan_83 hl (by decide) rfl (fun ls hl => ?_)
            refine lv_iinc (v := nI (i + 1)) (lv' := [(5, .int (nI (i + 1))), (4, .int (if (q_isOn (s_refused σ (if (q_isSailing σ own) = 0 then (1 : Int32) else (if at_ < 0 then (1 : Int32) else (0 : Int32)))) (nI i) own) = 0 then x4 else (if (if isOff = 0 then (σ 46 (nI i).toNatClampNeg) else (q_offAhead (s_refused σ (if (q_isSailing σ own) = 0 then (1 : Int32) else (if at_ < 0 then (1 : Int32) else (0 : Int32)))) own (nI i))) = at_ then (nI i) else x4))), (0, .ref h), (1, .int own), (2, .int at_), (3, .int isOff)]) hx hb dX6_plan_85 hl (k := 1) rfl (by first | rfl | exact nI_1 _) (by decide) rfl (fun ls hl => ?_)
            refine lv_goto (tgt := 32) hx hb dX6_plan_88 (by decide) ?_
            exact ih (i + 1) (if (q_isOn (s_refused σ (if (q_isSailing σ own) = 0 then (1 : Int32) else (if at_ < 0 then (1 : Int32) else (0 : Int32)))) (nI i) own) = 0 then x4 else (if (if isOff = 0 then (σ 46 (nI i).toNatClampNeg) else (q_offAhead (s_refused σ (if (q_isSailing σ own) = 0 then (1 : Int32) else (if at_ < 0 then (1 : Int32) else (0 : Int32)))) own (nI i))) = at_ then (nI i) else x4)) H locs ls (by omega) (by omega) hfin hP hS (lv_sub hl [0, 1, 2, 3, 4, 5] rfl)
          refine lv_if_eq (tgt := 81) hx hb dX6_plan_48 (by decide) (fun c_5 => ?_) (fun c_5 => ?_)
          · refine lv_iload hx hb dX6_plan_81 (lv_at hl 1 rfl) ?_
            exact J_5 x4 H locs ls (if_pos c_5).symm hP hS (lv_sub hl [0, 1, 2, 3, 4, 5] rfl)
          refine lv_iload_n hx hb dX6_plan_51 rfl (lv_at hl 5 rfl) ?_
          have J_6 : ∀ (y6_t0 : Int32) (H : Heap) (locs : List Loc) (ls : Array Slot), y6_t0 = (if isOff = 0 then (σ 46 (nI i).toNatClampNeg) else (q_offAhead (s_refused σ (if (q_isSailing σ own) = 0 then (1 : Int32) else (if at_ < 0 then (1 : Int32) else (0 : Int32)))) own (nI i))) → va_P D vwCl (mW cI cZ h (s_refused σ (if (q_isSailing σ own) = 0 then (1 : Int32) else (if at_ < 0 then (1 : Int32) else (0 : Int32))))) H → va_S A s.heap H locs → lv_has ls 6 [(5, .int (nI i)), (4, .int x4), (0, .ref h), (1, .int own), (2, .int at_), (3, .int isOff)] → W p l e R s m args below meth c H locs cells slots Q (F0 m 72 ls [.int y6_t0]) := by
            intro y6_t0 H locs ls e_y6_t0 hP hS hl
            subst e_y6_t0
            refine lv_iload_n hx hb dX6_plan_72 rfl (lv_at hl 4 rfl) ?_
            refine lv_icmp_ne (tgt := 81) hx hb dX6_plan_73 (by decide) (fun c_7 => ?_) (fun c_7 => ?_)
            · refine lv_iload hx hb dX6_plan_81 (lv_at hl 1 rfl) ?_
              exact J_5 x4 H locs ls ((if_neg c_7).symm.trans (if_neg c_5).symm) hP hS (lv_sub hl [0, 1, 2, 3, 4, 5] rfl)
            refine lv_iload hx hb dX6_plan_76 (lv_at hl 0 rfl) ?_
            refine lv_goto (tgt := 83) hx hb dX6_plan_78 (by decide) ?_
            exact J_5 (nI i) H locs ls ((if_pos c_7).symm.trans (if_neg c_5).symm) hP hS (lv_sub hl [0, 1, 2, 3, 4, 5] rfl)
          refine lv_if_eq (tgt := 65) hx hb dX6_plan_52 (by decide) (fun c_6 => ?_) (fun c_6 => ?_)
          · refine lv_aload_n hx hb dX6_plan_65 rfl (lv_at hl 2 rfl) ?_
            refine mg_place E hP (by decide +kernel) dX6_plan_66 ?_
            refine lv_iload hx hb dX6_plan_69 (lv_at hl 0 rfl) ?_
            refine mlv_place E hP (vp_in_nI (n := i) (by omega) (by omega)) (v := σ 46 (nI i).toNatClampNeg) rfl dX6_plan_71 ?_
            exact J_6 (σ 46 (nI i).toNatClampNeg) H locs ls (if_pos c_6).symm hP hS (lv_sub hl [0, 1, 2, 3, 4, 5] rfl)
          refine lv_aload_n hx hb dX6_plan_55 rfl (lv_at hl 2 rfl) ?_
          refine lv_iload_n hx hb dX6_plan_56 rfl (lv_at hl 3 rfl) ?_
          refine lv_iload hx hb dX6_plan_57 (lv_at hl 0 rfl) ?_
          refine mcV_i E hml hP hS (c_offAhead l hA (s_refused σ (if (q_isSailing σ own) = 0 then (1 : Int32) else (if at_ < 0 then (1 : Int32) else (0 : Int32)))) own (nI i) (MK_s_refused hI).1 (vp_in_nI (n := i) (by omega) (by omega))) (cwV 2 hts gX6_plan_X6_offAhead rfl rfl rfl (by decide +kernel) ⟨Nat.le_trans (Nat.le_of_ble_eq_true rfl) hR.1, Nat.le_trans (Nat.le_of_ble_eq_true rfl) hR.2⟩) rfl hl.1 rfl (Nat.le_of_ble_eq_true rfl) dX6_plan_59 hf (fun H locs hP hS => ?_)
          refine lv_goto (tgt := 72) hx hb dX6_plan_62 (by decide) ?_
          exact J_6 (q_offAhead (s_refused σ (if (q_isSailing σ own) = 0 then (1 : Int32) else (if at_ < 0 then (1 : Int32) else (0 : Int32)))) own (nI i)) H locs ls (if_neg c_6).symm hP hS (lv_sub hl [0, 1, 2, 3, 4, 5] rfl)
      exact L_8 101 0 ((-1) : Int32) H locs ls (by omega) (Nat.zero_le _) rfl hP hS (lv_sub hl [0, 1, 2, 3, 4, 5] rfl)
    have hq := hq.trans (if_neg c_3)
    have hs := hs.trans (if_neg c_3)
    refine lv_iconst (v := 0) hx hb dX6_plan_24 (by decide) ?_
    exact kr _ (0 : Int32) H locs ls dX6_plan_25 hq.symm (by rw [hs]; exact hP) hS
  refine lv_if_eq (tgt := 17) hx hb dX6_plan_6 (by decide) (fun c_1 => ?_) (fun c_1 => ?_)
  · refine lv_iconst (v := 1) hx hb dX6_plan_17 (by decide) ?_
    exact J_1 (1 : Int32) H locs ls (if_pos c_1).symm hP hS (lv_sub hl [0, 1, 2, 3] rfl)
  refine lv_iload_n hx hb dX6_plan_9 rfl (lv_at hl 2 rfl) ?_
  refine lv_if_lt (tgt := 17) hx hb dX6_plan_10 (by decide) (fun c_2 => ?_) (fun c_2 => ?_)
  · refine lv_iconst (v := 1) hx hb dX6_plan_17 (by decide) ?_
    exact J_1 (1 : Int32) H locs ls ((if_pos c_2).symm.trans (if_neg c_1).symm) hP hS (lv_sub hl [0, 1, 2, 3] rfl)
  refine lv_iconst (v := 0) hx hb dX6_plan_13 (by decide) ?_
  refine lv_goto (tgt := 18) hx hb dX6_plan_14 (by decide) ?_
  exact J_1 (0 : Int32) H locs ls ((if_neg c_2).symm.trans (if_neg c_1).symm) hP hS (lv_sub hl [0, 1, 2, 3] rfl)
set_option maxHeartbeats 1000000 in
set_option maxRecDepth 100000 in
theorem c_plan (l : Launch) {D : va_G} {A : Nat → Prop} {cI cZ : ClassId} {h : Nat} (hA : ∀ i, i < 44 → A (h + i)) (σ : St) (own : Int32) (at_ : Int32) (isOff : Int32) (hI : MI σ) : Met l yX6_plan wsX6_plan ({ frames := 3, cells := 0, slots := 0, locals := 69 }) (va_Pc [.ref h, .int own, .int at_, .int isOff] (mU D cI cZ h σ)) (va_Qi (fun r (_ : Unit) => r = q_plan σ own at_ isOff) (fun _ t => mU D cI cZ h (s_plan σ own at_ isOff) t) A) 0 0 A := by
  refine Met.ofW (cc := cX6_plan) (maxL := 6) (ret := (some .int)) (by decide) rfl ?_
  intro p e s m args below meth c s₁ B hml hv
  obtain ⟨rfl, hP, hK⟩ := hv
  have E : mE p c cX6_plan s m ([.ref h, .int own, .int at_, .int isOff] : List Value).toArray wsX6_plan D cI cZ := ⟨⟨B.exec, B.bytes⟩, atoms_spec (ws := wsX6_plan) B.pre, (by decide +kernel), findClass_of_methodNamed B.named, hK⟩
  have hr := B.returns
  have hlocks := B.notSynchronized
  have hl := lv_entry ([.ref h, .int own, .int at_, .int isOff]) (n := 6) (Nat.le_of_ble_eq_true rfl)
  rw [lg_entry_eq]
  generalize (lg_sl ([.ref h, .int own, .int at_, .int isOff]) ++ List.replicate (6 - (lg_sl ([.ref h, .int own, .int at_, .int isOff])).length) Slot.unset).toArray = ls at hl ⊢
  refine w_plan σ own at_ isOff hI E hml hA ⟨Nat.le_of_ble_eq_true rfl, Nat.le_of_ble_eq_true rfl⟩ ⟨Nat.zero_le _, Nat.zero_le _⟩ hP va_S.rf hl (fun pc v H1 locs1 ls1 hd hv hP1 hS1 => ?_)
  exact W.iret (v := v) B.exec B.bytes hr (fun t ht hW => ⟨⟨v, (), rfl, hv, by rw [ht]; exact hP1, va_K.moved hW.alike hK⟩, hS1.F ht⟩) hS1.2.2 hd
def k115t0_gap (σ : St) (pier : Int32) (what : Int32) : Int32 := if what = 0 then ((σ 1 0) - (σ 8 pier.toNatClampNeg)) else (if what = (1 : Int32) then (if (if ((σ 1 0) - (σ 8 pier.toNatClampNeg)) ≤ (σ 10 pier.toNatClampNeg) then (0 : Int32) else (1 : Int32)) = 0 then (σ 10 pier.toNatClampNeg) else ((σ 1 0) - (σ 8 pier.toNatClampNeg))) else (if (if ((σ 1 0) - (σ 8 pier.toNatClampNeg)) ≤ (σ 10 pier.toNatClampNeg) then (0 : Int32) else (1 : Int32)) = 0 then (σ 11 pier.toNatClampNeg) else (σ 9 pier.toNatClampNeg)))
def q_gap (σ : St) (pier : Int32) (what : Int32) : Int32 := if (q_refused σ (if (q_isPier σ pier) = 0 then (1 : Int32) else (if (q_in what (0 : Int32) (2 : Int32)) = 0 then (2 : Int32) else (0 : Int32)))) = 0 then (k115t0_gap σ pier what) else (0 : Int32)
def s_gap (σ : St) (pier : Int32) (what : Int32) : St := if (q_refused σ (if (q_isPier σ pier) = 0 then (1 : Int32) else (if (q_in what (0 : Int32) (2 : Int32)) = 0 then (2 : Int32) else (0 : Int32)))) = 0 then (s_refused σ (if (q_isPier σ pier) = 0 then (1 : Int32) else (if (q_in what (0 : Int32) (2 : Int32)) = 0 then (2 : Int32) else (0 : Int32)))) else (s_refused σ (if (q_isPier σ pier) = 0 then (1 : Int32) else (if (q_in what (0 : Int32) (2 : Int32)) = 0 then (2 : Int32) else (0 : Int32))))
set_option maxHeartbeats 1000000 in
set_option maxRecDepth 100000 in
theorem w_gap {p : Program} {l : Launch} {e : Env} {R : Room} {s : State} {m : MethodId} {args : Array Value} {below : List Frame} {meth : Method} {c : Code} {H : Heap} {locs : List Loc} {cells slots : Nat} {Q : State → Prop} {D : va_G} {A : Nat → Prop} {cI cZ : ClassId} {h : Nat} {ls : Array Slot} (σ : St) (pier : Int32) (what : Int32) (hI : MI σ) (E : mE p c cX6_gap s m args wsX6_gap D cI cZ) (hml : c.maxLocals = 5) (hA : ∀ i, i < 44 → A (h + i)) (hR : 2 ≤ R.frames ∧ 43 ≤ R.locals) (hf : cells ≤ R.cells ∧ slots ≤ R.slots) (hP : va_P D vwCl (mW cI cZ h σ) H) (hS : va_S A s.heap H locs) (hl : lv_has ls 5 [(0, .ref h), (1, .int pier), (2, .int what)]) (kr : ∀ (pc : Nat) (rv : Int32) (H1 : Heap) (locs1 : List Loc) (ls1 : Array Slot), decode cX6_gap pc = .ok (.ireturn, 1) → rv = q_gap σ pier what → va_P D vwCl (mW cI cZ h (s_gap σ pier what)) H1 → va_S A s.heap H1 locs1 → W p l e R s m args below meth c H1 locs1 cells slots Q (F0 m pc ls1 [.int rv])) : W p l e R s m args below meth c H locs cells slots Q (F0 m 0 ls []) := by
  have hx := E.1.1
  have hb := E.1.2
  have hts := E.2.1
  have hq : q_gap σ pier what = if (q_refused σ (if (q_isPier σ pier) = 0 then (1 : Int32) else (if (q_in what (0 : Int32) (2 : Int32)) = 0 then (2 : Int32) else (0 : Int32)))) = 0 then (k115t0_gap σ pier what) else (0 : Int32) := rfl
  have hs : s_gap σ pier what = if (q_refused σ (if (q_isPier σ pier) = 0 then (1 : Int32) else (if (q_in what (0 : Int32) (2 : Int32)) = 0 then (2 : Int32) else (0 : Int32)))) = 0 then (s_refused σ (if (q_isPier σ pier) = 0 then (1 : Int32) else (if (q_in what (0 : Int32) (2 : Int32)) = 0 then (2 : Int32) else (0 : Int32)))) else (s_refused σ (if (q_isPier σ pier) = 0 then (1 : Int32) else (if (q_in what (0 : Int32) (2 : Int32)) = 0 then (2 : Int32) else (0 : Int32)))) := rfl
  refine lv_aload_n hx hb dX6_gap_0 rfl (lv_at hl 0 rfl) ?_
  refine lv_aload_n hx hb dX6_gap_1 rfl (lv_at hl 0 rfl) ?_
  refine lv_iload_n hx hb dX6_gap_2 rfl (lv_at hl 1 rfl) ?_
  refine mcV_i E hml hP hS (c_isPier l hA σ pier) (cwV 1 hts gX6_gap_X6_isPier rfl rfl rfl (by decide +kernel) ⟨Nat.le_trans (Nat.le_of_ble_eq_true rfl) hR.1, Nat.le_trans (Nat.le_of_ble_eq_true rfl) hR.2⟩) rfl hl.1 rfl (Nat.le_of_ble_eq_true rfl) dX6_gap_3 hf (fun H locs hP hS => ?_)
  have J_1 : ∀ (y1_t0 : Int32) (H : Heap) (locs : List Loc) (ls : Array Slot), y1_t0 = (if (q_isPier σ pier) = 0 then (1 : Int32) else (if (q_in what (0 : Int32) (2 : Int32)) = 0 then (2 : Int32) else (0 : Int32))) → va_P D vwCl (mW cI cZ h σ) H → va_S A s.heap H locs → lv_has ls 5 [(0, .ref h), (1, .int pier), (2, .int what)] → W p l e R s m args below meth c H locs cells slots Q (F0 m 27 ls [.int y1_t0, .ref h]) := by
    intro y1_t0 H locs ls e_y1_t0 hP hS hl
    subst e_y1_t0
    refine mcV_i E hml hP hS (c_refused l hA σ (if (q_isPier σ pier) = 0 then (1 : Int32) else (if (q_in what (0 : Int32) (2 : Int32)) = 0 then (2 : Int32) else (0 : Int32)))) (cwV 1 hts gX6_gap_X6_refused rfl rfl rfl (by decide +kernel) ⟨Nat.le_trans (Nat.le_of_ble_eq_true rfl) hR.1, Nat.le_trans (Nat.le_of_ble_eq_true rfl) hR.2⟩) rfl hl.1 rfl (Nat.le_of_ble_eq_true rfl) dX6_gap_27 hf (fun H locs hP hS => ?_)
    refine lv_if_eq (tgt := 35) hx hb dX6_gap_30 (by decide) (fun c_3 => ?_) (fun c_3 => ?_)
    · have hq := hq.trans (if_pos c_3)
      have hs := hs.trans (if_pos c_3)
      have h_pier := isPier_in hI (rfp c_3)
      refine lv_aload_n hx hb dX6_gap_35 rfl (lv_at hl 0 rfl) ?_
      refine mgv_now E hP (v := σ 1 0) rfl (by decide +kernel) dX6_gap_36 ?_
      refine lv_aload_n hx hb dX6_gap_39 rfl (lv_at hl 0 rfl) ?_
      refine mg_since E hP (by decide +kernel) dX6_gap_40 ?_
      refine lv_iload_n hx hb dX6_gap_43 rfl (lv_at hl 1 rfl) ?_
      refine mlv_since E hP h_pier (v := σ 8 pier.toNatClampNeg) rfl dX6_gap_44 ?_
      refine lv_isub hx hb dX6_gap_45 ?_
      refine lv_istore_n (lv' := [(3, .int ((σ 1 0) - (σ 8 pier.toNatClampNeg))), (0, .ref h), (1, .int pier), (2, .int what)]) hx hb dX6_gap_46 rfl hl (by decide) rfl (fun ls hl => ?_)
      refine lv_iload_n hx hb dX6_gap_47 rfl (lv_at hl 0 rfl) ?_
      refine lv_aload_n hx hb dX6_gap_48 rfl (lv_at hl 1 rfl) ?_
      refine mg_longest E hP (by decide +kernel) dX6_gap_49 ?_
      refine lv_iload_n hx hb dX6_gap_52 rfl (lv_at hl 2 rfl) ?_
      refine mlv_longest E hP h_pier (v := σ 10 pier.toNatClampNeg) rfl dX6_gap_53 ?_
      have J_4 : ∀ (y4_t0 : Int32) (H : Heap) (locs : List Loc) (ls : Array Slot), y4_t0 = (if ((σ 1 0) - (σ 8 pier.toNatClampNeg)) ≤ (σ 10 pier.toNatClampNeg) then (0 : Int32) else (1 : Int32)) → va_P D vwCl (mW cI cZ h (s_refused σ (if (q_isPier σ pier) = 0 then (1 : Int32) else (if (q_in what (0 : Int32) (2 : Int32)) = 0 then (2 : Int32) else (0 : Int32))))) H → va_S A s.heap H locs → lv_has ls 5 [(3, .int ((σ 1 0) - (σ 8 pier.toNatClampNeg))), (0, .ref h), (1, .int pier), (2, .int what)] → W p l e R s m args below meth c H locs cells slots Q (F0 m 62 ls [.int y4_t0]) := by
        intro y4_t0 H locs ls e_y4_t0 hP hS hl
        subst e_y4_t0
        refine lv_istore (lv' := [(4, .int (if ((σ 1 0) - (σ 8 pier.toNatClampNeg)) ≤ (σ 10 pier.toNatClampNeg) then (0 : Int32) else (1 : Int32))), (3, .int ((σ 1 0) - (σ 8 pier.toNatClampNeg))), (0, .ref h), (1, .int pier), (2, .int what)]) hx hb dX6_gap_62 hl (by decide) rfl (fun ls hl => ?_)
        refine lv_iload_n hx hb dX6_gap_64 rfl (lv_at hl 4 rfl) ?_
        have J_5 : ∀ (y5_t0 : Int32) (H : Heap) (locs : List Loc) (ls : Array Slot), y5_t0 = (k115t0_gap σ pier what) → va_P D vwCl (mW cI cZ h (s_refused σ (if (q_isPier σ pier) = 0 then (1 : Int32) else (if (q_in what (0 : Int32) (2 : Int32)) = 0 then (2 : Int32) else (0 : Int32))))) H → va_S A s.heap H locs → lv_has ls 5 [(4, .int (if ((σ 1 0) - (σ 8 pier.toNatClampNeg)) ≤ (σ 10 pier.toNatClampNeg) then (0 : Int32) else (1 : Int32))), (3, .int ((σ 1 0) - (σ 8 pier.toNatClampNeg))), (0, .ref h), (1, .int pier), (2, .int what)] → W p l e R s m args below meth c H locs cells slots Q (F0 m 115 ls [.int y5_t0]) := by
          intro y5_t0 H locs ls e_y5_t0 hP hS hl
          subst e_y5_t0
          exact kr _ (k115t0_gap σ pier what) H locs ls dX6_gap_115 hq.symm (by rw [hs]; exact hP) hS
        refine lv_if_ne (tgt := 72) hx hb dX6_gap_65 (by decide) (fun c_5 => ?_) (fun c_5 => ?_)
        · refine lv_iload_n hx hb dX6_gap_72 rfl (lv_at hl 4 rfl) ?_
          refine lv_iconst (v := 1) hx hb dX6_gap_73 (by decide) ?_
          refine lv_icmp_ne (tgt := 95) hx hb dX6_gap_74 (by decide) (fun c_6 => ?_) (fun c_6 => ?_)
          · refine lv_iload hx hb dX6_gap_95 (lv_at hl 0 rfl) ?_
            refine lv_if_eq (tgt := 109) hx hb dX6_gap_97 (by decide) (fun c_7 => ?_) (fun c_7 => ?_)
            · refine lv_aload_n hx hb dX6_gap_109 rfl (lv_at hl 2 rfl) ?_
              refine mg_longestCause E hP (by decide +kernel) dX6_gap_110 ?_
              refine lv_iload_n hx hb dX6_gap_113 rfl (lv_at hl 3 rfl) ?_
              refine mlv_longestCause E hP h_pier (v := σ 11 pier.toNatClampNeg) rfl dX6_gap_114 ?_
              exact J_5 (σ 11 pier.toNatClampNeg) H locs ls ((if_pos c_7).symm.trans ((if_neg c_6).symm.trans (if_neg c_5).symm)) hP hS (lv_sub hl [0, 1, 2, 3, 4] rfl)
            refine lv_aload_n hx hb dX6_gap_100 rfl (lv_at hl 2 rfl) ?_
            refine mg_cause E hP (by decide +kernel) dX6_gap_101 ?_
            refine lv_iload_n hx hb dX6_gap_104 rfl (lv_at hl 3 rfl) ?_
            refine mlv_cause E hP h_pier (v := σ 9 pier.toNatClampNeg) rfl dX6_gap_105 ?_
            refine lv_goto (tgt := 115) hx hb dX6_gap_106 (by decide) ?_
            exact J_5 (σ 9 pier.toNatClampNeg) H locs ls ((if_neg c_7).symm.trans ((if_neg c_6).symm.trans (if_neg c_5).symm)) hP hS (lv_sub hl [0, 1, 2, 3, 4] rfl)
          refine lv_iload hx hb dX6_gap_77 (lv_at hl 0 rfl) ?_
          refine lv_if_eq (tgt := 86) hx hb dX6_gap_79 (by decide) (fun c_8 => ?_) (fun c_8 => ?_)
          · refine lv_aload_n hx hb dX6_gap_86 rfl (lv_at hl 2 rfl) ?_
            refine mg_longest E hP (by decide +kernel) dX6_gap_87 ?_
            refine lv_iload_n hx hb dX6_gap_90 rfl (lv_at hl 3 rfl) ?_
            refine mlv_longest E hP h_pier (v := σ 10 pier.toNatClampNeg) rfl dX6_gap_91 ?_
            refine lv_goto (tgt := 115) hx hb dX6_gap_92 (by decide) ?_
            exact J_5 (σ 10 pier.toNatClampNeg) H locs ls ((if_pos c_8).symm.trans ((if_pos c_6).symm.trans (if_neg c_5).symm)) hP hS (lv_sub hl [0, 1, 2, 3, 4] rfl)
          refine lv_iload_n hx hb dX6_gap_82 rfl (lv_at hl 1 rfl) ?_
          refine lv_goto (tgt := 115) hx hb dX6_gap_83 (by decide) ?_
          exact J_5 ((σ 1 0) - (σ 8 pier.toNatClampNeg)) H locs ls ((if_neg c_8).symm.trans ((if_pos c_6).symm.trans (if_neg c_5).symm)) hP hS (lv_sub hl [0, 1, 2, 3, 4] rfl)
        refine lv_iload_n hx hb dX6_gap_68 rfl (lv_at hl 1 rfl) ?_
        refine lv_goto (tgt := 115) hx hb dX6_gap_69 (by decide) ?_
        exact J_5 ((σ 1 0) - (σ 8 pier.toNatClampNeg)) H locs ls (if_pos c_5).symm hP hS (lv_sub hl [0, 1, 2, 3, 4] rfl)
      refine lv_icmp_le (tgt := 61) hx hb dX6_gap_54 (by decide) (fun c_4 => ?_) (fun c_4 => ?_)
      · refine lv_iconst (v := 0) hx hb dX6_gap_61 (by decide) ?_
        exact J_4 (0 : Int32) H locs ls (if_pos c_4).symm hP hS (lv_sub hl [0, 1, 2, 3] rfl)
      refine lv_iconst (v := 1) hx hb dX6_gap_57 (by decide) ?_
      refine lv_goto (tgt := 62) hx hb dX6_gap_58 (by decide) ?_
      exact J_4 (1 : Int32) H locs ls (if_neg c_4).symm hP hS (lv_sub hl [0, 1, 2, 3] rfl)
    have hq := hq.trans (if_neg c_3)
    have hs := hs.trans (if_neg c_3)
    refine lv_iconst (v := 0) hx hb dX6_gap_33 (by decide) ?_
    exact kr _ (0 : Int32) H locs ls dX6_gap_34 hq.symm (by rw [hs]; exact hP) hS
  refine lv_if_ne (tgt := 13) hx hb dX6_gap_6 (by decide) (fun c_1 => ?_) (fun c_1 => ?_)
  · refine lv_iload_n hx hb dX6_gap_13 rfl (lv_at hl 2 rfl) ?_
    refine lv_iconst (v := 0) hx hb dX6_gap_14 (by decide) ?_
    refine lv_iconst (v := 2) hx hb dX6_gap_15 (by decide) ?_
    refine mcS_i E hml hP hS (c_in l hA σ what (0 : Int32) (2 : Int32)) (va_cwS 3 hts gX6_gap_X6_in rfl rfl rfl (by decide +kernel) ⟨Nat.le_trans (Nat.le_of_ble_eq_true rfl) hR.1, Nat.le_trans (Nat.le_of_ble_eq_true rfl) hR.2⟩) rfl hl.1 rfl (Nat.le_of_ble_eq_true rfl) dX6_gap_16 hf (fun H locs hP hS => ?_)
    refine lv_if_ne (tgt := 26) hx hb dX6_gap_19 (by decide) (fun c_2 => ?_) (fun c_2 => ?_)
    · refine lv_iconst (v := 0) hx hb dX6_gap_26 (by decide) ?_
      exact J_1 (0 : Int32) H locs ls ((if_neg c_2).symm.trans (if_neg c_1).symm) hP hS (lv_sub hl [0, 1, 2] rfl)
    refine lv_iconst (v := 2) hx hb dX6_gap_22 (by decide) ?_
    refine lv_goto (tgt := 27) hx hb dX6_gap_23 (by decide) ?_
    exact J_1 (2 : Int32) H locs ls ((if_pos c_2).symm.trans (if_neg c_1).symm) hP hS (lv_sub hl [0, 1, 2] rfl)
  refine lv_iconst (v := 1) hx hb dX6_gap_9 (by decide) ?_
  refine lv_goto (tgt := 27) hx hb dX6_gap_10 (by decide) ?_
  exact J_1 (1 : Int32) H locs ls (if_pos c_1).symm hP hS (lv_sub hl [0, 1, 2] rfl)
set_option maxHeartbeats 1000000 in
set_option maxRecDepth 100000 in
theorem c_gap (l : Launch) {D : va_G} {A : Nat → Prop} {cI cZ : ClassId} {h : Nat} (hA : ∀ i, i < 44 → A (h + i)) (σ : St) (pier : Int32) (what : Int32) (hI : MI σ) : Met l yX6_gap wsX6_gap ({ frames := 2, cells := 0, slots := 0, locals := 43 }) (va_Pc [.ref h, .int pier, .int what] (mU D cI cZ h σ)) (va_Qi (fun r (_ : Unit) => r = q_gap σ pier what) (fun _ t => mU D cI cZ h (s_gap σ pier what) t) A) 0 0 A := by
  refine Met.ofW (cc := cX6_gap) (maxL := 5) (ret := (some .int)) (by decide) rfl ?_
  intro p e s m args below meth c s₁ B hml hv
  obtain ⟨rfl, hP, hK⟩ := hv
  have E : mE p c cX6_gap s m ([.ref h, .int pier, .int what] : List Value).toArray wsX6_gap D cI cZ := ⟨⟨B.exec, B.bytes⟩, atoms_spec (ws := wsX6_gap) B.pre, (by decide +kernel), findClass_of_methodNamed B.named, hK⟩
  have hr := B.returns
  have hlocks := B.notSynchronized
  have hl := lv_entry ([.ref h, .int pier, .int what]) (n := 5) (Nat.le_of_ble_eq_true rfl)
  rw [lg_entry_eq]
  generalize (lg_sl ([.ref h, .int pier, .int what]) ++ List.replicate (5 - (lg_sl ([.ref h, .int pier, .int what])).length) Slot.unset).toArray = ls at hl ⊢
  refine w_gap σ pier what hI E hml hA ⟨Nat.le_of_ble_eq_true rfl, Nat.le_of_ble_eq_true rfl⟩ ⟨Nat.zero_le _, Nat.zero_le _⟩ hP va_S.rf hl (fun pc v H1 locs1 ls1 hd hv hP1 hS1 => ?_)
  exact W.iret (v := v) B.exec B.bytes hr (fun t ht hW => ⟨⟨v, (), rfl, hv, by rw [ht]; exact hP1, va_K.moved hW.alike hK⟩, hS1.F ht⟩) hS1.2.2 hd
def lf_share_6 (σ : St)  : Nat → Nat → Int32 → Int32 → Int32 × Int32
  | 0, _, x1, x2 => (x1, x2)
  | n + 1, i, x1, x2 => if (σ 21 0) ≤ (nI i) then (x1, x2) else (lf_share_6 σ n (i + 1) (x1 + (if (σ 28 (nI i).toNatClampNeg) = 0 then (0 : Int32) else (if (σ 22 (nI i).toNatClampNeg) = 0 then (0 : Int32) else (1 : Int32)))) (x2 + (if (σ 28 (nI i).toNatClampNeg) = 0 then (0 : Int32) else (if (q_in (σ 22 (nI i).toNatClampNeg) (1 : Int32) (2 : Int32)) = 0 then (0 : Int32) else (1 : Int32)))))
def q_share (σ : St) : UInt64 := if ((lf_share_6 σ 61 0 (0 : Int32) (0 : Int32)).1) = 0 then FP.dconst1 else (FP.ddiv (FP.i2d ((lf_share_6 σ 61 0 (0 : Int32) (0 : Int32)).2)) (FP.i2d ((lf_share_6 σ 61 0 (0 : Int32) (0 : Int32)).1)))
theorem share_rng {σ : St} : ∀ (n i a b : Nat), i + n ≤ 61 → b ≤ a → a ≤ i → ∃ a' b' : Nat, lf_share_6 σ n i (nI a) (nI b) = (nI a', nI b') ∧ b' ≤ a' ∧ a' < 62 := by
  intro n
  induction n with
  | zero => intro i a b hi hb ha; exact ⟨a, b, rfl, hb, by omega⟩
  | succ n ih =>
    intro i a b hi hb ha
    show ∃ a' b' : Nat, (if (σ 21 0) ≤ (nI i) then (nI a, nI b) else _) = (nI a', nI b') ∧ b' ≤ a' ∧ a' < 62
    by_cases hc : (σ 21 0) ≤ (nI i)
    · rw [if_pos hc]; exact ⟨a, b, rfl, hb, by omega⟩
    · rw [if_neg hc]
      by_cases h1 : σ 28 (nI i).toNatClampNeg = 0
      · rw [if_pos h1, if_pos h1, Int32.add_zero, Int32.add_zero]
        exact ih _ _ _ (by omega) hb (by omega)
      · rw [if_neg h1, if_neg h1]
        by_cases h2 : σ 22 (nI i).toNatClampNeg = 0
        · rw [if_pos h2, h2, if_pos (show q_in 0 1 2 = 0 by decide), Int32.add_zero, Int32.add_zero]
          exact ih _ _ _ (by omega) hb (by omega)
        · rw [if_neg h2, nI_1]
          by_cases h3 : q_in (σ 22 (nI i).toNatClampNeg) (1 : Int32) (2 : Int32) = 0
          · rw [if_pos h3, Int32.add_zero]
            exact ih _ _ _ (by omega) (by omega) (by omega)
          · rw [if_neg h3, nI_1]
            exact ih _ _ _ (by omega) (by omega) (by omega)
theorem share_val (σ : St) : ∃ a b : Nat, lf_share_6 σ 61 0 (0 : Int32) (0 : Int32) = (nI a, nI b) ∧ b ≤ a ∧ a < 62 := share_rng 61 0 0 0 (by omega) (by omega) (by omega)
def fpq (a b : Nat) : UInt64 := FP.ddiv (FP.i2d (nI b)) (FP.i2d (nI a))
def fpn (x : UInt64) : Bool := decide (x &&& 0x7fffffffffffffff ≤ 0x7ff0000000000000)
def fpt (a b : Nat) : Bool := fpn (fpq a b) && (fpn (FP.dsub FP.dconst1 (fpq a b)) && fpn (FP.dmul (4652007308841189376 : UInt64) (FP.dsub FP.dconst1 (fpq a b))))
theorem fpn_v {x : UInt64} (h : fpn x = true) : vf_n64 x := by
  unfold fpn at h
  have h2 := of_decide_eq_true h
  exact h2
set_option maxRecDepth 100000 in
theorem share_fpB : (List.range 62).all (fun a => (List.range 62).all (fun b => decide (a < b) || (decide (a = 0) || fpt a b))) = true := by decide +kernel
theorem share_fp (a : Nat) (ha : a < 62) (b : Nat) (hb : b < 62) (hba : b ≤ a) (h0 : a ≠ 0) : vf_n64 (fpq a b) ∧ vf_n64 (FP.dsub FP.dconst1 (fpq a b)) ∧ vf_n64 (FP.dmul (4652007308841189376 : UInt64) (FP.dsub FP.dconst1 (fpq a b))) := by
  have h1 := List.all_eq_true.mp share_fpB a (List.mem_range.mpr ha)
  have h2 := List.all_eq_true.mp h1 b (List.mem_range.mpr hb)
  simp only [Bool.or_eq_true, decide_eq_true_eq] at h2
  rcases h2 with h2 | h2 | h2
  · omega
  · exact absurd h2 h0
  · unfold fpt at h2
    simp only [Bool.and_eq_true] at h2
    exact ⟨fpn_v h2.1, fpn_v h2.2.1, fpn_v h2.2.2⟩
theorem share_nn {σ : St} (hI : MI σ) (h : ¬ ((lf_share_6 σ 61 0 (0 : Int32) (0 : Int32)).1) = 0) : vf_n64 (FP.ddiv (FP.i2d ((lf_share_6 σ 61 0 (0 : Int32) (0 : Int32)).2)) (FP.i2d ((lf_share_6 σ 61 0 (0 : Int32) (0 : Int32)).1))) := by
  obtain ⟨a, b, e, hb, ha⟩ := share_val σ
  rw [e] at h ⊢
  exact (share_fp a ha b (by omega) hb (fun z => h (by rw [z]; rfl))).1
set_option maxHeartbeats 1000000 in
set_option maxRecDepth 100000 in
theorem w_share {p : Program} {l : Launch} {e : Env} {R : Room} {s : State} {m : MethodId} {args : Array Value} {below : List Frame} {meth : Method} {c : Code} {H : Heap} {locs : List Loc} {cells slots : Nat} {Q : State → Prop} {D : va_G} {A : Nat → Prop} {cI cZ : ClassId} {h : Nat} {ls : Array Slot} (σ : St) (hI : MI σ) (E : mE p c cX6_share s m args wsX6_share D cI cZ) (hml : c.maxLocals = 4) (hA : ∀ i, i < 44 → A (h + i)) (hR : 1 ≤ R.frames ∧ 22 ≤ R.locals) (hf : cells ≤ R.cells ∧ slots ≤ R.slots) (hP : va_P D vwCl (mW cI cZ h σ) H) (hS : va_S A s.heap H locs) (hl : lv_has ls 4 [(0, .ref h)]) (kr : ∀ (pc : Nat) (rv : UInt64) (H1 : Heap) (locs1 : List Loc) (ls1 : Array Slot), decode cX6_share pc = .ok (.dreturn, 1) → rv = q_share σ → va_P D vwCl (mW cI cZ h (σ)) H1 → va_S A s.heap H1 locs1 → W p l e R s m args below meth c H1 locs1 cells slots Q (F0 m pc ls1 [.double rv])) : W p l e R s m args below meth c H locs cells slots Q (F0 m 0 ls []) := by
  have hx := E.1.1
  have hb := E.1.2
  have hts := E.2.1
  have hq : q_share σ = if ((lf_share_6 σ 61 0 (0 : Int32) (0 : Int32)).1) = 0 then FP.dconst1 else (FP.ddiv (FP.i2d ((lf_share_6 σ 61 0 (0 : Int32) (0 : Int32)).2)) (FP.i2d ((lf_share_6 σ 61 0 (0 : Int32) (0 : Int32)).1))) := rfl
  refine lv_iconst (v := 0) hx hb dX6_share_0 (by decide) ?_
  refine lv_istore_n (lv' := [(1, .int (0 : Int32)), (0, .ref h)]) hx hb dX6_share_1 rfl hl (by decide) rfl (fun ls hl => ?_)
  refine lv_iconst (v := 0) hx hb dX6_share_2 (by decide) ?_
  refine lv_istore_n (lv' := [(2, .int (0 : Int32)), (1, .int (0 : Int32)), (0, .ref h)]) hx hb dX6_share_3 rfl hl (by decide) rfl (fun ls hl => ?_)
  refine lv_iconst (v := 0) hx hb dX6_share_4 (by decide) ?_
  refine lv_istore_n (lv' := [(3, .int (0 : Int32)), (2, .int (0 : Int32)), (1, .int (0 : Int32)), (0, .ref h)]) hx hb dX6_share_5 rfl hl (by decide) rfl (fun ls hl => ?_)
  obtain ⟨C, hC, eC⟩ := MI_n21 hI
  have L_6 : ∀ (n : Nat) (i : Nat) (x1 : Int32) (x2 : Int32) (H : Heap) (locs : List Loc) (ls : Array Slot), i + n = 61 → i ≤ C → lf_share_6 σ n i x1 x2 = lf_share_6 σ 61 0 (0 : Int32) (0 : Int32) → va_P D vwCl (mW cI cZ h σ) H → va_S A s.heap H locs → lv_has ls 4 [(3, .int (nI i)), (2, .int x2), (1, .int x1), (0, .ref h)] → W p l e R s m args below meth c H locs cells slots Q (F0 m 6 ls []) := by
    intro n
    induction n with
    | zero => intro i x1 x2 H locs ls hin hiC; omega
    | succ n ih =>
      intro i x1 x2 H locs ls hin hiC hfin hP hS hl
      have hfin : (if (σ 21 0) ≤ (nI i) then (x1, x2) else (lf_share_6 σ n (i + 1) (x1 + (if (σ 28 (nI i).toNatClampNeg) = 0 then (0 : Int32) else (if (σ 22 (nI i).toNatClampNeg) = 0 then (0 : Int32) else (1 : Int32)))) (x2 + (if (σ 28 (nI i).toNatClampNeg) = 0 then (0 : Int32) else (if (q_in (σ 22 (nI i).toNatClampNeg) (1 : Int32) (2 : Int32)) = 0 then (0 : Int32) else (1 : Int32)))))) = lf_share_6 σ 61 0 (0 : Int32) (0 : Int32) := hfin
      refine lv_iload_n hx hb dX6_share_6 rfl (lv_at hl 0 rfl) ?_
      refine lv_aload_n hx hb dX6_share_7 rfl (lv_at hl 3 rfl) ?_
      refine mg_sailings E hP (by decide +kernel) dX6_share_8 ?_
      refine lv_icmp_ge (tgt := 77) hx hb dX6_share_11 (by decide) (fun c_1 => ?_) (fun c_1 => ?_)
      · have hfin := (if_pos c_1).symm.trans hfin
        have e_x1 : x1 = (lf_share_6 σ 61 0 (0 : Int32) (0 : Int32)).1 := congrArg (fun z => z.1) hfin
        have e_x2 : x2 = (lf_share_6 σ 61 0 (0 : Int32) (0 : Int32)).2 := congrArg (fun z => z.2) hfin
        clear hfin
        subst e_x1
        subst e_x2
        have hl := lv_sub hl [1, 2, 3] rfl
        refine lv_iload_n hx hb dX6_share_77 rfl (lv_at hl 1 rfl) ?_
        have J_7 : ∀ (y7_t0 : UInt64) (H : Heap) (locs : List Loc) (ls : Array Slot), y7_t0 = (if ((lf_share_6 σ 61 0 (0 : Int32) (0 : Int32)).1) = 0 then FP.dconst1 else (FP.ddiv (FP.i2d ((lf_share_6 σ 61 0 (0 : Int32) (0 : Int32)).2)) (FP.i2d ((lf_share_6 σ 61 0 (0 : Int32) (0 : Int32)).1)))) → va_P D vwCl (mW cI cZ h σ) H → va_S A s.heap H locs → lv_has ls 4 [(2, .int ((lf_share_6 σ 61 0 (0 : Int32) (0 : Int32)).2)), (1, .int ((lf_share_6 σ 61 0 (0 : Int32) (0 : Int32)).1)), (0, .ref h)] → W p l e R s m args below meth c H locs cells slots Q (F0 m 90 ls [.double y7_t0]) := by
          intro y7_t0 H locs ls e_y7_t0 hP hS hl
          subst e_y7_t0
          exact kr _ (if ((lf_share_6 σ 61 0 (0 : Int32) (0 : Int32)).1) = 0 then FP.dconst1 else (FP.ddiv (FP.i2d ((lf_share_6 σ 61 0 (0 : Int32) (0 : Int32)).2)) (FP.i2d ((lf_share_6 σ 61 0 (0 : Int32) (0 : Int32)).1)))) H locs ls dX6_share_90 hq.symm hP hS
        refine lv_if_ne (tgt := 85) hx hb dX6_share_78 (by decide) (fun c_7 => ?_) (fun c_7 => ?_)
        · refine lv_iload_n hx hb dX6_share_85 rfl (lv_at hl 0 rfl) ?_
          refine lv_i2d hx hb dX6_share_86 ?_
          refine lv_iload_n hx hb dX6_share_87 rfl (lv_at hl 1 rfl) ?_
          refine lv_i2d hx hb dX6_share_88 ?_
          refine lv_ddiv hx hb dX6_share_89 (share_nn hI (by assumption)) ?_
          exact J_7 (FP.ddiv (FP.i2d ((lf_share_6 σ 61 0 (0 : Int32) (0 : Int32)).2)) (FP.i2d ((lf_share_6 σ 61 0 (0 : Int32) (0 : Int32)).1))) H locs ls (if_neg c_7).symm hP hS (lv_sub hl [0, 1, 2] rfl)
        refine lv_dconst1 hx hb dX6_share_81 ?_
        refine lv_goto (tgt := 90) hx hb dX6_share_82 (by decide) ?_
        exact J_7 FP.dconst1 H locs ls (if_pos c_7).symm hP hS (lv_sub hl [0, 1, 2] rfl)
      have hfin := (if_neg c_1).symm.trans hfin
      have hlt : i < C := m_lt eC c_1 (by omega) (by omega)
      refine lv_iload_n hx hb dX6_share_14 rfl (lv_at hl 2 rfl) ?_
      refine lv_aload_n hx hb dX6_share_15 rfl (lv_at hl 3 rfl) ?_
      refine mg_isLifeline E hP (by decide +kernel) dX6_share_16 ?_
      refine lv_iload_n hx hb dX6_share_19 rfl (lv_at hl 0 rfl) ?_
      refine ml_isLifeline E hP (vp_in_nI (n := i) (by omega) (by omega)) dX6_share_20 ?_
      have J_2 : ∀ (y2_t0 : Int32) (H : Heap) (locs : List Loc) (ls : Array Slot), y2_t0 = (if (σ 28 (nI i).toNatClampNeg) = 0 then (0 : Int32) else (if (σ 22 (nI i).toNatClampNeg) = 0 then (0 : Int32) else (1 : Int32))) → va_P D vwCl (mW cI cZ h σ) H → va_S A s.heap H locs → lv_has ls 4 [(3, .int (nI i)), (2, .int x2), (1, .int x1), (0, .ref h)] → W p l e R s m args below meth c H locs cells slots Q (F0 m 38 ls [.int y2_t0, .int x1]) := by
        intro y2_t0 H locs ls e_y2_t0 hP hS hl
        subst e_y2_t0
        refine lv_iadd hx hb dX6_share_38 ?_
        refine lv_istore_n (lv' := [(1, .int (x1 + (if (σ 28 (nI i).toNatClampNeg) = 0 then (0 : Int32) else (if (σ 22 (nI i).toNatClampNeg) = 0 then (0 : Int32) else (1 : Int32))))), (3, .int (nI i)), (2, .int x2), (0, .ref h)]) hx hb dX6_share_39 rfl hl (by decide) rfl (fun ls hl => ?_)
        refine lv_iload_n hx hb dX6_share_40 rfl (lv_at hl 2 rfl) ?_
        refine lv_aload_n hx hb dX6_share_41 rfl (lv_at hl 3 rfl) ?_
        refine mg_isLifeline E hP (by decide +kernel) dX6_share_42 ?_
        refine lv_iload_n hx hb dX6_share_45 rfl (lv_at hl 1 rfl) ?_
        refine ml_isLifeline E hP (vp_in_nI (n := i) (by omega) (by omega)) dX6_share_46 ?_
        have J_4 : ∀ (y4_t0 : Int32) (H : Heap) (locs : List Loc) (ls : Array Slot), y4_t0 = (if (σ 28 (nI i).toNatClampNeg) = 0 then (0 : Int32) else (if (q_in (σ 22 (nI i).toNatClampNeg) (1 : Int32) (2 : Int32)) = 0 then (0 : Int32) else (1 : Int32))) → va_P D vwCl (mW cI cZ h σ) H → va_S A s.heap H locs → lv_has ls 4 [(1, .int (x1 + (if (σ 28 (nI i).toNatClampNeg) = 0 then (0 : Int32) else (if (σ 22 (nI i).toNatClampNeg) = 0 then (0 : Int32) else (1 : Int32))))), (3, .int (nI i)), (2, .int x2), (0, .ref h)] → W p l e R s m args below meth c H locs cells slots Q (F0 m 69 ls [.int y4_t0, .int x2]) := by
          intro y4_t0 H locs ls e_y4_t0 hP hS hl
          subst e_y4_t0
          refine lv_iadd hx hb dX6_share_69 ?_
          refine lv_istore_n (lv' := [(2, .int (x2 + (if (σ 28 (nI i).toNatClampNeg) = 0 then (0 : Int32) else (if (q_in (σ 22 (nI i).toNatClampNeg) (1 : Int32) (2 : Int32)) = 0 then (0 : Int32) else (1 : Int32))))), (1, .int (x1 + (if (σ 28 (nI i).toNatClampNeg) = 0 then (0 : Int32) else (if (σ 22 (nI i).toNatClampNeg) = 0 then (0 : Int32) else (1 : Int32))))), (3, .int (nI i)), (0, .ref h)]) hx hb dX6_share_70 rfl hl (by decide) rfl (fun ls hl => ?_)
          refine lv_iinc (v := nI (i + 1)) (lv' := [(3, .int (nI (i + 1))), (2, .int (x2 + (if (σ 28 (nI i).toNatClampNeg) = 0 then (0 : Int32) else (if (q_in (σ 22 (nI i).toNatClampNeg) (1 : Int32) (2 : Int32)) = 0 then (0 : Int32) else (1 : Int32))))), (1, .int (x1 + (if (σ 28 (nI i).toNatClampNeg) = 0 then (0 : Int32) else (if (σ 22 (nI i).toNatClampNeg) = 0 then (0 : Int32) else (1 : Int32))))), (0, .ref h)]) hx hb dX6_share_71 hl (k := 2) rfl (by first | rfl | exact nI_1 _) (by decide) rfl (fun ls hl => ?_)
          refine lv_goto (tgt := 6) hx hb dX6_share_74 (by decide) ?_
          exact ih (i + 1) (x1 + (if (σ 28 (nI i).toNatClampNeg) = 0 then (0 : Int32) else (if (σ 22 (nI i).toNatClampNeg) = 0 then (0 : Int32) else (1 : Int32)))) (x2 + (if (σ 28 (nI i).toNatClampNeg) = 0 then (0 : Int32) else (if (q_in (σ 22 (nI i).toNatClampNeg) (1 : Int32) (2 : Int32)) = 0 then (0 : Int32) else (1 : Int32)))) H locs ls (by omega) (by omega) hfin hP hS (lv_sub hl [0, 1, 2, 3] rfl)
        refine lv_if_eq (tgt := 68) hx hb dX6_share_47 (by decide) (fun c_4 => ?_) (fun c_4 => ?_)
        · refine lv_iconst (v := 0) hx hb dX6_share_68 (by decide) ?_
          exact J_4 (0 : Int32) H locs ls (if_pos c_4).symm hP hS (lv_sub hl [0, 1, 2, 3] rfl)
        refine lv_aload_n hx hb dX6_share_50 rfl (lv_at hl 3 rfl) ?_
        refine mg_state E hP (by decide +kernel) dX6_share_51 ?_
        refine lv_iload_n hx hb dX6_share_54 rfl (lv_at hl 1 rfl) ?_
        refine ml_state E hP (vp_in_nI (n := i) (by omega) (by omega)) dX6_share_55 ?_
        refine lv_iconst (v := 1) hx hb dX6_share_56 (by decide) ?_
        refine lv_iconst (v := 2) hx hb dX6_share_57 (by decide) ?_
        refine mcS_i E hml hP hS (c_in l hA σ (σ 22 (nI i).toNatClampNeg) (1 : Int32) (2 : Int32)) (va_cwS 3 hts gX6_share_X6_in rfl rfl rfl (by decide +kernel) ⟨Nat.le_trans (Nat.le_of_ble_eq_true rfl) hR.1, Nat.le_trans (Nat.le_of_ble_eq_true rfl) hR.2⟩) rfl hl.1 rfl (Nat.le_of_ble_eq_true rfl) dX6_share_58 hf (fun H locs hP hS => ?_)
        refine lv_if_eq (tgt := 68) hx hb dX6_share_61 (by decide) (fun c_5 => ?_) (fun c_5 => ?_)
        · refine lv_iconst (v := 0) hx hb dX6_share_68 (by decide) ?_
          exact J_4 (0 : Int32) H locs ls ((if_pos c_5).symm.trans (if_neg c_4).symm) hP hS (lv_sub hl [0, 1, 2, 3] rfl)
        refine lv_iconst (v := 1) hx hb dX6_share_64 (by decide) ?_
        refine lv_goto (tgt := 69) hx hb dX6_share_65 (by decide) ?_
        exact J_4 (1 : Int32) H locs ls ((if_neg c_5).symm.trans (if_neg c_4).symm) hP hS (lv_sub hl [0, 1, 2, 3] rfl)
      refine lv_if_eq (tgt := 37) hx hb dX6_share_21 (by decide) (fun c_2 => ?_) (fun c_2 => ?_)
      · refine lv_iconst (v := 0) hx hb dX6_share_37 (by decide) ?_
        exact J_2 (0 : Int32) H locs ls (if_pos c_2).symm hP hS (lv_sub hl [0, 1, 2, 3] rfl)
      refine lv_aload_n hx hb dX6_share_24 rfl (lv_at hl 3 rfl) ?_
      refine mg_state E hP (by decide +kernel) dX6_share_25 ?_
      refine lv_iload_n hx hb dX6_share_28 rfl (lv_at hl 0 rfl) ?_
      refine ml_state E hP (vp_in_nI (n := i) (by omega) (by omega)) dX6_share_29 ?_
      refine lv_if_eq (tgt := 37) hx hb dX6_share_30 (by decide) (fun c_3 => ?_) (fun c_3 => ?_)
      · refine lv_iconst (v := 0) hx hb dX6_share_37 (by decide) ?_
        exact J_2 (0 : Int32) H locs ls ((if_pos c_3).symm.trans (if_neg c_2).symm) hP hS (lv_sub hl [0, 1, 2, 3] rfl)
      refine lv_iconst (v := 1) hx hb dX6_share_33 (by decide) ?_
      refine lv_goto (tgt := 38) hx hb dX6_share_34 (by decide) ?_
      exact J_2 (1 : Int32) H locs ls ((if_neg c_3).symm.trans (if_neg c_2).symm) hP hS (lv_sub hl [0, 1, 2, 3] rfl)
  exact L_6 61 0 (0 : Int32) (0 : Int32) H locs ls (by omega) (Nat.zero_le _) rfl hP hS (lv_sub hl [0, 1, 2, 3] rfl)
set_option maxHeartbeats 1000000 in
set_option maxRecDepth 100000 in
theorem c_share (l : Launch) {D : va_G} {A : Nat → Prop} {cI cZ : ClassId} {h : Nat} (hA : ∀ i, i < 44 → A (h + i)) (σ : St) (hI : MI σ) : Met l yX6_share wsX6_share ({ frames := 1, cells := 0, slots := 0, locals := 22 }) (va_Pc [.ref h] (mU D cI cZ h σ)) (va_Qd (fun r (_ : Unit) => r = q_share σ) (fun _ t => mU D cI cZ h (σ) t) A) 0 0 A := by
  refine Met.ofW (cc := cX6_share) (maxL := 4) (ret := (some .double)) (by decide) rfl ?_
  intro p e s m args below meth c s₁ B hml hv
  obtain ⟨rfl, hP, hK⟩ := hv
  have E : mE p c cX6_share s m ([.ref h] : List Value).toArray wsX6_share D cI cZ := ⟨⟨B.exec, B.bytes⟩, atoms_spec (ws := wsX6_share) B.pre, (by decide +kernel), findClass_of_methodNamed B.named, hK⟩
  have hr := B.returns
  have hlocks := B.notSynchronized
  have hl := lv_entry ([.ref h]) (n := 4) (Nat.le_of_ble_eq_true rfl)
  rw [lg_entry_eq]
  generalize (lg_sl ([.ref h]) ++ List.replicate (4 - (lg_sl ([.ref h])).length) Slot.unset).toArray = ls at hl ⊢
  refine w_share σ hI E hml hA ⟨Nat.le_of_ble_eq_true rfl, Nat.le_of_ble_eq_true rfl⟩ ⟨Nat.zero_le _, Nat.zero_le _⟩ hP va_S.rf hl (fun pc v H1 locs1 ls1 hd hv hP1 hS1 => ?_)
  exact W.dret (v := v) B.exec B.bytes hr (fun t ht hW => ⟨⟨v, (), rfl, hv, by rw [ht]; exact hP1, va_K.moved hW.alike hK⟩, hS1.F ht⟩) hS1.2.2 hd
def q_performance (σ : St) : UInt64 := q_share (st σ 0 0 (0 : Int32))
def s_performance (σ : St) : St := st σ 0 0 (0 : Int32)
set_option maxHeartbeats 1000000 in
set_option maxRecDepth 100000 in
theorem w_performance {p : Program} {l : Launch} {e : Env} {R : Room} {s : State} {m : MethodId} {args : Array Value} {below : List Frame} {meth : Method} {c : Code} {H : Heap} {locs : List Loc} {cells slots : Nat} {Q : State → Prop} {D : va_G} {A : Nat → Prop} {cI cZ : ClassId} {h : Nat} {ls : Array Slot} (σ : St) (hI : MI σ) (E : mE p c cX6_performance s m args wsX6_performance D cI cZ) (hml : c.maxLocals = 1) (hA : ∀ i, i < 44 → A (h + i)) (hR : 2 ≤ R.frames ∧ 45 ≤ R.locals) (hf : cells ≤ R.cells ∧ slots ≤ R.slots) (hP : va_P D vwCl (mW cI cZ h σ) H) (hS : va_S A s.heap H locs) (hl : lv_has ls 1 [(0, .ref h)]) (kr : ∀ (pc : Nat) (rv : UInt64) (H1 : Heap) (locs1 : List Loc) (ls1 : Array Slot), decode cX6_performance pc = .ok (.dreturn, 1) → rv = q_performance σ → va_P D vwCl (mW cI cZ h (s_performance σ)) H1 → va_S A s.heap H1 locs1 → W p l e R s m args below meth c H1 locs1 cells slots Q (F0 m pc ls1 [.double rv])) : W p l e R s m args below meth c H locs cells slots Q (F0 m 0 ls []) := by
  have hx := E.1.1
  have hb := E.1.2
  have hts := E.2.1
  have hq : q_performance σ = q_share (st σ 0 0 (0 : Int32)) := rfl
  have hs : s_performance σ = st σ 0 0 (0 : Int32) := rfl
  refine lv_aload_n hx hb dX6_performance_0 rfl (lv_at hl 0 rfl) ?_
  refine lv_iconst (v := 0) hx hb dX6_performance_1 (by decide) ?_
  refine mp_thrown E hP hA hS (by decide +kernel) dX6_performance_2 (fun H locs hP hS => ?_)
  refine lv_aload_n hx hb dX6_performance_5 rfl (lv_at hl 0 rfl) ?_
  refine mcV_d E hml hP hS (c_share l hA (st σ 0 0 (0 : Int32)) (MI_o hI (by decide))) (cwV 0 hts gX6_performance_X6_share rfl rfl rfl (by decide +kernel) ⟨Nat.le_trans (Nat.le_of_ble_eq_true rfl) hR.1, Nat.le_trans (Nat.le_of_ble_eq_true rfl) hR.2⟩) rfl hl.1 rfl (Nat.le_of_ble_eq_true rfl) dX6_performance_6 hf (fun H locs hP hS => ?_)
  exact kr _ (q_share (st σ 0 0 (0 : Int32))) H locs ls dX6_performance_9 hq.symm (by rw [hs]; exact hP) hS
set_option maxHeartbeats 1000000 in
set_option maxRecDepth 100000 in
theorem c_performance (l : Launch) {D : va_G} {A : Nat → Prop} {cI cZ : ClassId} {h : Nat} (hA : ∀ i, i < 44 → A (h + i)) (σ : St) (hI : MI σ) : Met l yX6_performance wsX6_performance ({ frames := 2, cells := 0, slots := 0, locals := 45 }) (va_Pc [.ref h] (mU D cI cZ h σ)) (va_Qd (fun r (_ : Unit) => r = q_performance σ) (fun _ t => mU D cI cZ h (s_performance σ) t) A) 0 0 A := by
  refine Met.ofW (cc := cX6_performance) (maxL := 1) (ret := (some .double)) (by decide) rfl ?_
  intro p e s m args below meth c s₁ B hml hv
  obtain ⟨rfl, hP, hK⟩ := hv
  have E : mE p c cX6_performance s m ([.ref h] : List Value).toArray wsX6_performance D cI cZ := ⟨⟨B.exec, B.bytes⟩, atoms_spec (ws := wsX6_performance) B.pre, (by decide +kernel), findClass_of_methodNamed B.named, hK⟩
  have hr := B.returns
  have hlocks := B.notSynchronized
  have hl := lv_entry ([.ref h]) (n := 1) (Nat.le_of_ble_eq_true rfl)
  rw [lg_entry_eq]
  generalize (lg_sl ([.ref h]) ++ List.replicate (1 - (lg_sl ([.ref h])).length) Slot.unset).toArray = ls at hl ⊢
  refine w_performance σ hI E hml hA ⟨Nat.le_of_ble_eq_true rfl, Nat.le_of_ble_eq_true rfl⟩ ⟨Nat.zero_le _, Nat.zero_le _⟩ hP va_S.rf hl (fun pc v H1 locs1 ls1 hd hv hP1 hS1 => ?_)
  exact W.dret (v := v) B.exec B.bytes hr (fun t ht hW => ⟨⟨v, (), rfl, hv, by rw [ht]; exact hP1, va_K.moved hW.alike hK⟩, hS1.F ht⟩) hS1.2.2 hd
theorem pen_any {σ : St} : vf_n64 (FP.dsub FP.dconst1 (q_share σ)) ∧ vf_n64 (FP.dmul (4652007308841189376 : UInt64) (FP.dsub FP.dconst1 (q_share σ))) := by
  obtain ⟨a, b, e, hb, ha⟩ := share_val σ
  unfold q_share
  by_cases h : ((lf_share_6 σ 61 0 (0 : Int32) (0 : Int32)).1) = 0
  · rw [if_pos h]
    exact ⟨show (FP.dsub FP.dconst1 FP.dconst1 &&& 0x7fffffffffffffff ≤ 0x7ff0000000000000) by decide +kernel, show (FP.dmul (4652007308841189376 : UInt64) (FP.dsub FP.dconst1 FP.dconst1) &&& 0x7fffffffffffffff ≤ 0x7ff0000000000000) by decide +kernel⟩
  · rw [if_neg h]
    rw [e] at h ⊢
    exact (share_fp a ha b (by omega) hb (fun z => h (by rw [z]; rfl))).2
theorem pen_sub {σ : St} (hI : MI σ) : vf_n64 (FP.dsub FP.dconst1 (q_share σ)) := pen_any.1
theorem pen_mul {σ : St} (hI : MI σ) : vf_n64 (FP.dmul (4652007308841189376 : UInt64) (FP.dsub FP.dconst1 (q_share σ))) := pen_any.2
def q_penalty (σ : St) : Int32 := FP.d2i (FP.dmul (4652007308841189376 : UInt64) (FP.dsub FP.dconst1 (q_share (st σ 0 0 (0 : Int32)))))
def s_penalty (σ : St) : St := st σ 0 0 (0 : Int32)
set_option maxHeartbeats 1000000 in
set_option maxRecDepth 100000 in
theorem w_penalty {p : Program} {l : Launch} {e : Env} {R : Room} {s : State} {m : MethodId} {args : Array Value} {below : List Frame} {meth : Method} {c : Code} {H : Heap} {locs : List Loc} {cells slots : Nat} {Q : State → Prop} {D : va_G} {A : Nat → Prop} {cI cZ : ClassId} {h : Nat} {ls : Array Slot} (σ : St) (hI : MI σ) (E : mE p c cX6_penalty s m args wsX6_penalty D cI cZ) (hml : c.maxLocals = 3) (hA : ∀ i, i < 44 → A (h + i)) (hR : 2 ≤ R.frames ∧ 45 ≤ R.locals) (hf : cells ≤ R.cells ∧ slots ≤ R.slots) (hP : va_P D vwCl (mW cI cZ h σ) H) (hS : va_S A s.heap H locs) (hl : lv_has ls 3 [(0, .ref h)]) (kr : ∀ (pc : Nat) (rv : Int32) (H1 : Heap) (locs1 : List Loc) (ls1 : Array Slot), decode cX6_penalty pc = .ok (.ireturn, 1) → rv = q_penalty σ → va_P D vwCl (mW cI cZ h (s_penalty σ)) H1 → va_S A s.heap H1 locs1 → W p l e R s m args below meth c H1 locs1 cells slots Q (F0 m pc ls1 [.int rv])) : W p l e R s m args below meth c H locs cells slots Q (F0 m 0 ls []) := by
  have hx := E.1.1
  have hb := E.1.2
  have hts := E.2.1
  have hq : q_penalty σ = FP.d2i (FP.dmul (4652007308841189376 : UInt64) (FP.dsub FP.dconst1 (q_share (st σ 0 0 (0 : Int32))))) := rfl
  have hs : s_penalty σ = st σ 0 0 (0 : Int32) := rfl
  refine lv_aload_n hx hb dX6_penalty_0 rfl (lv_at hl 0 rfl) ?_
  refine lv_iconst (v := 0) hx hb dX6_penalty_1 (by decide) ?_
  refine mp_thrown E hP hA hS (by decide +kernel) dX6_penalty_2 (fun H locs hP hS => ?_)
  refine lv_ldc2d (v := 4652007308841189376) hx hb E.2.2.2.1 (E.2.1 (.constantDouble RX6 252 (4652007308841189376)) (by decide +kernel)) dX6_penalty_5 ?_
  refine lv_dconst1 hx hb dX6_penalty_8 ?_
  refine lv_aload_n hx hb dX6_penalty_9 rfl (lv_at hl 0 rfl) ?_
  refine mcV_d E hml hP hS (c_share l hA (st σ 0 0 (0 : Int32)) (MI_o hI (by decide))) (cwV 0 hts gX6_penalty_X6_share rfl rfl rfl (by decide +kernel) ⟨Nat.le_trans (Nat.le_of_ble_eq_true rfl) hR.1, Nat.le_trans (Nat.le_of_ble_eq_true rfl) hR.2⟩) rfl hl.1 rfl (Nat.le_of_ble_eq_true rfl) dX6_penalty_10 hf (fun H locs hP hS => ?_)
  refine lv_dsub hx hb dX6_penalty_13 (pen_sub (MK_o (MK_refl hI) (by decide)).1) ?_
  refine lv_dmul hx hb dX6_penalty_14 (pen_mul (MK_o (MK_refl hI) (by decide)).1) ?_
  refine lv_dstore_n (lv' := [(1, .double (FP.dmul (4652007308841189376 : UInt64) (FP.dsub FP.dconst1 (q_share (st σ 0 0 (0 : Int32)))))), (0, .ref h)]) hx hb dX6_penalty_15 rfl hl (by decide) rfl (fun ls hl => ?_)
  refine lv_dload_n hx hb dX6_penalty_16 rfl (lv_at hl 0 rfl) ?_
  refine lv_d2i hx hb dX6_penalty_17 ?_
  exact kr _ (FP.d2i (FP.dmul (4652007308841189376 : UInt64) (FP.dsub FP.dconst1 (q_share (st σ 0 0 (0 : Int32)))))) H locs ls dX6_penalty_18 hq.symm (by rw [hs]; exact hP) hS
set_option maxHeartbeats 1000000 in
set_option maxRecDepth 100000 in
theorem c_penalty (l : Launch) {D : va_G} {A : Nat → Prop} {cI cZ : ClassId} {h : Nat} (hA : ∀ i, i < 44 → A (h + i)) (σ : St) (hI : MI σ) : Met l yX6_penalty wsX6_penalty ({ frames := 2, cells := 0, slots := 0, locals := 45 }) (va_Pc [.ref h] (mU D cI cZ h σ)) (va_Qi (fun r (_ : Unit) => r = q_penalty σ) (fun _ t => mU D cI cZ h (s_penalty σ) t) A) 0 0 A := by
  refine Met.ofW (cc := cX6_penalty) (maxL := 3) (ret := (some .int)) (by decide) rfl ?_
  intro p e s m args below meth c s₁ B hml hv
  obtain ⟨rfl, hP, hK⟩ := hv
  have E : mE p c cX6_penalty s m ([.ref h] : List Value).toArray wsX6_penalty D cI cZ := ⟨⟨B.exec, B.bytes⟩, atoms_spec (ws := wsX6_penalty) B.pre, (by decide +kernel), findClass_of_methodNamed B.named, hK⟩
  have hr := B.returns
  have hlocks := B.notSynchronized
  have hl := lv_entry ([.ref h]) (n := 3) (Nat.le_of_ble_eq_true rfl)
  rw [lg_entry_eq]
  generalize (lg_sl ([.ref h]) ++ List.replicate (3 - (lg_sl ([.ref h])).length) Slot.unset).toArray = ls at hl ⊢
  refine w_penalty σ hI E hml hA ⟨Nat.le_of_ble_eq_true rfl, Nat.le_of_ble_eq_true rfl⟩ ⟨Nat.zero_le _, Nat.zero_le _⟩ hP va_S.rf hl (fun pc v H1 locs1 ls1 hd hv hP1 hS1 => ?_)
  exact W.iret (v := v) B.exec B.bytes hr (fun t ht hW => ⟨⟨v, (), rfl, hv, by rw [ht]; exact hP1, va_K.moved hW.alike hK⟩, hS1.F ht⟩) hS1.2.2 hd
