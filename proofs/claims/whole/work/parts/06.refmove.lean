def k44t0_comes (σ : St) (own : Int32) (booking : Int32) : Int32 := if (q_canBe σ own (if (σ 32 ((2 : Int32) * own).toNatClampNeg) ≤ (σ 32 (((2 : Int32) * own) + (1 : Int32)).toNatClampNeg) then (0 : Int32) else (1 : Int32)) booking) = 0 then ((1 : Int32) - (if (σ 32 ((2 : Int32) * own).toNatClampNeg) ≤ (σ 32 (((2 : Int32) * own) + (1 : Int32)).toNatClampNeg) then (0 : Int32) else (1 : Int32))) else (if (σ 32 ((2 : Int32) * own).toNatClampNeg) ≤ (σ 32 (((2 : Int32) * own) + (1 : Int32)).toNatClampNeg) then (0 : Int32) else (1 : Int32))
def s_comes (σ : St) (own : Int32) (booking : Int32) : St := st (st (st (st (st (st σ 35 booking.toNatClampNeg (1 : Int32)) 45 booking.toNatClampNeg (k44t0_comes σ own booking)) 46 booking.toNatClampNeg (σ 30 own.toNatClampNeg)) 32 (((2 : Int32) * own) + (k44t0_comes σ own booking)).toNatClampNeg ((σ 32 (((2 : Int32) * own) + (k44t0_comes σ own booking)).toNatClampNeg) + (σ 39 booking.toNatClampNeg))) 33 (((2 : Int32) * own) + (k44t0_comes σ own booking)).toNatClampNeg ((σ 33 (((2 : Int32) * own) + (k44t0_comes σ own booking)).toNatClampNeg) + (σ 38 booking.toNatClampNeg))) 30 own.toNatClampNeg ((σ 30 own.toNatClampNeg) + (1 : Int32))
set_option maxHeartbeats 4000000 in
set_option maxRecDepth 100000 in
theorem w_comes {p : Program} {l : Launch} {e : Env} {R : Room} {s : State} {m : MethodId} {args : Array Value} {below : List Frame} {meth : Method} {c : Code} {H : Heap} {locs : List Loc} {cells slots : Nat} {Q : State → Prop} {D : va_G} {A : Nat → Prop} {cI cZ : ClassId} {h : Nat} {ls : Array Slot} (σ : St) (own : Int32) (booking : Int32) (hI : MI σ) (h_own : vp_in own 60) (h_booking : vp_in booking 100) (E : mE p c cX6_comes s m args wsX6_comes D cI cZ) (hml : c.maxLocals = 4) (hA : ∀ i, i < 44 → A (h + i)) (hR : 2 ≤ R.frames ∧ 47 ≤ R.locals) (hf : cells ≤ R.cells ∧ slots ≤ R.slots) (hP : va_P D vwCl (mW cI cZ h σ) H) (hS : va_S A s.heap H locs) (hl : lv_has ls 4 [(0, .ref h), (1, .int own), (2, .int booking)]) (kr : ∀ (pc : Nat) (H1 : Heap) (locs1 : List Loc) (ls1 : Array Slot), decode cX6_comes pc = .ok (.return_, 1) → va_P D vwCl (mW cI cZ h (s_comes σ own booking)) H1 → va_S A s.heap H1 locs1 → W p l e R s m args below meth c H1 locs1 cells slots Q (F0 m pc ls1 [])) : W p l e R s m args below meth c H locs cells slots Q (F0 m 0 ls []) := by
  have hx := E.1.1
  have hb := E.1.2
  have hts := E.2.1
  have hs : s_comes σ own booking = st (st (st (st (st (st σ 35 booking.toNatClampNeg (1 : Int32)) 45 booking.toNatClampNeg (k44t0_comes σ own booking)) 46 booking.toNatClampNeg (σ 30 own.toNatClampNeg)) 32 (((2 : Int32) * own) + (k44t0_comes σ own booking)).toNatClampNeg ((σ 32 (((2 : Int32) * own) + (k44t0_comes σ own booking)).toNatClampNeg) + (σ 39 booking.toNatClampNeg))) 33 (((2 : Int32) * own) + (k44t0_comes σ own booking)).toNatClampNeg ((σ 33 (((2 : Int32) * own) + (k44t0_comes σ own booking)).toNatClampNeg) + (σ 38 booking.toNatClampNeg))) 30 own.toNatClampNeg ((σ 30 own.toNatClampNeg) + (1 : Int32)) := rfl
  refine lv_aload_n hx hb dX6_comes_0 rfl (lv_at hl 0 rfl) ?_
  refine mg_weights E hP (by decide +kernel) dX6_comes_1 ?_
  refine lv_iconst (v := 2) hx hb dX6_comes_4 (by decide) ?_
  refine lv_iload_n hx hb dX6_comes_5 rfl (lv_at hl 1 rfl) ?_
  refine lv_imul hx hb dX6_comes_6 ?_
  refine lv_iconst (v := 1) hx hb dX6_comes_7 (by decide) ?_
  refine lv_iadd hx hb dX6_comes_8 ?_
  refine ml_weights E hP (in2 h_own isB1) dX6_comes_9 ?_
  refine lv_aload_n hx hb dX6_comes_10 rfl (lv_at hl 0 rfl) ?_
  refine mg_weights E hP (by decide +kernel) dX6_comes_11 ?_
  refine lv_iconst (v := 2) hx hb dX6_comes_14 (by decide) ?_
  refine lv_iload_n hx hb dX6_comes_15 rfl (lv_at hl 1 rfl) ?_
  refine lv_imul hx hb dX6_comes_16 ?_
  refine ml_weights E hP (in2z h_own) dX6_comes_17 ?_
  have J_1 : ∀ (y1_t0 : Int32) (H : Heap) (locs : List Loc) (ls : Array Slot), y1_t0 = (if (σ 32 ((2 : Int32) * own).toNatClampNeg) ≤ (σ 32 (((2 : Int32) * own) + (1 : Int32)).toNatClampNeg) then (0 : Int32) else (1 : Int32)) → va_P D vwCl (mW cI cZ h σ) H → va_S A s.heap H locs → lv_has ls 4 [(0, .ref h), (1, .int own), (2, .int booking)] → W p l e R s m args below meth c H locs cells slots Q (F0 m 26 ls [.int y1_t0]) := by
    intro y1_t0 H locs ls e_y1_t0 hP hS hl
    subst e_y1_t0
    refine lv_istore_n (lv' := [(3, .int (if (σ 32 ((2 : Int32) * own).toNatClampNeg) ≤ (σ 32 (((2 : Int32) * own) + (1 : Int32)).toNatClampNeg) then (0 : Int32) else (1 : Int32))), (0, .ref h), (1, .int own), (2, .int booking)]) hx hb dX6_comes_26 rfl hl (by decide) rfl (fun ls hl => ?_)
    refine lv_aload_n hx hb dX6_comes_27 rfl (lv_at hl 1 rfl) ?_
    refine lv_iload_n hx hb dX6_comes_28 rfl (lv_at hl 2 rfl) ?_
    refine lv_iload_n hx hb dX6_comes_29 rfl (lv_at hl 0 rfl) ?_
    refine lv_iload_n hx hb dX6_comes_30 rfl (lv_at hl 3 rfl) ?_
    refine mcV_i E hml hP hS (c_canBe l hA σ own (if (σ 32 ((2 : Int32) * own).toNatClampNeg) ≤ (σ 32 (((2 : Int32) * own) + (1 : Int32)).toNatClampNeg) then (0 : Int32) else (1 : Int32)) booking hI h_own (isB_if isB0 isB1) h_booking) (cwV 3 hts gX6_comes_X6_canBe rfl rfl rfl (by decide +kernel) ⟨Nat.le_trans (Nat.le_of_ble_eq_true rfl) hR.1, Nat.le_trans (Nat.le_of_ble_eq_true rfl) hR.2⟩) rfl hl.1 rfl (Nat.le_of_ble_eq_true rfl) dX6_comes_31 hf (fun H locs hP hS => ?_)
    have J_2 : ∀ (y2_t0 : Int32) (H : Heap) (locs : List Loc) (ls : Array Slot), y2_t0 = (k44t0_comes σ own booking) → va_P D vwCl (mW cI cZ h σ) H → va_S A s.heap H locs → lv_has ls 4 [(3, .int (if (σ 32 ((2 : Int32) * own).toNatClampNeg) ≤ (σ 32 (((2 : Int32) * own) + (1 : Int32)).toNatClampNeg) then (0 : Int32) else (1 : Int32))), (0, .ref h), (1, .int own), (2, .int booking)] → W p l e R s m args below meth c H locs cells slots Q (F0 m 44 ls [.int y2_t0]) := by
      intro y2_t0 H locs ls e_y2_t0 hP hS hl
      subst e_y2_t0
      refine lv_istore_n (lv' := [(3, .int (k44t0_comes σ own booking)), (0, .ref h), (1, .int own), (2, .int booking)]) hx hb dX6_comes_44 rfl hl (by decide) rfl (fun ls hl => ?_)
      refine lv_aload_n hx hb dX6_comes_45 rfl (lv_at hl 1 rfl) ?_
      refine mg_how E hP (by decide +kernel) dX6_comes_46 ?_
      refine lv_iload_n hx hb dX6_comes_49 rfl (lv_at hl 3 rfl) ?_
      refine lv_iconst (v := 1) hx hb dX6_comes_50 (by decide) ?_
      refine ms_how E hP hA hS h_booking dX6_comes_51 (fun H locs hP hS => ?_)
      refine lv_aload_n hx hb dX6_comes_52 rfl (lv_at hl 1 rfl) ?_
      refine mg_side E hP (by decide +kernel) dX6_comes_53 ?_
      refine lv_iload_n hx hb dX6_comes_56 rfl (lv_at hl 3 rfl) ?_
      refine lv_iload_n hx hb dX6_comes_57 rfl (lv_at hl 0 rfl) ?_
      refine ms_side E hP hA hS h_booking dX6_comes_58 (fun H locs hP hS => ?_)
      refine lv_aload_n hx hb dX6_comes_59 rfl (lv_at hl 1 rfl) ?_
      refine mg_place E hP (by decide +kernel) dX6_comes_60 ?_
      refine lv_iload_n hx hb dX6_comes_63 rfl (lv_at hl 3 rfl) ?_
      refine lv_aload_n hx hb dX6_comes_64 rfl (lv_at hl 1 rfl) ?_
      refine mg_came E hP (by decide +kernel) dX6_comes_65 ?_
      refine lv_iload_n hx hb dX6_comes_68 rfl (lv_at hl 2 rfl) ?_
      refine mlv_came E hP h_own (v := σ 30 own.toNatClampNeg) rfl dX6_comes_69 ?_
      refine ms_place E hP hA hS h_booking dX6_comes_70 (fun H locs hP hS => ?_)
      refine lv_aload_n hx hb dX6_comes_71 rfl (lv_at hl 1 rfl) ?_
      refine mg_weights E hP (by decide +kernel) dX6_comes_72 ?_
      refine lv_iconst (v := 2) hx hb dX6_comes_75 (by decide) ?_
      refine lv_iload_n hx hb dX6_comes_76 rfl (lv_at hl 2 rfl) ?_
      refine lv_imul hx hb dX6_comes_77 ?_
      refine lv_iload_n hx hb dX6_comes_78 rfl (lv_at hl 0 rfl) ?_
      refine lv_iadd hx hb dX6_comes_79 ?_
      refine lv_dup2_11 hx hb dX6_comes_80 rfl rfl ?_
      refine mlv_weights E hP (in2 h_own (isB_if (isB_sub (isB_if isB0 isB1)) (isB_if isB0 isB1))) (v := σ 32 (((2 : Int32) * own) + (k44t0_comes σ own booking)).toNatClampNeg) rfl dX6_comes_81 ?_
      refine lv_aload_n hx hb dX6_comes_82 rfl (lv_at hl 1 rfl) ?_
      refine mg_weight E hP (by decide +kernel) dX6_comes_83 ?_
      refine lv_iload_n hx hb dX6_comes_86 rfl (lv_at hl 3 rfl) ?_
      refine mlv_weight E hP h_booking (v := σ 39 booking.toNatClampNeg) rfl dX6_comes_87 ?_
      refine lv_iadd hx hb dX6_comes_88 ?_
      refine ms_weights E hP hA hS (in2 h_own (isB_if (isB_sub (isB_if isB0 isB1)) (isB_if isB0 isB1))) dX6_comes_89 (fun H locs hP hS => ?_)
      refine lv_aload_n hx hb dX6_comes_90 rfl (lv_at hl 1 rfl) ?_
      refine mg_lengths E hP (by decide +kernel) dX6_comes_91 ?_
      refine lv_iconst (v := 2) hx hb dX6_comes_94 (by decide) ?_
      refine lv_iload_n hx hb dX6_comes_95 rfl (lv_at hl 2 rfl) ?_
      refine lv_imul hx hb dX6_comes_96 ?_
      refine lv_iload_n hx hb dX6_comes_97 rfl (lv_at hl 0 rfl) ?_
      refine lv_iadd hx hb dX6_comes_98 ?_
      refine lv_dup2_11 hx hb dX6_comes_99 rfl rfl ?_
      refine mlv_lengths E hP (in2 h_own (isB_if (isB_sub (isB_if isB0 isB1)) (isB_if isB0 isB1))) (v := σ 33 (((2 : Int32) * own) + (k44t0_comes σ own booking)).toNatClampNeg) rfl dX6_comes_100 ?_
      refine lv_aload_n hx hb dX6_comes_101 rfl (lv_at hl 1 rfl) ?_
      refine mg_length E hP (by decide +kernel) dX6_comes_102 ?_
      refine lv_iload_n hx hb dX6_comes_105 rfl (lv_at hl 3 rfl) ?_
      refine mlv_length E hP h_booking (v := σ 38 booking.toNatClampNeg) rfl dX6_comes_106 ?_
      refine lv_iadd hx hb dX6_comes_107 ?_
      refine ms_lengths E hP hA hS (in2 h_own (isB_if (isB_sub (isB_if isB0 isB1)) (isB_if isB0 isB1))) dX6_comes_108 (fun H locs hP hS => ?_)
      refine lv_aload_n hx hb dX6_comes_109 rfl (lv_at hl 1 rfl) ?_
      refine mg_came E hP (by decide +kernel) dX6_comes_110 ?_
      refine lv_iload_n hx hb dX6_comes_113 rfl (lv_at hl 2 rfl) ?_
      refine lv_dup2_11 hx hb dX6_comes_114 rfl rfl ?_
      refine mlv_came E hP h_own (v := σ 30 own.toNatClampNeg) rfl dX6_comes_115 ?_
      refine lv_iconst (v := 1) hx hb dX6_comes_116 (by decide) ?_
      refine lv_iadd hx hb dX6_comes_117 ?_
      refine ms_came E hP hA hS h_own dX6_comes_118 (fun H locs hP hS => ?_)
      exact kr _ H locs ls dX6_comes_119 (by rw [hs]; exact hP) hS
    refine lv_if_eq (tgt := 41) hx hb dX6_comes_34 (by decide) (fun c_2 => ?_) (fun c_2 => ?_)
    · refine lv_iconst (v := 1) hx hb dX6_comes_41 (by decide) ?_
      refine lv_iload_n hx hb dX6_comes_42 rfl (lv_at hl 0 rfl) ?_
      refine lv_isub hx hb dX6_comes_43 ?_
      exact J_2 ((1 : Int32) - (if (σ 32 ((2 : Int32) * own).toNatClampNeg) ≤ (σ 32 (((2 : Int32) * own) + (1 : Int32)).toNatClampNeg) then (0 : Int32) else (1 : Int32))) H locs ls (if_pos c_2).symm hP hS (lv_sub hl [0, 1, 2, 3] rfl)
    refine lv_iload_n hx hb dX6_comes_37 rfl (lv_at hl 0 rfl) ?_
    refine lv_goto (tgt := 44) hx hb dX6_comes_38 (by decide) ?_
    exact J_2 (if (σ 32 ((2 : Int32) * own).toNatClampNeg) ≤ (σ 32 (((2 : Int32) * own) + (1 : Int32)).toNatClampNeg) then (0 : Int32) else (1 : Int32)) H locs ls (if_neg c_2).symm hP hS (lv_sub hl [0, 1, 2, 3] rfl)
  refine lv_icmp_ge (tgt := 25) hx hb dX6_comes_18 (by decide) (fun c_1 => ?_) (fun c_1 => ?_)
  · refine lv_iconst (v := 0) hx hb dX6_comes_25 (by decide) ?_
    exact J_1 (0 : Int32) H locs ls (if_pos c_1).symm hP hS (lv_sub hl [0, 1, 2] rfl)
  refine lv_iconst (v := 1) hx hb dX6_comes_21 (by decide) ?_
  refine lv_goto (tgt := 26) hx hb dX6_comes_22 (by decide) ?_
  exact J_1 (1 : Int32) H locs ls (if_neg c_1).symm hP hS (lv_sub hl [0, 1, 2] rfl)
set_option maxHeartbeats 4000000 in
set_option maxRecDepth 100000 in
theorem c_comes (l : Launch) {D : va_G} {A : Nat → Prop} {cI cZ : ClassId} {h : Nat} (hA : ∀ i, i < 44 → A (h + i)) (σ : St) (own : Int32) (booking : Int32) (hI : MI σ) (h_own : vp_in own 60) (h_booking : vp_in booking 100) : Met l yX6_comes wsX6_comes ({ frames := 2, cells := 0, slots := 0, locals := 47 }) (va_Pc [.ref h, .int own, .int booking] (mU D cI cZ h σ)) (va_Qv (fun (_ : Unit) => True) (fun _ t => mU D cI cZ h (s_comes σ own booking) t) A) 0 0 A := by
  refine Met.ofW (cc := cX6_comes) (maxL := 4) (ret := none) (by decide) rfl ?_
  intro p e s m args below meth c s₁ B hml hv
  obtain ⟨rfl, hP, hK⟩ := hv
  have E : mE p c cX6_comes s m ([.ref h, .int own, .int booking] : List Value).toArray wsX6_comes D cI cZ := ⟨⟨B.exec, B.bytes⟩, atoms_spec (ws := wsX6_comes) B.pre, (by decide +kernel), findClass_of_methodNamed B.named, hK⟩
  have hr := B.returns
  have hlocks := B.notSynchronized
  have hl := lv_entry ([.ref h, .int own, .int booking]) (n := 4) (Nat.le_of_ble_eq_true rfl)
  rw [lg_entry_eq]
  generalize (lg_sl ([.ref h, .int own, .int booking]) ++ List.replicate (4 - (lg_sl ([.ref h, .int own, .int booking])).length) Slot.unset).toArray = ls at hl ⊢
  refine w_comes σ own booking hI h_own h_booking E hml hA ⟨Nat.le_of_ble_eq_true rfl, Nat.le_of_ble_eq_true rfl⟩ ⟨Nat.zero_le _, Nat.zero_le _⟩ hP va_S.rf hl (fun pc H1 locs1 ls1 hd hP1 hS1 => ?_)
  exact W.vret B.exec B.bytes hr (fun t ht hW => ⟨⟨(), rfl, trivial, by rw [ht]; exact hP1, va_K.moved hW.alike hK⟩, hS1.F ht⟩) hS1.2.2 hd
theorem MK_s_comes {σ : St} {own booking : Int32} (hI : MI σ) (h_own : vp_in own 60) (h_booking : vp_in booking 100) : MK σ (s_comes σ own booking) := by
  unfold s_comes
  repeat (first | exact MK_refl hI | refine MK_o ?_ (by decide))
def lf_goesOver_13 (σ : St) (booking : Int32) (why : Int32) : Nat → Nat → Int32 → Int32
  | 0, _, x4 => x4
  | n + 1, i, x4 => if (σ 21 0) ≤ (nI i) then x4 else (lf_goesOver_13 σ booking why n (i + 1) (if (if (σ 22 (nI i).toNatClampNeg) = 0 then (if (σ 24 (nI i).toNatClampNeg) = (σ 24 (σ 36 booking.toNatClampNeg).toNatClampNeg) then (if (σ 25 (nI i).toNatClampNeg) = (σ 25 (σ 36 booking.toNatClampNeg).toNatClampNeg) then (if (σ 26 (nI i).toNatClampNeg) < (σ 1 0) then (0 : Int32) else (1 : Int32)) else (0 : Int32)) else (0 : Int32)) else (0 : Int32)) = 0 then x4 else (if x4 = ((-1) : Int32) then (nI i) else (if (σ 26 x4.toNatClampNeg) ≤ (σ 26 (nI i).toNatClampNeg) then x4 else (nI i)))))
def s_goesOver (σ : St) (booking : Int32) (why : Int32) : St := if (lf_goesOver_13 σ booking why 61 0 ((-1) : Int32)) = ((-1) : Int32) then (st (st (st σ 44 booking.toNatClampNeg why) 43 booking.toNatClampNeg ((σ 43 booking.toNatClampNeg) + (1 : Int32))) 35 booking.toNatClampNeg (3 : Int32)) else (st (st (st σ 44 booking.toNatClampNeg why) 43 booking.toNatClampNeg ((σ 43 booking.toNatClampNeg) + (1 : Int32))) 36 booking.toNatClampNeg (lf_goesOver_13 σ booking why 61 0 ((-1) : Int32)))
set_option maxHeartbeats 4000000 in
set_option maxRecDepth 100000 in
theorem w_goesOver {p : Program} {l : Launch} {e : Env} {R : Room} {s : State} {m : MethodId} {args : Array Value} {below : List Frame} {meth : Method} {c : Code} {H : Heap} {locs : List Loc} {cells slots : Nat} {Q : State → Prop} {D : va_G} {A : Nat → Prop} {cI cZ : ClassId} {h : Nat} {ls : Array Slot} (σ : St) (booking : Int32) (why : Int32) (hI : MI σ) (h_booking : vp_in booking 100) (E : mE p c cX6_goesOver s m args wsX6_goesOver D cI cZ) (hml : c.maxLocals = 7) (hA : ∀ i, i < 44 → A (h + i)) (hR : 0 ≤ R.frames ∧ 0 ≤ R.locals) (hf : cells ≤ R.cells ∧ slots ≤ R.slots) (hP : va_P D vwCl (mW cI cZ h σ) H) (hS : va_S A s.heap H locs) (hl : lv_has ls 7 [(0, .ref h), (1, .int booking), (2, .int why)]) (kr : ∀ (pc : Nat) (H1 : Heap) (locs1 : List Loc) (ls1 : Array Slot), decode cX6_goesOver pc = .ok (.return_, 1) → va_P D vwCl (mW cI cZ h (s_goesOver σ booking why)) H1 → va_S A s.heap H1 locs1 → W p l e R s m args below meth c H1 locs1 cells slots Q (F0 m pc ls1 [])) : W p l e R s m args below meth c H locs cells slots Q (F0 m 0 ls []) := by
  have hx := E.1.1
  have hb := E.1.2
  have hts := E.2.1
  have hs : s_goesOver σ booking why = if (lf_goesOver_13 σ booking why 61 0 ((-1) : Int32)) = ((-1) : Int32) then (st (st (st σ 44 booking.toNatClampNeg why) 43 booking.toNatClampNeg ((σ 43 booking.toNatClampNeg) + (1 : Int32))) 35 booking.toNatClampNeg (3 : Int32)) else (st (st (st σ 44 booking.toNatClampNeg why) 43 booking.toNatClampNeg ((σ 43 booking.toNatClampNeg) + (1 : Int32))) 36 booking.toNatClampNeg (lf_goesOver_13 σ booking why 61 0 ((-1) : Int32))) := rfl
  refine lv_aload_n hx hb dX6_goesOver_0 rfl (lv_at hl 0 rfl) ?_
  refine mg_on E hP (by decide +kernel) dX6_goesOver_1 ?_
  refine lv_iload_n hx hb dX6_goesOver_4 rfl (lv_at hl 1 rfl) ?_
  refine ml_on E hP h_booking dX6_goesOver_5 ?_
  refine lv_istore_n (lv' := [(3, .int (σ 36 booking.toNatClampNeg)), (0, .ref h), (1, .int booking), (2, .int why)]) hx hb dX6_goesOver_6 rfl hl (by decide) rfl (fun ls hl => ?_)
  refine lv_iconst (v := -1) hx hb dX6_goesOver_7 (by decide) ?_
  refine lv_istore (lv' := [(4, .int ((-1) : Int32)), (3, .int (σ 36 booking.toNatClampNeg)), (0, .ref h), (1, .int booking), (2, .int why)]) hx hb dX6_goesOver_8 hl (by decide) rfl (fun ls hl => ?_)
  refine lv_iconst (v := 0) hx hb dX6_goesOver_10 (by decide) ?_
  refine lv_istore (lv' := [(5, .int (0 : Int32)), (4, .int ((-1) : Int32)), (3, .int (σ 36 booking.toNatClampNeg)), (0, .ref h), (1, .int booking), (2, .int why)]) hx hb dX6_goesOver_11 hl (by decide) rfl (fun ls hl => ?_)
  obtain ⟨C, hC, eC⟩ := MI_n21 hI
  have L_9 : ∀ (n : Nat) (i : Nat) (x4 : Int32) (H : Heap) (locs : List Loc) (ls : Array Slot), i + n = 61 → i ≤ C → lf_goesOver_13 σ booking why n i x4 = lf_goesOver_13 σ booking why 61 0 ((-1) : Int32) → nx x4 60 → va_P D vwCl (mW cI cZ h σ) H → va_S A s.heap H locs → lv_has ls 7 [(5, .int (nI i)), (4, .int x4), (3, .int (σ 36 booking.toNatClampNeg)), (0, .ref h), (1, .int booking), (2, .int why)] → W p l e R s m args below meth c H locs cells slots Q (F0 m 13 ls []) := by
    intro n
    induction n with
    | zero => intro i x4 H locs ls hin hiC; omega
    | succ n ih =>
      intro i x4 H locs ls hin hiC hfin hv hP hS hl
      have hfin : (if (σ 21 0) ≤ (nI i) then x4 else (lf_goesOver_13 σ booking why n (i + 1) (if (if (σ 22 (nI i).toNatClampNeg) = 0 then (if (σ 24 (nI i).toNatClampNeg) = (σ 24 (σ 36 booking.toNatClampNeg).toNatClampNeg) then (if (σ 25 (nI i).toNatClampNeg) = (σ 25 (σ 36 booking.toNatClampNeg).toNatClampNeg) then (if (σ 26 (nI i).toNatClampNeg) < (σ 1 0) then (0 : Int32) else (1 : Int32)) else (0 : Int32)) else (0 : Int32)) else (0 : Int32)) = 0 then x4 else (if x4 = ((-1) : Int32) then (nI i) else (if (σ 26 x4.toNatClampNeg) ≤ (σ 26 (nI i).toNatClampNeg) then x4 else (nI i)))))) = lf_goesOver_13 σ booking why 61 0 ((-1) : Int32) := hfin
      refine lv_iload hx hb dX6_goesOver_13 (lv_at hl 0 rfl) ?_
      refine lv_aload_n hx hb dX6_goesOver_15 rfl (lv_at hl 3 rfl) ?_
      refine mg_sailings E hP (by decide +kernel) dX6_goesOver_16 ?_
      refine lv_icmp_ge (tgt := 128) hx hb dX6_goesOver_19 (by decide) (fun c_1 => ?_) (fun c_1 => ?_)
      · have hfin := (if_pos c_1).symm.trans hfin
        subst hfin
        have hl := lv_sub hl [1, 2, 3, 4, 5] rfl
        refine lv_aload_n hx hb dX6_goesOver_128 rfl (lv_at hl 2 rfl) ?_
        refine mg_latest E hP (by decide +kernel) dX6_goesOver_129 ?_
        refine lv_iload_n hx hb dX6_goesOver_132 rfl (lv_at hl 3 rfl) ?_
        refine lv_iload_n hx hb dX6_goesOver_133 rfl (lv_at hl 4 rfl) ?_
        refine ms_latest E hP hA hS h_booking dX6_goesOver_134 (fun H locs hP hS => ?_)
        refine lv_aload_n hx hb dX6_goesOver_135 rfl (lv_at hl 2 rfl) ?_
        refine mg_points E hP (by decide +kernel) dX6_goesOver_136 ?_
        refine lv_iload_n hx hb dX6_goesOver_139 rfl (lv_at hl 3 rfl) ?_
        refine lv_dup2_11 hx hb dX6_goesOver_140 rfl rfl ?_
        refine mlv_points E hP h_booking (v := σ 43 booking.toNatClampNeg) rfl dX6_goesOver_141 ?_
        refine lv_iconst (v := 1) hx hb dX6_goesOver_142 (by decide) ?_
        refine lv_iadd hx hb dX6_goesOver_143 ?_
        refine ms_points E hP hA hS h_booking dX6_goesOver_144 (fun H locs hP hS => ?_)
        refine lv_iload hx hb dX6_goesOver_145 (lv_at hl 0 rfl) ?_
        refine lv_iconst (v := -1) hx hb dX6_goesOver_147 (by decide) ?_
        have J_10 : ∀ (ρ10 : St) (H : Heap) (locs : List Loc) (ls : Array Slot), ρ10 = (if (lf_goesOver_13 σ booking why 61 0 ((-1) : Int32)) = ((-1) : Int32) then (st (st (st σ 44 booking.toNatClampNeg why) 43 booking.toNatClampNeg ((σ 43 booking.toNatClampNeg) + (1 : Int32))) 35 booking.toNatClampNeg (3 : Int32)) else (st (st (st σ 44 booking.toNatClampNeg why) 43 booking.toNatClampNeg ((σ 43 booking.toNatClampNeg) + (1 : Int32))) 36 booking.toNatClampNeg (lf_goesOver_13 σ booking why 61 0 ((-1) : Int32)))) → va_P D vwCl (mW cI cZ h ρ10) H → va_S A s.heap H locs → lv_has ls 7 [(4, .int (lf_goesOver_13 σ booking why 61 0 ((-1) : Int32))), (3, .int (σ 36 booking.toNatClampNeg)), (0, .ref h), (1, .int booking), (2, .int why)] → W p l e R s m args below meth c H locs cells slots Q (F0 m 169 ls []) := by
          intro ρ10 H locs ls e_ρ10 hP hS hl
          subst e_ρ10
          exact kr _ H locs ls dX6_goesOver_169 (by rw [hs]; exact hP) hS
        refine lv_icmp_ne (tgt := 161) hx hb dX6_goesOver_148 (by decide) (fun c_10 => ?_) (fun c_10 => ?_)
        · refine lv_aload_n hx hb dX6_goesOver_161 rfl (lv_at hl 2 rfl) ?_
          refine mg_on E hP (by decide +kernel) dX6_goesOver_162 ?_
          refine lv_iload_n hx hb dX6_goesOver_165 rfl (lv_at hl 3 rfl) ?_
          refine lv_iload hx hb dX6_goesOver_166 (lv_at hl 0 rfl) ?_
          refine ms_on E hP hA hS h_booking dX6_goesOver_168 (fun H locs hP hS => ?_)
          exact J_10 (st (st (st σ 44 booking.toNatClampNeg why) 43 booking.toNatClampNeg ((σ 43 booking.toNatClampNeg) + (1 : Int32))) 36 booking.toNatClampNeg (lf_goesOver_13 σ booking why 61 0 ((-1) : Int32))) H locs ls (if_neg c_10).symm hP hS (lv_sub hl [0, 1, 2, 3, 4] rfl)
        refine lv_aload_n hx hb dX6_goesOver_151 rfl (lv_at hl 2 rfl) ?_
        refine mg_how E hP (by decide +kernel) dX6_goesOver_152 ?_
        refine lv_iload_n hx hb dX6_goesOver_155 rfl (lv_at hl 3 rfl) ?_
        refine lv_iconst (v := 3) hx hb dX6_goesOver_156 (by decide) ?_
        refine ms_how E hP hA hS h_booking dX6_goesOver_157 (fun H locs hP hS => ?_)
        refine lv_goto (tgt := 169) hx hb dX6_goesOver_158 (by decide) ?_
        exact J_10 (st (st (st σ 44 booking.toNatClampNeg why) 43 booking.toNatClampNeg ((σ 43 booking.toNatClampNeg) + (1 : Int32))) 35 booking.toNatClampNeg (3 : Int32)) H locs ls (if_pos c_10).symm hP hS (lv_sub hl [0, 1, 2, 3, 4] rfl)
      have hfin := (if_neg c_1).symm.trans hfin
      have hlt : i < C := m_lt eC c_1 (by omega) (by omega)
      refine lv_aload_n hx hb dX6_goesOver_22 rfl (lv_at hl 3 rfl) ?_
      refine mg_state E hP (by decide +kernel) dX6_goesOver_23 ?_
      refine lv_iload hx hb dX6_goesOver_26 (lv_at hl 0 rfl) ?_
      refine ml_state E hP (vp_in_nI (n := i) (by omega) (by omega)) dX6_goesOver_28 ?_
      have J_2 : ∀ (y2_t0 : Int32) (H : Heap) (locs : List Loc) (ls : Array Slot), y2_t0 = (if (σ 22 (nI i).toNatClampNeg) = 0 then (if (σ 24 (nI i).toNatClampNeg) = (σ 24 (σ 36 booking.toNatClampNeg).toNatClampNeg) then (if (σ 25 (nI i).toNatClampNeg) = (σ 25 (σ 36 booking.toNatClampNeg).toNatClampNeg) then (if (σ 26 (nI i).toNatClampNeg) < (σ 1 0) then (0 : Int32) else (1 : Int32)) else (0 : Int32)) else (0 : Int32)) else (0 : Int32)) → va_P D vwCl (mW cI cZ h σ) H → va_S A s.heap H locs → lv_has ls 7 [(5, .int (nI i)), (4, .int x4), (3, .int (σ 36 booking.toNatClampNeg)), (0, .ref h), (1, .int booking), (2, .int why)] → W p l e R s m args below meth c H locs cells slots Q (F0 m 83 ls [.int y2_t0]) := by
        intro y2_t0 H locs ls e_y2_t0 hP hS hl
        subst e_y2_t0
        refine lv_istore (lv' := [(6, .int (if (σ 22 (nI i).toNatClampNeg) = 0 then (if (σ 24 (nI i).toNatClampNeg) = (σ 24 (σ 36 booking.toNatClampNeg).toNatClampNeg) then (if (σ 25 (nI i).toNatClampNeg) = (σ 25 (σ 36 booking.toNatClampNeg).toNatClampNeg) then (if (σ 26 (nI i).toNatClampNeg) < (σ 1 0) then (0 : Int32) else (1 : Int32)) else (0 : Int32)) else (0 : Int32)) else (0 : Int32))), (5, .int (nI i)), (4, .int x4), (3, .int (σ 36 booking.toNatClampNeg)), (0, .ref h), (1, .int booking), (2, .int why)]) hx hb dX6_goesOver_83 hl (by decide) rfl (fun ls hl => ?_)
        refine lv_iload hx hb dX6_goesOver_85 (lv_at hl 0 rfl) ?_
        have J_6 : ∀ (y6_t0 : Int32) (H : Heap) (locs : List Loc) (ls : Array Slot), y6_t0 = (if (if (σ 22 (nI i).toNatClampNeg) = 0 then (if (σ 24 (nI i).toNatClampNeg) = (σ 24 (σ 36 booking.toNatClampNeg).toNatClampNeg) then (if (σ 25 (nI i).toNatClampNeg) = (σ 25 (σ 36 booking.toNatClampNeg).toNatClampNeg) then (if (σ 26 (nI i).toNatClampNeg) < (σ 1 0) then (0 : Int32) else (1 : Int32)) else (0 : Int32)) else (0 : Int32)) else (0 : Int32)) = 0 then x4 else (if x4 = ((-1) : Int32) then (nI i) else (if (σ 26 x4.toNatClampNeg) ≤ (σ 26 (nI i).toNatClampNeg) then x4 else (nI i)))) → va_P D vwCl (mW cI cZ h σ) H → va_S A s.heap H locs → lv_has ls 7 [(6, .int (if (σ 22 (nI i).toNatClampNeg) = 0 then (if (σ 24 (nI i).toNatClampNeg) = (σ 24 (σ 36 booking.toNatClampNeg).toNatClampNeg) then (if (σ 25 (nI i).toNatClampNeg) = (σ 25 (σ 36 booking.toNatClampNeg).toNatClampNeg) then (if (σ 26 (nI i).toNatClampNeg) < (σ 1 0) then (0 : Int32) else (1 : Int32)) else (0 : Int32)) else (0 : Int32)) else (0 : Int32))), (5, .int (nI i)), (4, .int x4), (3, .int (σ 36 booking.toNatClampNeg)), (0, .ref h), (1, .int booking), (2, .int why)] → W p l e R s m args below meth c H locs cells slots Q (F0 m 120 ls [.int y6_t0]) := by
          intro y6_t0 H locs ls e_y6_t0 hP hS hl
          subst e_y6_t0
          refine lv_istore (lv' := [(4, .int (if (if (σ 22 (nI i).toNatClampNeg) = 0 then (if (σ 24 (nI i).toNatClampNeg) = (σ 24 (σ 36 booking.toNatClampNeg).toNatClampNeg) then (if (σ 25 (nI i).toNatClampNeg) = (σ 25 (σ 36 booking.toNatClampNeg).toNatClampNeg) then (if (σ 26 (nI i).toNatClampNeg) < (σ 1 0) then (0 : Int32) else (1 : Int32)) else (0 : Int32)) else (0 : Int32)) else (0 : Int32)) = 0 then x4 else (if x4 = ((-1) : Int32) then (nI i) else (if (σ 26 x4.toNatClampNeg) ≤ (σ 26 (nI i).toNatClampNeg) then x4 else (nI i))))), (6, .int (if (σ 22 (nI i).toNatClampNeg) = 0 then (if (σ 24 (nI i).toNatClampNeg) = (σ 24 (σ 36 booking.toNatClampNeg).toNatClampNeg) then (if (σ 25 (nI i).toNatClampNeg) = (σ 25 (σ 36 booking.toNatClampNeg).toNatClampNeg) then (if (σ 26 (nI i).toNatClampNeg) < (σ 1 0) then (0 : Int32) else (1 : Int32)) else (0 : Int32)) else (0 : Int32)) else (0 : Int32))), (5, .int (nI i)), (3, .int (σ 36 booking.toNatClampNeg)), (0, .ref h), (1, .int booking), (2, .int why)]) hx hb dX6_goesOver_120 hl (by decide) rfl (fun ls hl => ?_)
          refine lv_iinc (v := nI (i + 1)) (lv' := [(5, .int (nI (i + 1))), (4, .int (if (if (σ 22 (nI i).toNatClampNeg) = 0 then (if (σ 24 (nI i).toNatClampNeg) = (σ 24 (σ 36 booking.toNatClampNeg).toNatClampNeg) then (if (σ 25 (nI i).toNatClampNeg) = (σ 25 (σ 36 booking.toNatClampNeg).toNatClampNeg) then (if (σ 26 (nI i).toNatClampNeg) < (σ 1 0) then (0 : Int32) else (1 : Int32)) else (0 : Int32)) else (0 : Int32)) else (0 : Int32)) = 0 then x4 else (if x4 = ((-1) : Int32) then (nI i) else (if (σ 26 x4.toNatClampNeg) ≤ (σ 26 (nI i).toNatClampNeg) then x4 else (nI i))))), (6, .int (if (σ 22 (nI i).toNatClampNeg) = 0 then (if (σ 24 (nI i).toNatClampNeg) = (σ 24 (σ 36 booking.toNatClampNeg).toNatClampNeg) then (if (σ 25 (nI i).toNatClampNeg) = (σ 25 (σ 36 booking.toNatClampNeg).toNatClampNeg) then (if (σ 26 (nI i).toNatClampNeg) < (σ 1 0) then (0 : Int32) else (1 : Int32)) else (0 : Int32)) else (0 : Int32)) else (0 : Int32))), (3, .int (σ 36 booking.toNatClampNeg)), (0, .ref h), (1, .int booking), (2, .int why)]) hx hb dX6_goesOver_122 hl (k := 2) rfl (by first | rfl | exact nI_1 _) (by decide) rfl (fun ls hl => ?_)
          refine lv_goto (tgt := 13) hx hb dX6_goesOver_125 (by decide) ?_
          exact ih (i + 1) (if (if (σ 22 (nI i).toNatClampNeg) = 0 then (if (σ 24 (nI i).toNatClampNeg) = (σ 24 (σ 36 booking.toNatClampNeg).toNatClampNeg) then (if (σ 25 (nI i).toNatClampNeg) = (σ 25 (σ 36 booking.toNatClampNeg).toNatClampNeg) then (if (σ 26 (nI i).toNatClampNeg) < (σ 1 0) then (0 : Int32) else (1 : Int32)) else (0 : Int32)) else (0 : Int32)) else (0 : Int32)) = 0 then x4 else (if x4 = ((-1) : Int32) then (nI i) else (if (σ 26 x4.toNatClampNeg) ≤ (σ 26 (nI i).toNatClampNeg) then x4 else (nI i)))) H locs ls (by omega) (by omega) hfin (by repeat (first | exact hv | exact nx_i eC hC (by omega) (by omega) (by assumption) | apply nx_if)) hP hS (lv_sub hl [0, 1, 3, 4, 5, 6] rfl)
        refine lv_if_eq (tgt := 118) hx hb dX6_goesOver_87 (by decide) (fun c_6 => ?_) (fun c_6 => ?_)
        · refine lv_iload hx hb dX6_goesOver_118 (lv_at hl 2 rfl) ?_
          exact J_6 x4 H locs ls (if_pos c_6).symm hP hS (lv_sub hl [0, 1, 2, 3, 4, 5, 6] rfl)
        refine lv_iload hx hb dX6_goesOver_90 (lv_at hl 2 rfl) ?_
        refine lv_iconst (v := -1) hx hb dX6_goesOver_92 (by decide) ?_
        refine lv_icmp_eq (tgt := 113) hx hb dX6_goesOver_93 (by decide) (fun c_7 => ?_) (fun c_7 => ?_)
        · refine lv_iload hx hb dX6_goesOver_113 (lv_at hl 1 rfl) ?_
          refine lv_goto (tgt := 120) hx hb dX6_goesOver_115 (by decide) ?_
          exact J_6 (nI i) H locs ls ((if_pos c_7).symm.trans (if_neg c_6).symm) hP hS (lv_sub hl [0, 1, 2, 3, 4, 5, 6] rfl)
        refine lv_aload_n hx hb dX6_goesOver_96 rfl (lv_at hl 4 rfl) ?_
        refine mg_departs E hP (by decide +kernel) dX6_goesOver_97 ?_
        refine lv_iload hx hb dX6_goesOver_100 (lv_at hl 1 rfl) ?_
        refine ml_departs E hP (vp_in_nI (n := i) (by omega) (by omega)) dX6_goesOver_102 ?_
        refine lv_aload_n hx hb dX6_goesOver_103 rfl (lv_at hl 4 rfl) ?_
        refine mg_departs E hP (by decide +kernel) dX6_goesOver_104 ?_
        refine lv_iload hx hb dX6_goesOver_107 (lv_at hl 2 rfl) ?_
        refine ml_departs E hP (Or.resolve_left hv (by assumption)) dX6_goesOver_109 ?_
        refine lv_icmp_ge (tgt := 118) hx hb dX6_goesOver_110 (by decide) (fun c_8 => ?_) (fun c_8 => ?_)
        · refine lv_iload hx hb dX6_goesOver_118 (lv_at hl 2 rfl) ?_
          exact J_6 x4 H locs ls ((if_pos c_8).symm.trans ((if_neg c_7).symm.trans (if_neg c_6).symm)) hP hS (lv_sub hl [0, 1, 2, 3, 4, 5, 6] rfl)
        refine lv_iload hx hb dX6_goesOver_113 (lv_at hl 1 rfl) ?_
        refine lv_goto (tgt := 120) hx hb dX6_goesOver_115 (by decide) ?_
        exact J_6 (nI i) H locs ls ((if_neg c_8).symm.trans ((if_neg c_7).symm.trans (if_neg c_6).symm)) hP hS (lv_sub hl [0, 1, 2, 3, 4, 5, 6] rfl)
      refine lv_if_ne (tgt := 82) hx hb dX6_goesOver_29 (by decide) (fun c_2 => ?_) (fun c_2 => ?_)
      · refine lv_iconst (v := 0) hx hb dX6_goesOver_82 (by decide) ?_
        exact J_2 (0 : Int32) H locs ls (if_neg c_2).symm hP hS (lv_sub hl [0, 1, 2, 3, 4, 5] rfl)
      refine lv_aload_n hx hb dX6_goesOver_32 rfl (lv_at hl 3 rfl) ?_
      refine mg_from E hP (by decide +kernel) dX6_goesOver_33 ?_
      refine lv_iload hx hb dX6_goesOver_36 (lv_at hl 0 rfl) ?_
      refine ml_from E hP (vp_in_nI (n := i) (by omega) (by omega)) dX6_goesOver_38 ?_
      refine lv_aload_n hx hb dX6_goesOver_39 rfl (lv_at hl 3 rfl) ?_
      refine mg_from E hP (by decide +kernel) dX6_goesOver_40 ?_
      refine lv_iload_n hx hb dX6_goesOver_43 rfl (lv_at hl 2 rfl) ?_
      refine ml_from E hP (MI_on hI _) dX6_goesOver_44 ?_
      refine lv_icmp_ne (tgt := 82) hx hb dX6_goesOver_45 (by decide) (fun c_3 => ?_) (fun c_3 => ?_)
      · refine lv_iconst (v := 0) hx hb dX6_goesOver_82 (by decide) ?_
        exact J_2 (0 : Int32) H locs ls ((if_neg c_3).symm.trans (if_pos c_2).symm) hP hS (lv_sub hl [0, 1, 2, 3, 4, 5] rfl)
      refine lv_aload_n hx hb dX6_goesOver_48 rfl (lv_at hl 3 rfl) ?_
      refine mg_to E hP (by decide +kernel) dX6_goesOver_49 ?_
      refine lv_iload hx hb dX6_goesOver_52 (lv_at hl 0 rfl) ?_
      refine ml_to E hP (vp_in_nI (n := i) (by omega) (by omega)) dX6_goesOver_54 ?_
      refine lv_aload_n hx hb dX6_goesOver_55 rfl (lv_at hl 3 rfl) ?_
      refine mg_to E hP (by decide +kernel) dX6_goesOver_56 ?_
      refine lv_iload_n hx hb dX6_goesOver_59 rfl (lv_at hl 2 rfl) ?_
      refine ml_to E hP (MI_on hI _) dX6_goesOver_60 ?_
      refine lv_icmp_ne (tgt := 82) hx hb dX6_goesOver_61 (by decide) (fun c_4 => ?_) (fun c_4 => ?_)
      · refine lv_iconst (v := 0) hx hb dX6_goesOver_82 (by decide) ?_
        exact J_2 (0 : Int32) H locs ls ((if_neg c_4).symm.trans ((if_pos c_3).symm.trans (if_pos c_2).symm)) hP hS (lv_sub hl [0, 1, 2, 3, 4, 5] rfl)
      refine lv_aload_n hx hb dX6_goesOver_64 rfl (lv_at hl 3 rfl) ?_
      refine mg_departs E hP (by decide +kernel) dX6_goesOver_65 ?_
      refine lv_iload hx hb dX6_goesOver_68 (lv_at hl 0 rfl) ?_
      refine ml_departs E hP (vp_in_nI (n := i) (by omega) (by omega)) dX6_goesOver_70 ?_
      refine lv_aload_n hx hb dX6_goesOver_71 rfl (lv_at hl 3 rfl) ?_
      refine mg_now E hP (by decide +kernel) dX6_goesOver_72 ?_
      refine lv_icmp_lt (tgt := 82) hx hb dX6_goesOver_75 (by decide) (fun c_5 => ?_) (fun c_5 => ?_)
      · refine lv_iconst (v := 0) hx hb dX6_goesOver_82 (by decide) ?_
        exact J_2 (0 : Int32) H locs ls ((if_pos c_5).symm.trans ((if_pos c_4).symm.trans ((if_pos c_3).symm.trans (if_pos c_2).symm))) hP hS (lv_sub hl [0, 1, 2, 3, 4, 5] rfl)
      refine lv_iconst (v := 1) hx hb dX6_goesOver_78 (by decide) ?_
      refine lv_goto (tgt := 83) hx hb dX6_goesOver_79 (by decide) ?_
      exact J_2 (1 : Int32) H locs ls ((if_neg c_5).symm.trans ((if_pos c_4).symm.trans ((if_pos c_3).symm.trans (if_pos c_2).symm))) hP hS (lv_sub hl [0, 1, 2, 3, 4, 5] rfl)
  exact L_9 61 0 ((-1) : Int32) H locs ls (by omega) (Nat.zero_le _) rfl (Or.inl rfl) hP hS (lv_sub hl [0, 1, 2, 3, 4, 5] rfl)
set_option maxHeartbeats 4000000 in
set_option maxRecDepth 100000 in
theorem c_goesOver (l : Launch) {D : va_G} {A : Nat → Prop} {cI cZ : ClassId} {h : Nat} (hA : ∀ i, i < 44 → A (h + i)) (σ : St) (booking : Int32) (why : Int32) (hI : MI σ) (h_booking : vp_in booking 100) : Met l yX6_goesOver wsX6_goesOver ({ frames := 0, cells := 0, slots := 0, locals := 0 }) (va_Pc [.ref h, .int booking, .int why] (mU D cI cZ h σ)) (va_Qv (fun (_ : Unit) => True) (fun _ t => mU D cI cZ h (s_goesOver σ booking why) t) A) 0 0 A := by
  refine Met.ofW (cc := cX6_goesOver) (maxL := 7) (ret := none) (by decide) rfl ?_
  intro p e s m args below meth c s₁ B hml hv
  obtain ⟨rfl, hP, hK⟩ := hv
  have E : mE p c cX6_goesOver s m ([.ref h, .int booking, .int why] : List Value).toArray wsX6_goesOver D cI cZ := ⟨⟨B.exec, B.bytes⟩, atoms_spec (ws := wsX6_goesOver) B.pre, (by decide +kernel), findClass_of_methodNamed B.named, hK⟩
  have hr := B.returns
  have hlocks := B.notSynchronized
  have hl := lv_entry ([.ref h, .int booking, .int why]) (n := 7) (Nat.le_of_ble_eq_true rfl)
  rw [lg_entry_eq]
  generalize (lg_sl ([.ref h, .int booking, .int why]) ++ List.replicate (7 - (lg_sl ([.ref h, .int booking, .int why])).length) Slot.unset).toArray = ls at hl ⊢
  refine w_goesOver σ booking why hI h_booking E hml hA ⟨Nat.le_of_ble_eq_true rfl, Nat.le_of_ble_eq_true rfl⟩ ⟨Nat.zero_le _, Nat.zero_le _⟩ hP va_S.rf hl (fun pc H1 locs1 ls1 hd hP1 hS1 => ?_)
  exact W.vret B.exec B.bytes hr (fun t ht hW => ⟨⟨(), rfl, trivial, by rw [ht]; exact hP1, va_K.moved hW.alike hK⟩, hS1.F ht⟩) hS1.2.2 hd
theorem go_nx {σ : St} (hI : MI σ) {booking why : Int32} : ∀ (n i : Nat) (x : Int32), i + n ≤ 61 → nx x 60 → nx (lf_goesOver_13 σ booking why n i x) 60 := by
  obtain ⟨C, hC, eC⟩ := MI_n21 hI
  intro n
  induction n with
  | zero => intro i x _ h; exact h
  | succ n ih =>
    intro i x hi h
    show nx (if (σ 21 0) ≤ (nI i) then _ else _) 60
    by_cases hc : (σ 21 0) ≤ (nI i)
    · rw [if_pos hc]; exact h
    · rw [if_neg hc]
      exact ih _ _ (by omega) (by repeat (first | exact h | exact nx_i eC hC (by omega) (by omega) hc | apply nx_if))
theorem MK_if {P : Prop} {hd : Decidable P} {σ a b : St} (ha : P → MK σ a) (hb : ¬ P → MK σ b) : MK σ (if P then a else b) := by
  by_cases hp : P
  · rw [if_pos hp]; exact ha hp
  · rw [if_neg hp]; exact hb hp
theorem all_st {P : Int32 → Prop} {σ : St} {f j : Nat} {v : Int32} (h : ∀ k, P (σ f k)) (hv : P v) : ∀ k, P (st σ f j v f k) := by
  intro k
  rw [st_at]
  by_cases hk : k = j
  · rw [if_pos ⟨rfl, hk⟩]; exact hv
  · rw [if_neg (fun z => hk z.2)]; exact h k
theorem MI_s23 {σ : St} (h : MI σ) {j : Nat} {v : Int32} (hv : vp_in v 6) : MI (st σ 23 j v) := ⟨h.1, all_st (P := fun x => vp_in x 6) h.2.1 hv, h.2.2⟩
theorem MI_s24 {σ : St} (h : MI σ) {j : Nat} {v : Int32} (hv : vp_in v 8) : MI (st σ 24 j v) := ⟨h.1, h.2.1, all_st (P := fun x => vp_in x 8) h.2.2.1 hv, h.2.2.2⟩
theorem MI_s25 {σ : St} (h : MI σ) {j : Nat} {v : Int32} (hv : vp_in v 8) : MI (st σ 25 j v) := ⟨h.1, h.2.1, h.2.2.1, all_st (P := fun x => vp_in x 8) h.2.2.2.1 hv, h.2.2.2.2⟩
theorem MI_s36 {σ : St} (h : MI σ) {j : Nat} {v : Int32} (hv : vp_in v 60) : MI (st σ 36 j v) := ⟨h.1, h.2.1, h.2.2.1, h.2.2.2.1, all_st (P := fun x => vp_in x 60) h.2.2.2.2.1 hv, h.2.2.2.2.2⟩
theorem MI_s37 {σ : St} (h : MI σ) {j : Nat} {v : Int32} (hv : vp_in v 3) : MI (st σ 37 j v) := ⟨h.1, h.2.1, h.2.2.1, h.2.2.2.1, h.2.2.2.2.1, all_st (P := fun x => vp_in x 3) h.2.2.2.2.2.1 hv, h.2.2.2.2.2.2⟩
theorem MK_s {σ τ : St} (h : MK σ τ) {f j : Nat} {v : Int32} (hM : MI (st τ f j v)) (hf : f ∉ [2, 12, 21, 34]) : MK σ (st τ f j v) := by
  refine ⟨hM, ?_⟩
  simp only [List.mem_cons, List.not_mem_nil, or_false, not_or] at hf
  rw [st_nf τ j v (g := 2) (by omega), st_nf τ j v (g := 12) (by omega), st_nf τ j v (g := 21) (by omega), st_nf τ j v (g := 34) (by omega)]
  exact h.2
theorem MK_s_goesOver {σ : St} {booking why : Int32} (hI : MI σ) (h_booking : vp_in booking 100) : MK σ (s_goesOver σ booking why) := by
  have h1 : MK σ (st (st σ 44 booking.toNatClampNeg why) 43 booking.toNatClampNeg (((st σ 44 booking.toNatClampNeg why) 43 booking.toNatClampNeg) + (1 : Int32))) := MK_o (MK_o (MK_refl hI) (by decide)) (by decide)
  have h2 := go_nx hI (booking := booking) (why := why) 61 0 (-1) (by omega) (Or.inl rfl)
  exact MK_if (fun _ => MK_o h1 (by decide)) (fun hn => MK_s h1 (MI_s36 h1.1 (h2.resolve_left hn)) (by decide))
theorem s_goesOver_47 (σ : St) (booking why : Int32) : s_goesOver σ booking why 47 = σ 47 := by
  unfold s_goesOver; split <;> rfl
theorem s_comes_47 (σ : St) (own booking : Int32) : s_comes σ own booking 47 = σ 47 := rfl
