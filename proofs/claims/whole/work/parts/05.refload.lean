def k106t0_isAhead (σ : St) (one : Int32) (other : Int32) : Int32 := if (σ 43 one.toNatClampNeg) = (σ 43 other.toNatClampNeg) then (if other ≤ one then (0 : Int32) else (1 : Int32)) else (if (σ 43 one.toNatClampNeg) ≤ (σ 43 other.toNatClampNeg) then (0 : Int32) else (1 : Int32))
def q_isAhead (σ : St) (one : Int32) (other : Int32) : Int32 := if (σ 41 one.toNatClampNeg) = (σ 41 other.toNatClampNeg) then (if (σ 37 one.toNatClampNeg) = (σ 37 other.toNatClampNeg) then (k106t0_isAhead σ one other) else (if (σ 37 other.toNatClampNeg) ≤ (σ 37 one.toNatClampNeg) then (0 : Int32) else (1 : Int32))) else (σ 41 one.toNatClampNeg)
set_option maxHeartbeats 4000000 in
set_option maxRecDepth 100000 in
theorem w_isAhead {p : Program} {l : Launch} {e : Env} {R : Room} {s : State} {m : MethodId} {args : Array Value} {below : List Frame} {meth : Method} {c : Code} {H : Heap} {locs : List Loc} {cells slots : Nat} {Q : State → Prop} {D : va_G} {A : Nat → Prop} {cI cZ : ClassId} {h : Nat} {ls : Array Slot} (σ : St) (one : Int32) (other : Int32) (hI : MI σ) (h_one : vp_in one 100) (h_other : vp_in other 100) (E : mE p c cX6_isAhead s m args wsX6_isAhead D cI cZ) (hml : c.maxLocals = 3) (hA : ∀ i, i < 44 → A (h + i)) (hR : 0 ≤ R.frames ∧ 0 ≤ R.locals) (hf : cells ≤ R.cells ∧ slots ≤ R.slots) (hP : va_P D vwCl (mW cI cZ h σ) H) (hS : va_S A s.heap H locs) (hl : lv_has ls 3 [(0, .ref h), (1, .int one), (2, .int other)]) (kr : ∀ (pc : Nat) (rv : Int32) (H1 : Heap) (locs1 : List Loc) (ls1 : Array Slot), decode cX6_isAhead pc = .ok (.ireturn, 1) → rv = q_isAhead σ one other → va_P D vwCl (mW cI cZ h (σ)) H1 → va_S A s.heap H1 locs1 → W p l e R s m args below meth c H1 locs1 cells slots Q (F0 m pc ls1 [.int rv])) : W p l e R s m args below meth c H locs cells slots Q (F0 m 0 ls []) := by
  have hx := E.1.1
  have hb := E.1.2
  have hts := E.2.1
  have hq : q_isAhead σ one other = if (σ 41 one.toNatClampNeg) = (σ 41 other.toNatClampNeg) then (if (σ 37 one.toNatClampNeg) = (σ 37 other.toNatClampNeg) then (k106t0_isAhead σ one other) else (if (σ 37 other.toNatClampNeg) ≤ (σ 37 one.toNatClampNeg) then (0 : Int32) else (1 : Int32))) else (σ 41 one.toNatClampNeg) := rfl
  refine lv_aload_n hx hb dX6_isAhead_0 rfl (lv_at hl 0 rfl) ?_
  refine mg_isUrgent E hP (by decide +kernel) dX6_isAhead_1 ?_
  refine lv_iload_n hx hb dX6_isAhead_4 rfl (lv_at hl 1 rfl) ?_
  refine ml_isUrgent E hP h_one dX6_isAhead_5 ?_
  refine lv_aload_n hx hb dX6_isAhead_6 rfl (lv_at hl 0 rfl) ?_
  refine mg_isUrgent E hP (by decide +kernel) dX6_isAhead_7 ?_
  refine lv_iload_n hx hb dX6_isAhead_10 rfl (lv_at hl 2 rfl) ?_
  refine ml_isUrgent E hP h_other dX6_isAhead_11 ?_
  refine lv_icmp_eq (tgt := 22) hx hb dX6_isAhead_12 (by decide) (fun c_1 => ?_) (fun c_1 => ?_)
  · have hq := hq.trans (if_pos c_1)
    refine lv_aload_n hx hb dX6_isAhead_22 rfl (lv_at hl 0 rfl) ?_
    refine mg_kindOf E hP (by decide +kernel) dX6_isAhead_23 ?_
    refine lv_iload_n hx hb dX6_isAhead_26 rfl (lv_at hl 1 rfl) ?_
    refine ml_kindOf E hP h_one dX6_isAhead_27 ?_
    refine lv_aload_n hx hb dX6_isAhead_28 rfl (lv_at hl 0 rfl) ?_
    refine mg_kindOf E hP (by decide +kernel) dX6_isAhead_29 ?_
    refine lv_iload_n hx hb dX6_isAhead_32 rfl (lv_at hl 2 rfl) ?_
    refine ml_kindOf E hP h_other dX6_isAhead_33 ?_
    refine lv_icmp_eq (tgt := 58) hx hb dX6_isAhead_34 (by decide) (fun c_2 => ?_) (fun c_2 => ?_)
    · have hq := hq.trans (if_pos c_2)
      refine lv_aload_n hx hb dX6_isAhead_58 rfl (lv_at hl 0 rfl) ?_
      refine mg_points E hP (by decide +kernel) dX6_isAhead_59 ?_
      refine lv_iload_n hx hb dX6_isAhead_62 rfl (lv_at hl 1 rfl) ?_
      refine ml_points E hP h_one dX6_isAhead_63 ?_
      refine lv_aload_n hx hb dX6_isAhead_64 rfl (lv_at hl 0 rfl) ?_
      refine mg_points E hP (by decide +kernel) dX6_isAhead_65 ?_
      refine lv_iload_n hx hb dX6_isAhead_68 rfl (lv_at hl 2 rfl) ?_
      refine ml_points E hP h_other dX6_isAhead_69 ?_
      have J_3 : ∀ (y3_t0 : Int32) (H : Heap) (locs : List Loc) (ls : Array Slot), y3_t0 = (k106t0_isAhead σ one other) → va_P D vwCl (mW cI cZ h σ) H → va_S A s.heap H locs → lv_has ls 3 [(0, .ref h), (1, .int one), (2, .int other)] → W p l e R s m args below meth c H locs cells slots Q (F0 m 106 ls [.int y3_t0]) := by
        intro y3_t0 H locs ls e_y3_t0 hP hS hl
        subst e_y3_t0
        exact kr _ (k106t0_isAhead σ one other) H locs ls dX6_isAhead_106 hq.symm hP hS
      refine lv_icmp_eq (tgt := 96) hx hb dX6_isAhead_70 (by decide) (fun c_3 => ?_) (fun c_3 => ?_)
      · refine lv_iload_n hx hb dX6_isAhead_96 rfl (lv_at hl 1 rfl) ?_
        refine lv_iload_n hx hb dX6_isAhead_97 rfl (lv_at hl 2 rfl) ?_
        refine lv_icmp_ge (tgt := 105) hx hb dX6_isAhead_98 (by decide) (fun c_4 => ?_) (fun c_4 => ?_)
        · refine lv_iconst (v := 0) hx hb dX6_isAhead_105 (by decide) ?_
          exact J_3 (0 : Int32) H locs ls ((if_pos c_4).symm.trans (if_pos c_3).symm) hP hS (lv_sub hl [0, 1, 2] rfl)
        refine lv_iconst (v := 1) hx hb dX6_isAhead_101 (by decide) ?_
        refine lv_goto (tgt := 106) hx hb dX6_isAhead_102 (by decide) ?_
        exact J_3 (1 : Int32) H locs ls ((if_neg c_4).symm.trans (if_pos c_3).symm) hP hS (lv_sub hl [0, 1, 2] rfl)
      refine lv_aload_n hx hb dX6_isAhead_73 rfl (lv_at hl 0 rfl) ?_
      refine mg_points E hP (by decide +kernel) dX6_isAhead_74 ?_
      refine lv_iload_n hx hb dX6_isAhead_77 rfl (lv_at hl 1 rfl) ?_
      refine ml_points E hP h_one dX6_isAhead_78 ?_
      refine lv_aload_n hx hb dX6_isAhead_79 rfl (lv_at hl 0 rfl) ?_
      refine mg_points E hP (by decide +kernel) dX6_isAhead_80 ?_
      refine lv_iload_n hx hb dX6_isAhead_83 rfl (lv_at hl 2 rfl) ?_
      refine ml_points E hP h_other dX6_isAhead_84 ?_
      refine lv_icmp_le (tgt := 92) hx hb dX6_isAhead_85 (by decide) (fun c_5 => ?_) (fun c_5 => ?_)
      · refine lv_iconst (v := 0) hx hb dX6_isAhead_92 (by decide) ?_
        refine lv_goto (tgt := 106) hx hb dX6_isAhead_93 (by decide) ?_
        exact J_3 (0 : Int32) H locs ls ((if_pos c_5).symm.trans (if_neg c_3).symm) hP hS (lv_sub hl [0, 1, 2] rfl)
      refine lv_iconst (v := 1) hx hb dX6_isAhead_88 (by decide) ?_
      refine lv_goto (tgt := 106) hx hb dX6_isAhead_89 (by decide) ?_
      exact J_3 (1 : Int32) H locs ls ((if_neg c_5).symm.trans (if_neg c_3).symm) hP hS (lv_sub hl [0, 1, 2] rfl)
    have hq := hq.trans (if_neg c_2)
    refine lv_aload_n hx hb dX6_isAhead_37 rfl (lv_at hl 0 rfl) ?_
    refine mg_kindOf E hP (by decide +kernel) dX6_isAhead_38 ?_
    refine lv_iload_n hx hb dX6_isAhead_41 rfl (lv_at hl 1 rfl) ?_
    refine ml_kindOf E hP h_one dX6_isAhead_42 ?_
    refine lv_aload_n hx hb dX6_isAhead_43 rfl (lv_at hl 0 rfl) ?_
    refine mg_kindOf E hP (by decide +kernel) dX6_isAhead_44 ?_
    refine lv_iload_n hx hb dX6_isAhead_47 rfl (lv_at hl 2 rfl) ?_
    refine ml_kindOf E hP h_other dX6_isAhead_48 ?_
    have J_6 : ∀ (y6_t0 : Int32) (H : Heap) (locs : List Loc) (ls : Array Slot), y6_t0 = (if (σ 37 other.toNatClampNeg) ≤ (σ 37 one.toNatClampNeg) then (0 : Int32) else (1 : Int32)) → va_P D vwCl (mW cI cZ h σ) H → va_S A s.heap H locs → lv_has ls 3 [(0, .ref h), (1, .int one), (2, .int other)] → W p l e R s m args below meth c H locs cells slots Q (F0 m 57 ls [.int y6_t0]) := by
      intro y6_t0 H locs ls e_y6_t0 hP hS hl
      subst e_y6_t0
      exact kr _ (if (σ 37 other.toNatClampNeg) ≤ (σ 37 one.toNatClampNeg) then (0 : Int32) else (1 : Int32)) H locs ls dX6_isAhead_57 hq.symm hP hS
    refine lv_icmp_ge (tgt := 56) hx hb dX6_isAhead_49 (by decide) (fun c_6 => ?_) (fun c_6 => ?_)
    · refine lv_iconst (v := 0) hx hb dX6_isAhead_56 (by decide) ?_
      exact J_6 (0 : Int32) H locs ls (if_pos c_6).symm hP hS (lv_sub hl [0, 1, 2] rfl)
    refine lv_iconst (v := 1) hx hb dX6_isAhead_52 (by decide) ?_
    refine lv_goto (tgt := 57) hx hb dX6_isAhead_53 (by decide) ?_
    exact J_6 (1 : Int32) H locs ls (if_neg c_6).symm hP hS (lv_sub hl [0, 1, 2] rfl)
  have hq := hq.trans (if_neg c_1)
  refine lv_aload_n hx hb dX6_isAhead_15 rfl (lv_at hl 0 rfl) ?_
  refine mg_isUrgent E hP (by decide +kernel) dX6_isAhead_16 ?_
  refine lv_iload_n hx hb dX6_isAhead_19 rfl (lv_at hl 1 rfl) ?_
  refine ml_isUrgent E hP h_one dX6_isAhead_20 ?_
  exact kr _ (σ 41 one.toNatClampNeg) H locs ls dX6_isAhead_21 hq.symm hP hS
theorem b_isAhead (σ : St) (one : Int32) (other : Int32) (hI : MI σ) : isB (q_isAhead σ one other) := by
  unfold q_isAhead; (try unfold k106t0_isAhead);  repeat (first | exact isB0 | exact isB1 | exact MI_z41 hI _ | apply isB_if)
set_option maxHeartbeats 4000000 in
set_option maxRecDepth 100000 in
theorem c_isAhead (l : Launch) {D : va_G} {A : Nat → Prop} {cI cZ : ClassId} {h : Nat} (hA : ∀ i, i < 44 → A (h + i)) (σ : St) (one : Int32) (other : Int32) (hI : MI σ) (h_one : vp_in one 100) (h_other : vp_in other 100) : Met l yX6_isAhead wsX6_isAhead ({ frames := 0, cells := 0, slots := 0, locals := 0 }) (va_Pc [.ref h, .int one, .int other] (mU D cI cZ h σ)) (va_Qi (fun r (_ : Unit) => r = q_isAhead σ one other) (fun _ t => mU D cI cZ h (σ) t) A) 0 0 A := by
  refine Met.ofW (cc := cX6_isAhead) (maxL := 3) (ret := (some .boolean)) (by decide) rfl ?_
  intro p e s m args below meth c s₁ B hml hv
  obtain ⟨rfl, hP, hK⟩ := hv
  have E : mE p c cX6_isAhead s m ([.ref h, .int one, .int other] : List Value).toArray wsX6_isAhead D cI cZ := ⟨⟨B.exec, B.bytes⟩, atoms_spec (ws := wsX6_isAhead) B.pre, (by decide +kernel), findClass_of_methodNamed B.named, hK⟩
  have hr := B.returns
  have hlocks := B.notSynchronized
  have hl := lv_entry ([.ref h, .int one, .int other]) (n := 3) (Nat.le_of_ble_eq_true rfl)
  rw [lg_entry_eq]
  generalize (lg_sl ([.ref h, .int one, .int other]) ++ List.replicate (3 - (lg_sl ([.ref h, .int one, .int other])).length) Slot.unset).toArray = ls at hl ⊢
  refine w_isAhead σ one other hI h_one h_other E hml hA ⟨Nat.le_of_ble_eq_true rfl, Nat.le_of_ble_eq_true rfl⟩ ⟨Nat.zero_le _, Nat.zero_le _⟩ hP va_S.rf hl (fun pc v H1 locs1 ls1 hd hv hP1 hS1 => ?_)
  exact W.zret (v := v) B.exec B.bytes hr (by rw [hv]; exact isB_n (b_isAhead σ one other hI)) (fun t ht hW => ⟨⟨v, (), rfl, hv, by rw [ht]; exact hP1, va_K.moved hW.alike hK⟩, hS1.F ht⟩) hS1.2.2 hd
def nx (x : Int32) (n : Nat) : Prop := x = -1 ∨ vp_in x n
theorem nx_if {P : Prop} {hd : Decidable P} {n : Nat} {a b : Int32} (ha : nx a n) (hb : nx b n) : nx (if P then a else b) n := by
  by_cases hp : P
  · rw [if_pos hp]; exact ha
  · rw [if_neg hp]; exact hb
theorem nx_i {C i n : Nat} {x : Int32} (e : x = nI C) (hC : C ≤ n) (hn : n < 2 ^ 31) (hi : i < 2 ^ 31) (hc : ¬ x ≤ nI i) : nx (nI i) n := Or.inr (vp_in_nI (Nat.lt_of_lt_of_le (m_lt e hc hi (by omega)) hC) hn)
def lf_nextOf_4 (σ : St) (own : Int32) : Nat → Nat → Int32 → Int32
  | 0, _, x2 => x2
  | n + 1, i, x2 => if (σ 34 0) ≤ (nI i) then x2 else (lf_nextOf_4 σ own n (i + 1) (if (if (σ 36 (nI i).toNatClampNeg) = own then (if (σ 35 (nI i).toNatClampNeg) = 0 then (if (σ 47 (nI i).toNatClampNeg) = 0 then (1 : Int32) else (0 : Int32)) else (0 : Int32)) else (0 : Int32)) = 0 then x2 else (if x2 = ((-1) : Int32) then (nI i) else (if (q_isAhead σ (nI i) x2) = 0 then x2 else (nI i)))))
def q_nextOf (σ : St) (own : Int32) : Int32 := (lf_nextOf_4 σ own 101 0 ((-1) : Int32))
set_option maxHeartbeats 4000000 in
set_option maxRecDepth 100000 in
theorem w_nextOf {p : Program} {l : Launch} {e : Env} {R : Room} {s : State} {m : MethodId} {args : Array Value} {below : List Frame} {meth : Method} {c : Code} {H : Heap} {locs : List Loc} {cells slots : Nat} {Q : State → Prop} {D : va_G} {A : Nat → Prop} {cI cZ : ClassId} {h : Nat} {ls : Array Slot} (σ : St) (own : Int32) (hI : MI σ) (E : mE p c cX6_nextOf s m args wsX6_nextOf D cI cZ) (hml : c.maxLocals = 5) (hA : ∀ i, i < 44 → A (h + i)) (hR : 1 ≤ R.frames ∧ 22 ≤ R.locals) (hf : cells ≤ R.cells ∧ slots ≤ R.slots) (hP : va_P D vwCl (mW cI cZ h σ) H) (hS : va_S A s.heap H locs) (hl : lv_has ls 5 [(0, .ref h), (1, .int own)]) (kr : ∀ (pc : Nat) (rv : Int32) (H1 : Heap) (locs1 : List Loc) (ls1 : Array Slot), decode cX6_nextOf pc = .ok (.ireturn, 1) → rv = q_nextOf σ own → va_P D vwCl (mW cI cZ h (σ)) H1 → va_S A s.heap H1 locs1 → W p l e R s m args below meth c H1 locs1 cells slots Q (F0 m pc ls1 [.int rv])) : W p l e R s m args below meth c H locs cells slots Q (F0 m 0 ls []) := by
  have hx := E.1.1
  have hb := E.1.2
  have hts := E.2.1
  have hq : q_nextOf σ own = (lf_nextOf_4 σ own 101 0 ((-1) : Int32)) := rfl
  refine lv_iconst (v := -1) hx hb dX6_nextOf_0 (by decide) ?_
  refine lv_istore_n (lv' := [(2, .int ((-1) : Int32)), (0, .ref h), (1, .int own)]) hx hb dX6_nextOf_1 rfl hl (by decide) rfl (fun ls hl => ?_)
  refine lv_iconst (v := 0) hx hb dX6_nextOf_2 (by decide) ?_
  refine lv_istore_n (lv' := [(3, .int (0 : Int32)), (2, .int ((-1) : Int32)), (0, .ref h), (1, .int own)]) hx hb dX6_nextOf_3 rfl hl (by decide) rfl (fun ls hl => ?_)
  obtain ⟨C, hC, eC⟩ := MI_n34 hI
  have L_8 : ∀ (n : Nat) (i : Nat) (x2 : Int32) (H : Heap) (locs : List Loc) (ls : Array Slot), i + n = 101 → i ≤ C → lf_nextOf_4 σ own n i x2 = lf_nextOf_4 σ own 101 0 ((-1) : Int32) → nx x2 100 → va_P D vwCl (mW cI cZ h σ) H → va_S A s.heap H locs → lv_has ls 5 [(3, .int (nI i)), (2, .int x2), (0, .ref h), (1, .int own)] → W p l e R s m args below meth c H locs cells slots Q (F0 m 4 ls []) := by
    intro n
    induction n with
    | zero => intro i x2 H locs ls hin hiC; omega
    | succ n ih =>
      intro i x2 H locs ls hin hiC hfin hv hP hS hl
      have hfin : (if (σ 34 0) ≤ (nI i) then x2 else (lf_nextOf_4 σ own n (i + 1) (if (if (σ 36 (nI i).toNatClampNeg) = own then (if (σ 35 (nI i).toNatClampNeg) = 0 then (if (σ 47 (nI i).toNatClampNeg) = 0 then (1 : Int32) else (0 : Int32)) else (0 : Int32)) else (0 : Int32)) = 0 then x2 else (if x2 = ((-1) : Int32) then (nI i) else (if (q_isAhead σ (nI i) x2) = 0 then x2 else (nI i)))))) = lf_nextOf_4 σ own 101 0 ((-1) : Int32) := hfin
      refine lv_iload_n hx hb dX6_nextOf_4 rfl (lv_at hl 0 rfl) ?_
      refine lv_aload_n hx hb dX6_nextOf_5 rfl (lv_at hl 2 rfl) ?_
      refine mg_bookings E hP (by decide +kernel) dX6_nextOf_6 ?_
      refine lv_icmp_ge (tgt := 78) hx hb dX6_nextOf_9 (by decide) (fun c_1 => ?_) (fun c_1 => ?_)
      · have hfin := (if_pos c_1).symm.trans hfin
        subst hfin
        have hl := lv_sub hl [1, 2, 3] rfl
        refine lv_iload_n hx hb dX6_nextOf_78 rfl (lv_at hl 0 rfl) ?_
        exact kr _ (lf_nextOf_4 σ own 101 0 ((-1) : Int32)) H locs ls dX6_nextOf_79 hq.symm hP hS
      have hfin := (if_neg c_1).symm.trans hfin
      have hlt : i < C := m_lt eC c_1 (by omega) (by omega)
      refine lv_aload_n hx hb dX6_nextOf_12 rfl (lv_at hl 2 rfl) ?_
      refine mg_on E hP (by decide +kernel) dX6_nextOf_13 ?_
      refine lv_iload_n hx hb dX6_nextOf_16 rfl (lv_at hl 0 rfl) ?_
      refine ml_on E hP (vp_in_nI (n := i) (by omega) (by omega)) dX6_nextOf_17 ?_
      refine lv_iload_n hx hb dX6_nextOf_18 rfl (lv_at hl 3 rfl) ?_
      have J_2 : ∀ (y2_t0 : Int32) (H : Heap) (locs : List Loc) (ls : Array Slot), y2_t0 = (if (σ 36 (nI i).toNatClampNeg) = own then (if (σ 35 (nI i).toNatClampNeg) = 0 then (if (σ 47 (nI i).toNatClampNeg) = 0 then (1 : Int32) else (0 : Int32)) else (0 : Int32)) else (0 : Int32)) → va_P D vwCl (mW cI cZ h σ) H → va_S A s.heap H locs → lv_has ls 5 [(3, .int (nI i)), (2, .int x2), (0, .ref h), (1, .int own)] → W p l e R s m args below meth c H locs cells slots Q (F0 m 45 ls [.int y2_t0]) := by
        intro y2_t0 H locs ls e_y2_t0 hP hS hl
        subst e_y2_t0
        refine lv_istore (lv' := [(4, .int (if (σ 36 (nI i).toNatClampNeg) = own then (if (σ 35 (nI i).toNatClampNeg) = 0 then (if (σ 47 (nI i).toNatClampNeg) = 0 then (1 : Int32) else (0 : Int32)) else (0 : Int32)) else (0 : Int32))), (3, .int (nI i)), (2, .int x2), (0, .ref h), (1, .int own)]) hx hb dX6_nextOf_45 hl (by decide) rfl (fun ls hl => ?_)
        refine lv_iload hx hb dX6_nextOf_47 (lv_at hl 0 rfl) ?_
        have J_5 : ∀ (y5_t0 : Int32) (H : Heap) (locs : List Loc) (ls : Array Slot), y5_t0 = (if (if (σ 36 (nI i).toNatClampNeg) = own then (if (σ 35 (nI i).toNatClampNeg) = 0 then (if (σ 47 (nI i).toNatClampNeg) = 0 then (1 : Int32) else (0 : Int32)) else (0 : Int32)) else (0 : Int32)) = 0 then x2 else (if x2 = ((-1) : Int32) then (nI i) else (if (q_isAhead σ (nI i) x2) = 0 then x2 else (nI i)))) → va_P D vwCl (mW cI cZ h σ) H → va_S A s.heap H locs → lv_has ls 5 [(4, .int (if (σ 36 (nI i).toNatClampNeg) = own then (if (σ 35 (nI i).toNatClampNeg) = 0 then (if (σ 47 (nI i).toNatClampNeg) = 0 then (1 : Int32) else (0 : Int32)) else (0 : Int32)) else (0 : Int32))), (3, .int (nI i)), (2, .int x2), (0, .ref h), (1, .int own)] → W p l e R s m args below meth c H locs cells slots Q (F0 m 71 ls [.int y5_t0]) := by
          intro y5_t0 H locs ls e_y5_t0 hP hS hl
          subst e_y5_t0
          refine lv_istore_n (lv' := [(2, .int (if (if (σ 36 (nI i).toNatClampNeg) = own then (if (σ 35 (nI i).toNatClampNeg) = 0 then (if (σ 47 (nI i).toNatClampNeg) = 0 then (1 : Int32) else (0 : Int32)) else (0 : Int32)) else (0 : Int32)) = 0 then x2 else (if x2 = ((-1) : Int32) then (nI i) else (if (q_isAhead σ (nI i) x2) = 0 then x2 else (nI i))))), (4, .int (if (σ 36 (nI i).toNatClampNeg) = own then (if (σ 35 (nI i).toNatClampNeg) = 0 then (if (σ 47 (nI i).toNatClampNeg) = 0 then (1 : Int32) else (0 : Int32)) else (0 : Int32)) else (0 : Int32))), (3, .int (nI i)), (0, .ref h), (1, .int own)]) hx hb dX6_nextOf_71 rfl hl (by decide) rfl (fun ls hl => ?_)
          refine lv_iinc (v := nI (i + 1)) (lv' := [(3, .int (nI (i + 1))), (2, .int (if (if (σ 36 (nI i).toNatClampNeg) = own then (if (σ 35 (nI i).toNatClampNeg) = 0 then (if (σ 47 (nI i).toNatClampNeg) = 0 then (1 : Int32) else (0 : Int32)) else (0 : Int32)) else (0 : Int32)) = 0 then x2 else (if x2 = ((-1) : Int32) then (nI i) else (if (q_isAhead σ (nI i) x2) = 0 then x2 else (nI i))))), (4, .int (if (σ 36 (nI i).toNatClampNeg) = own then (if (σ 35 (nI i).toNatClampNeg) = 0 then (if (σ 47 (nI i).toNatClampNeg) = 0 then (1 : Int32) else (0 : Int32)) else (0 : Int32)) else (0 : Int32))), (0, .ref h), (1, .int own)]) hx hb dX6_nextOf_72 hl (k := 2) rfl (by first | rfl | exact nI_1 _) (by decide) rfl (fun ls hl => ?_)
          refine lv_goto (tgt := 4) hx hb dX6_nextOf_75 (by decide) ?_
          exact ih (i + 1) (if (if (σ 36 (nI i).toNatClampNeg) = own then (if (σ 35 (nI i).toNatClampNeg) = 0 then (if (σ 47 (nI i).toNatClampNeg) = 0 then (1 : Int32) else (0 : Int32)) else (0 : Int32)) else (0 : Int32)) = 0 then x2 else (if x2 = ((-1) : Int32) then (nI i) else (if (q_isAhead σ (nI i) x2) = 0 then x2 else (nI i)))) H locs ls (by omega) (by omega) hfin (by repeat (first | exact hv | exact nx_i eC hC (by omega) (by omega) (by assumption) | apply nx_if)) hP hS (lv_sub hl [0, 1, 3, 4] rfl)
        refine lv_if_eq (tgt := 70) hx hb dX6_nextOf_49 (by decide) (fun c_5 => ?_) (fun c_5 => ?_)
        · refine lv_iload_n hx hb dX6_nextOf_70 rfl (lv_at hl 2 rfl) ?_
          exact J_5 x2 H locs ls (if_pos c_5).symm hP hS (lv_sub hl [0, 1, 2, 3, 4] rfl)
        refine lv_iload_n hx hb dX6_nextOf_52 rfl (lv_at hl 2 rfl) ?_
        refine lv_iconst (v := -1) hx hb dX6_nextOf_53 (by decide) ?_
        refine lv_icmp_eq (tgt := 66) hx hb dX6_nextOf_54 (by decide) (fun c_6 => ?_) (fun c_6 => ?_)
        · refine lv_iload_n hx hb dX6_nextOf_66 rfl (lv_at hl 1 rfl) ?_
          refine lv_goto (tgt := 71) hx hb dX6_nextOf_67 (by decide) ?_
          exact J_5 (nI i) H locs ls ((if_pos c_6).symm.trans (if_neg c_5).symm) hP hS (lv_sub hl [0, 1, 2, 3, 4] rfl)
        refine lv_aload_n hx hb dX6_nextOf_57 rfl (lv_at hl 3 rfl) ?_
        refine lv_iload_n hx hb dX6_nextOf_58 rfl (lv_at hl 1 rfl) ?_
        refine lv_iload_n hx hb dX6_nextOf_59 rfl (lv_at hl 2 rfl) ?_
        refine mcV_i E hml hP hS (c_isAhead l hA σ (nI i) x2 hI (vp_in_nI (n := i) (by omega) (by omega)) (Or.resolve_left hv (by assumption))) (cwV 2 hts gX6_nextOf_X6_isAhead rfl rfl rfl (by decide +kernel) ⟨Nat.le_trans (Nat.le_of_ble_eq_true rfl) hR.1, Nat.le_trans (Nat.le_of_ble_eq_true rfl) hR.2⟩) rfl hl.1 rfl (Nat.le_of_ble_eq_true rfl) dX6_nextOf_60 hf (fun H locs hP hS => ?_)
        refine lv_if_eq (tgt := 70) hx hb dX6_nextOf_63 (by decide) (fun c_7 => ?_) (fun c_7 => ?_)
        · refine lv_iload_n hx hb dX6_nextOf_70 rfl (lv_at hl 2 rfl) ?_
          exact J_5 x2 H locs ls ((if_pos c_7).symm.trans ((if_neg c_6).symm.trans (if_neg c_5).symm)) hP hS (lv_sub hl [0, 1, 2, 3, 4] rfl)
        refine lv_iload_n hx hb dX6_nextOf_66 rfl (lv_at hl 1 rfl) ?_
        refine lv_goto (tgt := 71) hx hb dX6_nextOf_67 (by decide) ?_
        exact J_5 (nI i) H locs ls ((if_neg c_7).symm.trans ((if_neg c_6).symm.trans (if_neg c_5).symm)) hP hS (lv_sub hl [0, 1, 2, 3, 4] rfl)
      refine lv_icmp_ne (tgt := 44) hx hb dX6_nextOf_19 (by decide) (fun c_2 => ?_) (fun c_2 => ?_)
      · refine lv_iconst (v := 0) hx hb dX6_nextOf_44 (by decide) ?_
        exact J_2 (0 : Int32) H locs ls (if_neg c_2).symm hP hS (lv_sub hl [0, 1, 2, 3] rfl)
      refine lv_aload_n hx hb dX6_nextOf_22 rfl (lv_at hl 2 rfl) ?_
      refine mg_how E hP (by decide +kernel) dX6_nextOf_23 ?_
      refine lv_iload_n hx hb dX6_nextOf_26 rfl (lv_at hl 0 rfl) ?_
      refine ml_how E hP (vp_in_nI (n := i) (by omega) (by omega)) dX6_nextOf_27 ?_
      refine lv_if_ne (tgt := 44) hx hb dX6_nextOf_28 (by decide) (fun c_3 => ?_) (fun c_3 => ?_)
      · refine lv_iconst (v := 0) hx hb dX6_nextOf_44 (by decide) ?_
        exact J_2 (0 : Int32) H locs ls ((if_neg c_3).symm.trans (if_pos c_2).symm) hP hS (lv_sub hl [0, 1, 2, 3] rfl)
      refine lv_aload_n hx hb dX6_nextOf_31 rfl (lv_at hl 2 rfl) ?_
      refine mg_isSeen E hP (by decide +kernel) dX6_nextOf_32 ?_
      refine lv_iload_n hx hb dX6_nextOf_35 rfl (lv_at hl 0 rfl) ?_
      refine ml_isSeen E hP (vp_in_nI (n := i) (by omega) (by omega)) dX6_nextOf_36 ?_
      refine lv_if_ne (tgt := 44) hx hb dX6_nextOf_37 (by decide) (fun c_4 => ?_) (fun c_4 => ?_)
      · refine lv_iconst (v := 0) hx hb dX6_nextOf_44 (by decide) ?_
        exact J_2 (0 : Int32) H locs ls ((if_neg c_4).symm.trans ((if_pos c_3).symm.trans (if_pos c_2).symm)) hP hS (lv_sub hl [0, 1, 2, 3] rfl)
      refine lv_iconst (v := 1) hx hb dX6_nextOf_40 (by decide) ?_
      refine lv_goto (tgt := 45) hx hb dX6_nextOf_41 (by decide) ?_
      exact J_2 (1 : Int32) H locs ls ((if_pos c_4).symm.trans ((if_pos c_3).symm.trans (if_pos c_2).symm)) hP hS (lv_sub hl [0, 1, 2, 3] rfl)
  exact L_8 101 0 ((-1) : Int32) H locs ls (by omega) (Nat.zero_le _) rfl (Or.inl rfl) hP hS (lv_sub hl [0, 1, 2, 3] rfl)
set_option maxHeartbeats 4000000 in
set_option maxRecDepth 100000 in
theorem c_nextOf (l : Launch) {D : va_G} {A : Nat → Prop} {cI cZ : ClassId} {h : Nat} (hA : ∀ i, i < 44 → A (h + i)) (σ : St) (own : Int32) (hI : MI σ) : Met l yX6_nextOf wsX6_nextOf ({ frames := 1, cells := 0, slots := 0, locals := 22 }) (va_Pc [.ref h, .int own] (mU D cI cZ h σ)) (va_Qi (fun r (_ : Unit) => r = q_nextOf σ own) (fun _ t => mU D cI cZ h (σ) t) A) 0 0 A := by
  refine Met.ofW (cc := cX6_nextOf) (maxL := 5) (ret := (some .int)) (by decide) rfl ?_
  intro p e s m args below meth c s₁ B hml hv
  obtain ⟨rfl, hP, hK⟩ := hv
  have E : mE p c cX6_nextOf s m ([.ref h, .int own] : List Value).toArray wsX6_nextOf D cI cZ := ⟨⟨B.exec, B.bytes⟩, atoms_spec (ws := wsX6_nextOf) B.pre, (by decide +kernel), findClass_of_methodNamed B.named, hK⟩
  have hr := B.returns
  have hlocks := B.notSynchronized
  have hl := lv_entry ([.ref h, .int own]) (n := 5) (Nat.le_of_ble_eq_true rfl)
  rw [lg_entry_eq]
  generalize (lg_sl ([.ref h, .int own]) ++ List.replicate (5 - (lg_sl ([.ref h, .int own])).length) Slot.unset).toArray = ls at hl ⊢
  refine w_nextOf σ own hI E hml hA ⟨Nat.le_of_ble_eq_true rfl, Nat.le_of_ble_eq_true rfl⟩ ⟨Nat.zero_le _, Nat.zero_le _⟩ hP va_S.rf hl (fun pc v H1 locs1 ls1 hd hv hP1 hS1 => ?_)
  exact W.iret (v := v) B.exec B.bytes hr (fun t ht hW => ⟨⟨v, (), rfl, hv, by rw [ht]; exact hP1, va_K.moved hW.alike hK⟩, hS1.F ht⟩) hS1.2.2 hd
def k36t0_hasLength (σ : St) (own : Int32) (which : Int32) (booking : Int32) : Int32 := if (σ 14 (σ 23 own.toNatClampNeg).toNatClampNeg) < ((σ 33 (((2 : Int32) * own) + which).toNatClampNeg) + (σ 38 booking.toNatClampNeg)) then (0 : Int32) else (1 : Int32)
def q_hasLength (σ : St) (own : Int32) (which : Int32) (booking : Int32) : Int32 := k36t0_hasLength σ own which booking
set_option maxHeartbeats 4000000 in
set_option maxRecDepth 100000 in
theorem w_hasLength {p : Program} {l : Launch} {e : Env} {R : Room} {s : State} {m : MethodId} {args : Array Value} {below : List Frame} {meth : Method} {c : Code} {H : Heap} {locs : List Loc} {cells slots : Nat} {Q : State → Prop} {D : va_G} {A : Nat → Prop} {cI cZ : ClassId} {h : Nat} {ls : Array Slot} (σ : St) (own : Int32) (which : Int32) (booking : Int32) (hI : MI σ) (h_own : vp_in own 60) (h_which : isB which) (h_booking : vp_in booking 100) (E : mE p c cX6_hasLength s m args wsX6_hasLength D cI cZ) (hml : c.maxLocals = 4) (hA : ∀ i, i < 44 → A (h + i)) (hR : 0 ≤ R.frames ∧ 0 ≤ R.locals) (hf : cells ≤ R.cells ∧ slots ≤ R.slots) (hP : va_P D vwCl (mW cI cZ h σ) H) (hS : va_S A s.heap H locs) (hl : lv_has ls 4 [(0, .ref h), (1, .int own), (2, .int which), (3, .int booking)]) (kr : ∀ (pc : Nat) (rv : Int32) (H1 : Heap) (locs1 : List Loc) (ls1 : Array Slot), decode cX6_hasLength pc = .ok (.ireturn, 1) → rv = q_hasLength σ own which booking → va_P D vwCl (mW cI cZ h (σ)) H1 → va_S A s.heap H1 locs1 → W p l e R s m args below meth c H1 locs1 cells slots Q (F0 m pc ls1 [.int rv])) : W p l e R s m args below meth c H locs cells slots Q (F0 m 0 ls []) := by
  have hx := E.1.1
  have hb := E.1.2
  have hts := E.2.1
  have hq : q_hasLength σ own which booking = k36t0_hasLength σ own which booking := rfl
  refine lv_aload_n hx hb dX6_hasLength_0 rfl (lv_at hl 0 rfl) ?_
  refine mg_lengths E hP (by decide +kernel) dX6_hasLength_1 ?_
  refine lv_iconst (v := 2) hx hb dX6_hasLength_4 (by decide) ?_
  refine lv_iload_n hx hb dX6_hasLength_5 rfl (lv_at hl 1 rfl) ?_
  refine lv_imul hx hb dX6_hasLength_6 ?_
  refine lv_iload_n hx hb dX6_hasLength_7 rfl (lv_at hl 2 rfl) ?_
  refine lv_iadd hx hb dX6_hasLength_8 ?_
  refine ml_lengths E hP (in2 h_own h_which) dX6_hasLength_9 ?_
  refine lv_aload_n hx hb dX6_hasLength_10 rfl (lv_at hl 0 rfl) ?_
  refine mg_length E hP (by decide +kernel) dX6_hasLength_11 ?_
  refine lv_iload_n hx hb dX6_hasLength_14 rfl (lv_at hl 3 rfl) ?_
  refine ml_length E hP h_booking dX6_hasLength_15 ?_
  refine lv_iadd hx hb dX6_hasLength_16 ?_
  refine lv_aload_n hx hb dX6_hasLength_17 rfl (lv_at hl 0 rfl) ?_
  refine mg_lane E hP (by decide +kernel) dX6_hasLength_18 ?_
  refine lv_aload_n hx hb dX6_hasLength_21 rfl (lv_at hl 0 rfl) ?_
  refine mg_boatOf E hP (by decide +kernel) dX6_hasLength_22 ?_
  refine lv_iload_n hx hb dX6_hasLength_25 rfl (lv_at hl 1 rfl) ?_
  refine ml_boatOf E hP h_own dX6_hasLength_26 ?_
  refine ml_lane E hP (MI_bo hI _) dX6_hasLength_27 ?_
  have J_1 : ∀ (y1_t0 : Int32) (H : Heap) (locs : List Loc) (ls : Array Slot), y1_t0 = (k36t0_hasLength σ own which booking) → va_P D vwCl (mW cI cZ h σ) H → va_S A s.heap H locs → lv_has ls 4 [(0, .ref h), (1, .int own), (2, .int which), (3, .int booking)] → W p l e R s m args below meth c H locs cells slots Q (F0 m 36 ls [.int y1_t0]) := by
    intro y1_t0 H locs ls e_y1_t0 hP hS hl
    subst e_y1_t0
    exact kr _ (k36t0_hasLength σ own which booking) H locs ls dX6_hasLength_36 hq.symm hP hS
  refine lv_icmp_gt (tgt := 35) hx hb dX6_hasLength_28 (by decide) (fun c_1 => ?_) (fun c_1 => ?_)
  · refine lv_iconst (v := 0) hx hb dX6_hasLength_35 (by decide) ?_
    exact J_1 (0 : Int32) H locs ls (if_pos c_1).symm hP hS (lv_sub hl [0, 1, 2, 3] rfl)
  refine lv_iconst (v := 1) hx hb dX6_hasLength_31 (by decide) ?_
  refine lv_goto (tgt := 36) hx hb dX6_hasLength_32 (by decide) ?_
  exact J_1 (1 : Int32) H locs ls (if_neg c_1).symm hP hS (lv_sub hl [0, 1, 2, 3] rfl)
theorem b_hasLength (σ : St) (own : Int32) (which : Int32) (booking : Int32) : isB (q_hasLength σ own which booking) := by
  unfold q_hasLength; (try unfold k36t0_hasLength);  repeat (first | exact isB0 | exact isB1 | exact MI_z41 hI _ | apply isB_if)
set_option maxHeartbeats 4000000 in
set_option maxRecDepth 100000 in
theorem c_hasLength (l : Launch) {D : va_G} {A : Nat → Prop} {cI cZ : ClassId} {h : Nat} (hA : ∀ i, i < 44 → A (h + i)) (σ : St) (own : Int32) (which : Int32) (booking : Int32) (hI : MI σ) (h_own : vp_in own 60) (h_which : isB which) (h_booking : vp_in booking 100) : Met l yX6_hasLength wsX6_hasLength ({ frames := 0, cells := 0, slots := 0, locals := 0 }) (va_Pc [.ref h, .int own, .int which, .int booking] (mU D cI cZ h σ)) (va_Qi (fun r (_ : Unit) => r = q_hasLength σ own which booking) (fun _ t => mU D cI cZ h (σ) t) A) 0 0 A := by
  refine Met.ofW (cc := cX6_hasLength) (maxL := 4) (ret := (some .boolean)) (by decide) rfl ?_
  intro p e s m args below meth c s₁ B hml hv
  obtain ⟨rfl, hP, hK⟩ := hv
  have E : mE p c cX6_hasLength s m ([.ref h, .int own, .int which, .int booking] : List Value).toArray wsX6_hasLength D cI cZ := ⟨⟨B.exec, B.bytes⟩, atoms_spec (ws := wsX6_hasLength) B.pre, (by decide +kernel), findClass_of_methodNamed B.named, hK⟩
  have hr := B.returns
  have hlocks := B.notSynchronized
  have hl := lv_entry ([.ref h, .int own, .int which, .int booking]) (n := 4) (Nat.le_of_ble_eq_true rfl)
  rw [lg_entry_eq]
  generalize (lg_sl ([.ref h, .int own, .int which, .int booking]) ++ List.replicate (4 - (lg_sl ([.ref h, .int own, .int which, .int booking])).length) Slot.unset).toArray = ls at hl ⊢
  refine w_hasLength σ own which booking hI h_own h_which h_booking E hml hA ⟨Nat.le_of_ble_eq_true rfl, Nat.le_of_ble_eq_true rfl⟩ ⟨Nat.zero_le _, Nat.zero_le _⟩ hP va_S.rf hl (fun pc v H1 locs1 ls1 hd hv hP1 hS1 => ?_)
  exact W.zret (v := v) B.exec B.bytes hr (by rw [hv]; exact isB_n (b_hasLength σ own which booking)) (fun t ht hW => ⟨⟨v, (), rfl, hv, by rw [ht]; exact hP1, va_K.moved hW.alike hK⟩, hS1.F ht⟩) hS1.2.2 hd
def k55t0_canBe (σ : St) (own : Int32) (which : Int32) (booking : Int32) : Int32 := if 0 ≤ (((σ 32 (((2 : Int32) * own) + which).toNatClampNeg) + (σ 39 booking.toNatClampNeg)) - (σ 32 ((((2 : Int32) * own) + (1 : Int32)) - which).toNatClampNeg)) then (((σ 32 (((2 : Int32) * own) + which).toNatClampNeg) + (σ 39 booking.toNatClampNeg)) - (σ 32 ((((2 : Int32) * own) + (1 : Int32)) - which).toNatClampNeg)) else (-(((σ 32 (((2 : Int32) * own) + which).toNatClampNeg) + (σ 39 booking.toNatClampNeg)) - (σ 32 ((((2 : Int32) * own) + (1 : Int32)) - which).toNatClampNeg)))
def k74t0_canBe (σ : St) (own : Int32) (which : Int32) (booking : Int32) : Int32 := if (q_hasLength σ own which booking) = 0 then (0 : Int32) else (if (σ 16 (σ 23 own.toNatClampNeg).toNatClampNeg) < (k55t0_canBe σ own which booking) then (0 : Int32) else (1 : Int32))
def q_canBe (σ : St) (own : Int32) (which : Int32) (booking : Int32) : Int32 := k74t0_canBe σ own which booking
set_option maxHeartbeats 4000000 in
set_option maxRecDepth 100000 in
theorem w_canBe {p : Program} {l : Launch} {e : Env} {R : Room} {s : State} {m : MethodId} {args : Array Value} {below : List Frame} {meth : Method} {c : Code} {H : Heap} {locs : List Loc} {cells slots : Nat} {Q : State → Prop} {D : va_G} {A : Nat → Prop} {cI cZ : ClassId} {h : Nat} {ls : Array Slot} (σ : St) (own : Int32) (which : Int32) (booking : Int32) (hI : MI σ) (h_own : vp_in own 60) (h_which : isB which) (h_booking : vp_in booking 100) (E : mE p c cX6_canBe s m args wsX6_canBe D cI cZ) (hml : c.maxLocals = 5) (hA : ∀ i, i < 44 → A (h + i)) (hR : 1 ≤ R.frames ∧ 23 ≤ R.locals) (hf : cells ≤ R.cells ∧ slots ≤ R.slots) (hP : va_P D vwCl (mW cI cZ h σ) H) (hS : va_S A s.heap H locs) (hl : lv_has ls 5 [(0, .ref h), (1, .int own), (2, .int which), (3, .int booking)]) (kr : ∀ (pc : Nat) (rv : Int32) (H1 : Heap) (locs1 : List Loc) (ls1 : Array Slot), decode cX6_canBe pc = .ok (.ireturn, 1) → rv = q_canBe σ own which booking → va_P D vwCl (mW cI cZ h (σ)) H1 → va_S A s.heap H1 locs1 → W p l e R s m args below meth c H1 locs1 cells slots Q (F0 m pc ls1 [.int rv])) : W p l e R s m args below meth c H locs cells slots Q (F0 m 0 ls []) := by
  have hx := E.1.1
  have hb := E.1.2
  have hts := E.2.1
  have hq : q_canBe σ own which booking = k74t0_canBe σ own which booking := rfl
  refine lv_aload_n hx hb dX6_canBe_0 rfl (lv_at hl 0 rfl) ?_
  refine mg_weights E hP (by decide +kernel) dX6_canBe_1 ?_
  refine lv_iconst (v := 2) hx hb dX6_canBe_4 (by decide) ?_
  refine lv_iload_n hx hb dX6_canBe_5 rfl (lv_at hl 1 rfl) ?_
  refine lv_imul hx hb dX6_canBe_6 ?_
  refine lv_iload_n hx hb dX6_canBe_7 rfl (lv_at hl 2 rfl) ?_
  refine lv_iadd hx hb dX6_canBe_8 ?_
  refine ml_weights E hP (in2 h_own h_which) dX6_canBe_9 ?_
  refine lv_aload_n hx hb dX6_canBe_10 rfl (lv_at hl 0 rfl) ?_
  refine mg_weight E hP (by decide +kernel) dX6_canBe_11 ?_
  refine lv_iload_n hx hb dX6_canBe_14 rfl (lv_at hl 3 rfl) ?_
  refine ml_weight E hP h_booking dX6_canBe_15 ?_
  refine lv_iadd hx hb dX6_canBe_16 ?_
  refine lv_aload_n hx hb dX6_canBe_17 rfl (lv_at hl 0 rfl) ?_
  refine mg_weights E hP (by decide +kernel) dX6_canBe_18 ?_
  refine lv_iconst (v := 2) hx hb dX6_canBe_21 (by decide) ?_
  refine lv_iload_n hx hb dX6_canBe_22 rfl (lv_at hl 1 rfl) ?_
  refine lv_imul hx hb dX6_canBe_23 ?_
  refine lv_iconst (v := 1) hx hb dX6_canBe_24 (by decide) ?_
  refine lv_iadd hx hb dX6_canBe_25 ?_
  refine lv_iload_n hx hb dX6_canBe_26 rfl (lv_at hl 2 rfl) ?_
  refine lv_isub hx hb dX6_canBe_27 ?_
  refine ml_weights E hP (in2m h_own h_which) dX6_canBe_28 ?_
  refine lv_isub hx hb dX6_canBe_29 ?_
  refine lv_istore (lv' := [(4, .int (((σ 32 (((2 : Int32) * own) + which).toNatClampNeg) + (σ 39 booking.toNatClampNeg)) - (σ 32 ((((2 : Int32) * own) + (1 : Int32)) - which).toNatClampNeg))), (0, .ref h), (1, .int own), (2, .int which), (3, .int booking)]) hx hb dX6_canBe_30 hl (by decide) rfl (fun ls hl => ?_)
  refine lv_aload_n hx hb dX6_canBe_32 rfl (lv_at hl 1 rfl) ?_
  refine lv_iload_n hx hb dX6_canBe_33 rfl (lv_at hl 2 rfl) ?_
  refine lv_iload_n hx hb dX6_canBe_34 rfl (lv_at hl 3 rfl) ?_
  refine lv_iload_n hx hb dX6_canBe_35 rfl (lv_at hl 4 rfl) ?_
  refine mcV_i E hml hP hS (c_hasLength l hA σ own which booking hI h_own h_which h_booking) (cwV 3 hts gX6_canBe_X6_hasLength rfl rfl rfl (by decide +kernel) ⟨Nat.le_trans (Nat.le_of_ble_eq_true rfl) hR.1, Nat.le_trans (Nat.le_of_ble_eq_true rfl) hR.2⟩) rfl hl.1 rfl (Nat.le_of_ble_eq_true rfl) dX6_canBe_36 hf (fun H locs hP hS => ?_)
  have J_1 : ∀ (y1_t0 : Int32) (H : Heap) (locs : List Loc) (ls : Array Slot), y1_t0 = (k74t0_canBe σ own which booking) → va_P D vwCl (mW cI cZ h σ) H → va_S A s.heap H locs → lv_has ls 5 [(4, .int (((σ 32 (((2 : Int32) * own) + which).toNatClampNeg) + (σ 39 booking.toNatClampNeg)) - (σ 32 ((((2 : Int32) * own) + (1 : Int32)) - which).toNatClampNeg))), (0, .ref h), (1, .int own), (2, .int which), (3, .int booking)] → W p l e R s m args below meth c H locs cells slots Q (F0 m 74 ls [.int y1_t0]) := by
    intro y1_t0 H locs ls e_y1_t0 hP hS hl
    subst e_y1_t0
    exact kr _ (k74t0_canBe σ own which booking) H locs ls dX6_canBe_74 hq.symm hP hS
  refine lv_if_eq (tgt := 73) hx hb dX6_canBe_39 (by decide) (fun c_1 => ?_) (fun c_1 => ?_)
  · refine lv_iconst (v := 0) hx hb dX6_canBe_73 (by decide) ?_
    exact J_1 (0 : Int32) H locs ls (if_pos c_1).symm hP hS (lv_sub hl [0, 1, 2, 3, 4] rfl)
  refine lv_iload hx hb dX6_canBe_42 (lv_at hl 0 rfl) ?_
  have J_2 : ∀ (y2_t0 : Int32) (H : Heap) (locs : List Loc) (ls : Array Slot), y2_t0 = (k55t0_canBe σ own which booking) → va_P D vwCl (mW cI cZ h σ) H → va_S A s.heap H locs → lv_has ls 5 [(4, .int (((σ 32 (((2 : Int32) * own) + which).toNatClampNeg) + (σ 39 booking.toNatClampNeg)) - (σ 32 ((((2 : Int32) * own) + (1 : Int32)) - which).toNatClampNeg))), (0, .ref h), (1, .int own), (2, .int which), (3, .int booking)] → W p l e R s m args below meth c H locs cells slots Q (F0 m 55 ls [.int y2_t0]) := by
    intro y2_t0 H locs ls e_y2_t0 hP hS hl
    subst e_y2_t0
    refine lv_aload_n hx hb dX6_canBe_55 rfl (lv_at hl 1 rfl) ?_
    refine mg_trim E hP (by decide +kernel) dX6_canBe_56 ?_
    refine lv_aload_n hx hb dX6_canBe_59 rfl (lv_at hl 1 rfl) ?_
    refine mg_boatOf E hP (by decide +kernel) dX6_canBe_60 ?_
    refine lv_iload_n hx hb dX6_canBe_63 rfl (lv_at hl 2 rfl) ?_
    refine ml_boatOf E hP h_own dX6_canBe_64 ?_
    refine ml_trim E hP (MI_bo hI _) dX6_canBe_65 ?_
    refine lv_icmp_gt (tgt := 73) hx hb dX6_canBe_66 (by decide) (fun c_3 => ?_) (fun c_3 => ?_)
    · refine lv_iconst (v := 0) hx hb dX6_canBe_73 (by decide) ?_
      exact J_1 (0 : Int32) H locs ls ((if_pos c_3).symm.trans (if_neg c_1).symm) hP hS (lv_sub hl [0, 1, 2, 3, 4] rfl)
    refine lv_iconst (v := 1) hx hb dX6_canBe_69 (by decide) ?_
    refine lv_goto (tgt := 74) hx hb dX6_canBe_70 (by decide) ?_
    exact J_1 (1 : Int32) H locs ls ((if_neg c_3).symm.trans (if_neg c_1).symm) hP hS (lv_sub hl [0, 1, 2, 3, 4] rfl)
  refine lv_if_ge (tgt := 53) hx hb dX6_canBe_44 (by decide) (fun c_2 => ?_) (fun c_2 => ?_)
  · refine lv_iload hx hb dX6_canBe_53 (lv_at hl 0 rfl) ?_
    exact J_2 (((σ 32 (((2 : Int32) * own) + which).toNatClampNeg) + (σ 39 booking.toNatClampNeg)) - (σ 32 ((((2 : Int32) * own) + (1 : Int32)) - which).toNatClampNeg)) H locs ls (if_pos c_2).symm hP hS (lv_sub hl [0, 1, 2, 3, 4] rfl)
  refine lv_iload hx hb dX6_canBe_47 (lv_at hl 0 rfl) ?_
  refine lv_ineg hx hb dX6_canBe_49 ?_
  refine lv_goto (tgt := 55) hx hb dX6_canBe_50 (by decide) ?_
  exact J_2 (-(((σ 32 (((2 : Int32) * own) + which).toNatClampNeg) + (σ 39 booking.toNatClampNeg)) - (σ 32 ((((2 : Int32) * own) + (1 : Int32)) - which).toNatClampNeg))) H locs ls (if_neg c_2).symm hP hS (lv_sub hl [0, 1, 2, 3, 4] rfl)
theorem b_canBe (σ : St) (own : Int32) (which : Int32) (booking : Int32) : isB (q_canBe σ own which booking) := by
  unfold q_canBe; (try unfold k55t0_canBe); (try unfold k74t0_canBe);  repeat (first | exact isB0 | exact isB1 | exact MI_z41 hI _ | apply isB_if)
set_option maxHeartbeats 4000000 in
set_option maxRecDepth 100000 in
theorem c_canBe (l : Launch) {D : va_G} {A : Nat → Prop} {cI cZ : ClassId} {h : Nat} (hA : ∀ i, i < 44 → A (h + i)) (σ : St) (own : Int32) (which : Int32) (booking : Int32) (hI : MI σ) (h_own : vp_in own 60) (h_which : isB which) (h_booking : vp_in booking 100) : Met l yX6_canBe wsX6_canBe ({ frames := 1, cells := 0, slots := 0, locals := 23 }) (va_Pc [.ref h, .int own, .int which, .int booking] (mU D cI cZ h σ)) (va_Qi (fun r (_ : Unit) => r = q_canBe σ own which booking) (fun _ t => mU D cI cZ h (σ) t) A) 0 0 A := by
  refine Met.ofW (cc := cX6_canBe) (maxL := 5) (ret := (some .boolean)) (by decide) rfl ?_
  intro p e s m args below meth c s₁ B hml hv
  obtain ⟨rfl, hP, hK⟩ := hv
  have E : mE p c cX6_canBe s m ([.ref h, .int own, .int which, .int booking] : List Value).toArray wsX6_canBe D cI cZ := ⟨⟨B.exec, B.bytes⟩, atoms_spec (ws := wsX6_canBe) B.pre, (by decide +kernel), findClass_of_methodNamed B.named, hK⟩
  have hr := B.returns
  have hlocks := B.notSynchronized
  have hl := lv_entry ([.ref h, .int own, .int which, .int booking]) (n := 5) (Nat.le_of_ble_eq_true rfl)
  rw [lg_entry_eq]
  generalize (lg_sl ([.ref h, .int own, .int which, .int booking]) ++ List.replicate (5 - (lg_sl ([.ref h, .int own, .int which, .int booking])).length) Slot.unset).toArray = ls at hl ⊢
  refine w_canBe σ own which booking hI h_own h_which h_booking E hml hA ⟨Nat.le_of_ble_eq_true rfl, Nat.le_of_ble_eq_true rfl⟩ ⟨Nat.zero_le _, Nat.zero_le _⟩ hP va_S.rf hl (fun pc v H1 locs1 ls1 hd hv hP1 hS1 => ?_)
  exact W.zret (v := v) B.exec B.bytes hr (by rw [hv]; exact isB_n (b_canBe σ own which booking)) (fun t ht hW => ⟨⟨v, (), rfl, hv, by rw [ht]; exact hP1, va_K.moved hW.alike hK⟩, hS1.F ht⟩) hS1.2.2 hd
def lf_whyNot_5 (σ : St) (own : Int32) (booking : Int32) : Nat → Nat → Int32 → Int32
  | 0, _, x3 => x3
  | n + 1, i, x3 => if (σ 34 0) ≤ (nI i) then x3 else (lf_whyNot_5 σ own booking n (i + 1) (if x3 = 0 then (if (σ 36 (nI i).toNatClampNeg) = own then (if (σ 35 (nI i).toNatClampNeg) = (1 : Int32) then (if (σ 40 (nI i).toNatClampNeg) ≤ 0 then (0 : Int32) else (if (σ 40 (nI i).toNatClampNeg) = (σ 40 booking.toNatClampNeg) then (0 : Int32) else (1 : Int32))) else (0 : Int32)) else (0 : Int32)) else (1 : Int32)))
def k182t0_whyNot (σ : St) (own : Int32) (booking : Int32) : Int32 := if (q_canBe σ own (0 : Int32) booking) = 0 then (if (q_canBe σ own (1 : Int32) booking) = 0 then (4 : Int32) else (0 : Int32)) else (0 : Int32)
def q_whyNot (σ : St) (own : Int32) (booking : Int32) : Int32 := if (σ 40 booking.toNatClampNeg) ≤ 0 then (if (((σ 32 ((2 : Int32) * own).toNatClampNeg) + (σ 32 (((2 : Int32) * own) + (1 : Int32)).toNatClampNeg)) + (σ 39 booking.toNatClampNeg)) ≤ (σ 15 (σ 23 own.toNatClampNeg).toNatClampNeg) then (if (q_hasLength σ own (0 : Int32) booking) = 0 then (if (q_hasLength σ own (1 : Int32) booking) = 0 then (3 : Int32) else (k182t0_whyNot σ own booking)) else (k182t0_whyNot σ own booking)) else (2 : Int32)) else (if (lf_whyNot_5 σ own booking 101 0 (0 : Int32)) = 0 then (if (((σ 32 ((2 : Int32) * own).toNatClampNeg) + (σ 32 (((2 : Int32) * own) + (1 : Int32)).toNatClampNeg)) + (σ 39 booking.toNatClampNeg)) ≤ (σ 15 (σ 23 own.toNatClampNeg).toNatClampNeg) then (if (q_hasLength σ own (0 : Int32) booking) = 0 then (if (q_hasLength σ own (1 : Int32) booking) = 0 then (3 : Int32) else (k182t0_whyNot σ own booking)) else (k182t0_whyNot σ own booking)) else (2 : Int32)) else (1 : Int32))
set_option maxHeartbeats 4000000 in
set_option maxRecDepth 100000 in
theorem w_whyNot {p : Program} {l : Launch} {e : Env} {R : Room} {s : State} {m : MethodId} {args : Array Value} {below : List Frame} {meth : Method} {c : Code} {H : Heap} {locs : List Loc} {cells slots : Nat} {Q : State → Prop} {D : va_G} {A : Nat → Prop} {cI cZ : ClassId} {h : Nat} {ls : Array Slot} (σ : St) (own : Int32) (booking : Int32) (hI : MI σ) (h_own : vp_in own 60) (h_booking : vp_in booking 100) (E : mE p c cX6_whyNot s m args wsX6_whyNot D cI cZ) (hml : c.maxLocals = 5) (hA : ∀ i, i < 44 → A (h + i)) (hR : 2 ≤ R.frames ∧ 47 ≤ R.locals) (hf : cells ≤ R.cells ∧ slots ≤ R.slots) (hP : va_P D vwCl (mW cI cZ h σ) H) (hS : va_S A s.heap H locs) (hl : lv_has ls 5 [(0, .ref h), (1, .int own), (2, .int booking)]) (kr : ∀ (pc : Nat) (rv : Int32) (H1 : Heap) (locs1 : List Loc) (ls1 : Array Slot), decode cX6_whyNot pc = .ok (.ireturn, 1) → rv = q_whyNot σ own booking → va_P D vwCl (mW cI cZ h (σ)) H1 → va_S A s.heap H1 locs1 → W p l e R s m args below meth c H1 locs1 cells slots Q (F0 m pc ls1 [.int rv])) : W p l e R s m args below meth c H locs cells slots Q (F0 m 0 ls []) := by
  have hx := E.1.1
  have hb := E.1.2
  have hts := E.2.1
  have hq : q_whyNot σ own booking = if (σ 40 booking.toNatClampNeg) ≤ 0 then (if (((σ 32 ((2 : Int32) * own).toNatClampNeg) + (σ 32 (((2 : Int32) * own) + (1 : Int32)).toNatClampNeg)) + (σ 39 booking.toNatClampNeg)) ≤ (σ 15 (σ 23 own.toNatClampNeg).toNatClampNeg) then (if (q_hasLength σ own (0 : Int32) booking) = 0 then (if (q_hasLength σ own (1 : Int32) booking) = 0 then (3 : Int32) else (k182t0_whyNot σ own booking)) else (k182t0_whyNot σ own booking)) else (2 : Int32)) else (if (lf_whyNot_5 σ own booking 101 0 (0 : Int32)) = 0 then (if (((σ 32 ((2 : Int32) * own).toNatClampNeg) + (σ 32 (((2 : Int32) * own) + (1 : Int32)).toNatClampNeg)) + (σ 39 booking.toNatClampNeg)) ≤ (σ 15 (σ 23 own.toNatClampNeg).toNatClampNeg) then (if (q_hasLength σ own (0 : Int32) booking) = 0 then (if (q_hasLength σ own (1 : Int32) booking) = 0 then (3 : Int32) else (k182t0_whyNot σ own booking)) else (k182t0_whyNot σ own booking)) else (2 : Int32)) else (1 : Int32)) := rfl
  refine lv_iconst (v := 0) hx hb dX6_whyNot_0 (by decide) ?_
  refine lv_istore_n (lv' := [(3, .int (0 : Int32)), (0, .ref h), (1, .int own), (2, .int booking)]) hx hb dX6_whyNot_1 rfl hl (by decide) rfl (fun ls hl => ?_)
  refine lv_iconst (v := 0) hx hb dX6_whyNot_2 (by decide) ?_
  refine lv_istore (lv' := [(4, .int (0 : Int32)), (3, .int (0 : Int32)), (0, .ref h), (1, .int own), (2, .int booking)]) hx hb dX6_whyNot_3 hl (by decide) rfl (fun ls hl => ?_)
  obtain ⟨C, hC, eC⟩ := MI_n34 hI
  have L_7 : ∀ (n : Nat) (i : Nat) (x3 : Int32) (H : Heap) (locs : List Loc) (ls : Array Slot), i + n = 101 → i ≤ C → lf_whyNot_5 σ own booking n i x3 = lf_whyNot_5 σ own booking 101 0 (0 : Int32) → va_P D vwCl (mW cI cZ h σ) H → va_S A s.heap H locs → lv_has ls 5 [(4, .int (nI i)), (3, .int x3), (0, .ref h), (1, .int own), (2, .int booking)] → W p l e R s m args below meth c H locs cells slots Q (F0 m 5 ls []) := by
    intro n
    induction n with
    | zero => intro i x3 H locs ls hin hiC; omega
    | succ n ih =>
      intro i x3 H locs ls hin hiC hfin hP hS hl
      have hfin : (if (σ 34 0) ≤ (nI i) then x3 else (lf_whyNot_5 σ own booking n (i + 1) (if x3 = 0 then (if (σ 36 (nI i).toNatClampNeg) = own then (if (σ 35 (nI i).toNatClampNeg) = (1 : Int32) then (if (σ 40 (nI i).toNatClampNeg) ≤ 0 then (0 : Int32) else (if (σ 40 (nI i).toNatClampNeg) = (σ 40 booking.toNatClampNeg) then (0 : Int32) else (1 : Int32))) else (0 : Int32)) else (0 : Int32)) else (1 : Int32)))) = lf_whyNot_5 σ own booking 101 0 (0 : Int32) := hfin
      refine lv_iload hx hb dX6_whyNot_5 (lv_at hl 0 rfl) ?_
      refine lv_aload_n hx hb dX6_whyNot_7 rfl (lv_at hl 2 rfl) ?_
      refine mg_bookings E hP (by decide +kernel) dX6_whyNot_8 ?_
      refine lv_icmp_ge (tgt := 78) hx hb dX6_whyNot_11 (by decide) (fun c_1 => ?_) (fun c_1 => ?_)
      · have hfin := (if_pos c_1).symm.trans hfin
        subst hfin
        have hl := lv_sub hl [1, 2, 3, 4] rfl
        refine lv_aload_n hx hb dX6_whyNot_78 rfl (lv_at hl 1 rfl) ?_
        refine mg_danger E hP (by decide +kernel) dX6_whyNot_79 ?_
        refine lv_iload_n hx hb dX6_whyNot_82 rfl (lv_at hl 3 rfl) ?_
        refine ml_danger E hP h_booking dX6_whyNot_83 ?_
        refine lv_if_le (tgt := 93) hx hb dX6_whyNot_84 (by decide) (fun c_8 => ?_) (fun c_8 => ?_)
        · have hq := hq.trans (if_pos c_8)
          refine lv_aload_n hx hb dX6_whyNot_93 rfl (lv_at hl 1 rfl) ?_
          refine mg_weights E hP (by decide +kernel) dX6_whyNot_94 ?_
          refine lv_iconst (v := 2) hx hb dX6_whyNot_97 (by decide) ?_
          refine lv_iload_n hx hb dX6_whyNot_98 rfl (lv_at hl 2 rfl) ?_
          refine lv_imul hx hb dX6_whyNot_99 ?_
          refine ml_weights E hP (in2z h_own) dX6_whyNot_100 ?_
          refine lv_aload_n hx hb dX6_whyNot_101 rfl (lv_at hl 1 rfl) ?_
          refine mg_weights E hP (by decide +kernel) dX6_whyNot_102 ?_
          refine lv_iconst (v := 2) hx hb dX6_whyNot_105 (by decide) ?_
          refine lv_iload_n hx hb dX6_whyNot_106 rfl (lv_at hl 2 rfl) ?_
          refine lv_imul hx hb dX6_whyNot_107 ?_
          refine lv_iconst (v := 1) hx hb dX6_whyNot_108 (by decide) ?_
          refine lv_iadd hx hb dX6_whyNot_109 ?_
          refine ml_weights E hP (in2 h_own isB1) dX6_whyNot_110 ?_
          refine lv_iadd hx hb dX6_whyNot_111 ?_
          refine lv_aload_n hx hb dX6_whyNot_112 rfl (lv_at hl 1 rfl) ?_
          refine mg_weight E hP (by decide +kernel) dX6_whyNot_113 ?_
          refine lv_iload_n hx hb dX6_whyNot_116 rfl (lv_at hl 3 rfl) ?_
          refine ml_weight E hP h_booking dX6_whyNot_117 ?_
          refine lv_iadd hx hb dX6_whyNot_118 ?_
          refine lv_aload_n hx hb dX6_whyNot_119 rfl (lv_at hl 1 rfl) ?_
          refine mg_bears E hP (by decide +kernel) dX6_whyNot_120 ?_
          refine lv_aload_n hx hb dX6_whyNot_123 rfl (lv_at hl 1 rfl) ?_
          refine mg_boatOf E hP (by decide +kernel) dX6_whyNot_124 ?_
          refine lv_iload_n hx hb dX6_whyNot_127 rfl (lv_at hl 2 rfl) ?_
          refine ml_boatOf E hP h_own dX6_whyNot_128 ?_
          refine ml_bears E hP (MI_bo hI _) dX6_whyNot_129 ?_
          refine lv_icmp_le (tgt := 135) hx hb dX6_whyNot_130 (by decide) (fun c_9 => ?_) (fun c_9 => ?_)
          · have hq := hq.trans (if_pos c_9)
            refine lv_aload_n hx hb dX6_whyNot_135 rfl (lv_at hl 1 rfl) ?_
            refine lv_iload_n hx hb dX6_whyNot_136 rfl (lv_at hl 2 rfl) ?_
            refine lv_iconst (v := 0) hx hb dX6_whyNot_137 (by decide) ?_
            refine lv_iload_n hx hb dX6_whyNot_138 rfl (lv_at hl 3 rfl) ?_
            refine mcV_i E hml hP hS (c_hasLength l hA σ own (0 : Int32) booking hI h_own isB0 h_booking) (cwV 3 hts gX6_whyNot_X6_hasLength rfl rfl rfl (by decide +kernel) ⟨Nat.le_trans (Nat.le_of_ble_eq_true rfl) hR.1, Nat.le_trans (Nat.le_of_ble_eq_true rfl) hR.2⟩) rfl hl.1 rfl (Nat.le_of_ble_eq_true rfl) dX6_whyNot_139 hf (fun H locs hP hS => ?_)
            refine lv_if_ne (tgt := 157) hx hb dX6_whyNot_142 (by decide) (fun c_10 => ?_) (fun c_10 => ?_)
            · have hq := hq.trans (if_neg c_10)
              refine lv_aload_n hx hb dX6_whyNot_157 rfl (lv_at hl 1 rfl) ?_
              refine lv_iload_n hx hb dX6_whyNot_158 rfl (lv_at hl 2 rfl) ?_
              refine lv_iconst (v := 0) hx hb dX6_whyNot_159 (by decide) ?_
              refine lv_iload_n hx hb dX6_whyNot_160 rfl (lv_at hl 3 rfl) ?_
              refine mcV_i E hml hP hS (c_canBe l hA σ own (0 : Int32) booking hI h_own isB0 h_booking) (cwV 3 hts gX6_whyNot_X6_canBe rfl rfl rfl (by decide +kernel) ⟨Nat.le_trans (Nat.le_of_ble_eq_true rfl) hR.1, Nat.le_trans (Nat.le_of_ble_eq_true rfl) hR.2⟩) rfl hl.1 rfl (Nat.le_of_ble_eq_true rfl) dX6_whyNot_161 hf (fun H locs hP hS => ?_)
              have J_11 : ∀ (y11_t0 : Int32) (H : Heap) (locs : List Loc) (ls : Array Slot), y11_t0 = (k182t0_whyNot σ own booking) → va_P D vwCl (mW cI cZ h σ) H → va_S A s.heap H locs → lv_has ls 5 [(3, .int (lf_whyNot_5 σ own booking 101 0 (0 : Int32))), (0, .ref h), (1, .int own), (2, .int booking)] → W p l e R s m args below meth c H locs cells slots Q (F0 m 182 ls [.int y11_t0]) := by
                intro y11_t0 H locs ls e_y11_t0 hP hS hl
                subst e_y11_t0
                exact kr _ (k182t0_whyNot σ own booking) H locs ls dX6_whyNot_182 hq.symm hP hS
              refine lv_if_ne (tgt := 177) hx hb dX6_whyNot_164 (by decide) (fun c_11 => ?_) (fun c_11 => ?_)
              · refine lv_iconst (v := 0) hx hb dX6_whyNot_177 (by decide) ?_
                refine lv_goto (tgt := 182) hx hb dX6_whyNot_178 (by decide) ?_
                exact J_11 (0 : Int32) H locs ls (if_neg c_11).symm hP hS (lv_sub hl [0, 1, 2, 3] rfl)
              refine lv_aload_n hx hb dX6_whyNot_167 rfl (lv_at hl 1 rfl) ?_
              refine lv_iload_n hx hb dX6_whyNot_168 rfl (lv_at hl 2 rfl) ?_
              refine lv_iconst (v := 1) hx hb dX6_whyNot_169 (by decide) ?_
              refine lv_iload_n hx hb dX6_whyNot_170 rfl (lv_at hl 3 rfl) ?_
              refine mcV_i E hml hP hS (c_canBe l hA σ own (1 : Int32) booking hI h_own isB1 h_booking) (cwV 3 hts gX6_whyNot_X6_canBe rfl rfl rfl (by decide +kernel) ⟨Nat.le_trans (Nat.le_of_ble_eq_true rfl) hR.1, Nat.le_trans (Nat.le_of_ble_eq_true rfl) hR.2⟩) rfl hl.1 rfl (Nat.le_of_ble_eq_true rfl) dX6_whyNot_171 hf (fun H locs hP hS => ?_)
              refine lv_if_eq (tgt := 181) hx hb dX6_whyNot_174 (by decide) (fun c_12 => ?_) (fun c_12 => ?_)
              · refine lv_iconst (v := 4) hx hb dX6_whyNot_181 (by decide) ?_
                exact J_11 (4 : Int32) H locs ls ((if_pos c_12).symm.trans (if_pos c_11).symm) hP hS (lv_sub hl [0, 1, 2, 3] rfl)
              refine lv_iconst (v := 0) hx hb dX6_whyNot_177 (by decide) ?_
              refine lv_goto (tgt := 182) hx hb dX6_whyNot_178 (by decide) ?_
              exact J_11 (0 : Int32) H locs ls ((if_neg c_12).symm.trans (if_pos c_11).symm) hP hS (lv_sub hl [0, 1, 2, 3] rfl)
            have hq := hq.trans (if_pos c_10)
            refine lv_aload_n hx hb dX6_whyNot_145 rfl (lv_at hl 1 rfl) ?_
            refine lv_iload_n hx hb dX6_whyNot_146 rfl (lv_at hl 2 rfl) ?_
            refine lv_iconst (v := 1) hx hb dX6_whyNot_147 (by decide) ?_
            refine lv_iload_n hx hb dX6_whyNot_148 rfl (lv_at hl 3 rfl) ?_
            refine mcV_i E hml hP hS (c_hasLength l hA σ own (1 : Int32) booking hI h_own isB1 h_booking) (cwV 3 hts gX6_whyNot_X6_hasLength rfl rfl rfl (by decide +kernel) ⟨Nat.le_trans (Nat.le_of_ble_eq_true rfl) hR.1, Nat.le_trans (Nat.le_of_ble_eq_true rfl) hR.2⟩) rfl hl.1 rfl (Nat.le_of_ble_eq_true rfl) dX6_whyNot_149 hf (fun H locs hP hS => ?_)
            refine lv_if_ne (tgt := 157) hx hb dX6_whyNot_152 (by decide) (fun c_13 => ?_) (fun c_13 => ?_)
            · have hq := hq.trans (if_neg c_13)
              refine lv_aload_n hx hb dX6_whyNot_157 rfl (lv_at hl 1 rfl) ?_
              refine lv_iload_n hx hb dX6_whyNot_158 rfl (lv_at hl 2 rfl) ?_
              refine lv_iconst (v := 0) hx hb dX6_whyNot_159 (by decide) ?_
              refine lv_iload_n hx hb dX6_whyNot_160 rfl (lv_at hl 3 rfl) ?_
              refine mcV_i E hml hP hS (c_canBe l hA σ own (0 : Int32) booking hI h_own isB0 h_booking) (cwV 3 hts gX6_whyNot_X6_canBe rfl rfl rfl (by decide +kernel) ⟨Nat.le_trans (Nat.le_of_ble_eq_true rfl) hR.1, Nat.le_trans (Nat.le_of_ble_eq_true rfl) hR.2⟩) rfl hl.1 rfl (Nat.le_of_ble_eq_true rfl) dX6_whyNot_161 hf (fun H locs hP hS => ?_)
              have J_14 : ∀ (y14_t0 : Int32) (H : Heap) (locs : List Loc) (ls : Array Slot), y14_t0 = (k182t0_whyNot σ own booking) → va_P D vwCl (mW cI cZ h σ) H → va_S A s.heap H locs → lv_has ls 5 [(3, .int (lf_whyNot_5 σ own booking 101 0 (0 : Int32))), (0, .ref h), (1, .int own), (2, .int booking)] → W p l e R s m args below meth c H locs cells slots Q (F0 m 182 ls [.int y14_t0]) := by
                intro y14_t0 H locs ls e_y14_t0 hP hS hl
                subst e_y14_t0
                exact kr _ (k182t0_whyNot σ own booking) H locs ls dX6_whyNot_182 hq.symm hP hS
              refine lv_if_ne (tgt := 177) hx hb dX6_whyNot_164 (by decide) (fun c_14 => ?_) (fun c_14 => ?_)
              · refine lv_iconst (v := 0) hx hb dX6_whyNot_177 (by decide) ?_
                refine lv_goto (tgt := 182) hx hb dX6_whyNot_178 (by decide) ?_
                exact J_14 (0 : Int32) H locs ls (if_neg c_14).symm hP hS (lv_sub hl [0, 1, 2, 3] rfl)
              refine lv_aload_n hx hb dX6_whyNot_167 rfl (lv_at hl 1 rfl) ?_
              refine lv_iload_n hx hb dX6_whyNot_168 rfl (lv_at hl 2 rfl) ?_
              refine lv_iconst (v := 1) hx hb dX6_whyNot_169 (by decide) ?_
              refine lv_iload_n hx hb dX6_whyNot_170 rfl (lv_at hl 3 rfl) ?_
              refine mcV_i E hml hP hS (c_canBe l hA σ own (1 : Int32) booking hI h_own isB1 h_booking) (cwV 3 hts gX6_whyNot_X6_canBe rfl rfl rfl (by decide +kernel) ⟨Nat.le_trans (Nat.le_of_ble_eq_true rfl) hR.1, Nat.le_trans (Nat.le_of_ble_eq_true rfl) hR.2⟩) rfl hl.1 rfl (Nat.le_of_ble_eq_true rfl) dX6_whyNot_171 hf (fun H locs hP hS => ?_)
              refine lv_if_eq (tgt := 181) hx hb dX6_whyNot_174 (by decide) (fun c_15 => ?_) (fun c_15 => ?_)
              · refine lv_iconst (v := 4) hx hb dX6_whyNot_181 (by decide) ?_
                exact J_14 (4 : Int32) H locs ls ((if_pos c_15).symm.trans (if_pos c_14).symm) hP hS (lv_sub hl [0, 1, 2, 3] rfl)
              refine lv_iconst (v := 0) hx hb dX6_whyNot_177 (by decide) ?_
              refine lv_goto (tgt := 182) hx hb dX6_whyNot_178 (by decide) ?_
              exact J_14 (0 : Int32) H locs ls ((if_neg c_15).symm.trans (if_pos c_14).symm) hP hS (lv_sub hl [0, 1, 2, 3] rfl)
            have hq := hq.trans (if_pos c_13)
            refine lv_iconst (v := 3) hx hb dX6_whyNot_155 (by decide) ?_
            exact kr _ (3 : Int32) H locs ls dX6_whyNot_156 hq.symm hP hS
          have hq := hq.trans (if_neg c_9)
          refine lv_iconst (v := 2) hx hb dX6_whyNot_133 (by decide) ?_
          exact kr _ (2 : Int32) H locs ls dX6_whyNot_134 hq.symm hP hS
        have hq := hq.trans (if_neg c_8)
        refine lv_iload_n hx hb dX6_whyNot_87 rfl (lv_at hl 0 rfl) ?_
        refine lv_if_eq (tgt := 93) hx hb dX6_whyNot_88 (by decide) (fun c_16 => ?_) (fun c_16 => ?_)
        · have hq := hq.trans (if_pos c_16)
          refine lv_aload_n hx hb dX6_whyNot_93 rfl (lv_at hl 1 rfl) ?_
          refine mg_weights E hP (by decide +kernel) dX6_whyNot_94 ?_
          refine lv_iconst (v := 2) hx hb dX6_whyNot_97 (by decide) ?_
          refine lv_iload_n hx hb dX6_whyNot_98 rfl (lv_at hl 2 rfl) ?_
          refine lv_imul hx hb dX6_whyNot_99 ?_
          refine ml_weights E hP (in2z h_own) dX6_whyNot_100 ?_
          refine lv_aload_n hx hb dX6_whyNot_101 rfl (lv_at hl 1 rfl) ?_
          refine mg_weights E hP (by decide +kernel) dX6_whyNot_102 ?_
          refine lv_iconst (v := 2) hx hb dX6_whyNot_105 (by decide) ?_
          refine lv_iload_n hx hb dX6_whyNot_106 rfl (lv_at hl 2 rfl) ?_
          refine lv_imul hx hb dX6_whyNot_107 ?_
          refine lv_iconst (v := 1) hx hb dX6_whyNot_108 (by decide) ?_
          refine lv_iadd hx hb dX6_whyNot_109 ?_
          refine ml_weights E hP (in2 h_own isB1) dX6_whyNot_110 ?_
          refine lv_iadd hx hb dX6_whyNot_111 ?_
          refine lv_aload_n hx hb dX6_whyNot_112 rfl (lv_at hl 1 rfl) ?_
          refine mg_weight E hP (by decide +kernel) dX6_whyNot_113 ?_
          refine lv_iload_n hx hb dX6_whyNot_116 rfl (lv_at hl 3 rfl) ?_
          refine ml_weight E hP h_booking dX6_whyNot_117 ?_
          refine lv_iadd hx hb dX6_whyNot_118 ?_
          refine lv_aload_n hx hb dX6_whyNot_119 rfl (lv_at hl 1 rfl) ?_
          refine mg_bears E hP (by decide +kernel) dX6_whyNot_120 ?_
          refine lv_aload_n hx hb dX6_whyNot_123 rfl (lv_at hl 1 rfl) ?_
          refine mg_boatOf E hP (by decide +kernel) dX6_whyNot_124 ?_
          refine lv_iload_n hx hb dX6_whyNot_127 rfl (lv_at hl 2 rfl) ?_
          refine ml_boatOf E hP h_own dX6_whyNot_128 ?_
          refine ml_bears E hP (MI_bo hI _) dX6_whyNot_129 ?_
          refine lv_icmp_le (tgt := 135) hx hb dX6_whyNot_130 (by decide) (fun c_17 => ?_) (fun c_17 => ?_)
          · have hq := hq.trans (if_pos c_17)
            refine lv_aload_n hx hb dX6_whyNot_135 rfl (lv_at hl 1 rfl) ?_
            refine lv_iload_n hx hb dX6_whyNot_136 rfl (lv_at hl 2 rfl) ?_
            refine lv_iconst (v := 0) hx hb dX6_whyNot_137 (by decide) ?_
            refine lv_iload_n hx hb dX6_whyNot_138 rfl (lv_at hl 3 rfl) ?_
            refine mcV_i E hml hP hS (c_hasLength l hA σ own (0 : Int32) booking hI h_own isB0 h_booking) (cwV 3 hts gX6_whyNot_X6_hasLength rfl rfl rfl (by decide +kernel) ⟨Nat.le_trans (Nat.le_of_ble_eq_true rfl) hR.1, Nat.le_trans (Nat.le_of_ble_eq_true rfl) hR.2⟩) rfl hl.1 rfl (Nat.le_of_ble_eq_true rfl) dX6_whyNot_139 hf (fun H locs hP hS => ?_)
            refine lv_if_ne (tgt := 157) hx hb dX6_whyNot_142 (by decide) (fun c_18 => ?_) (fun c_18 => ?_)
            · have hq := hq.trans (if_neg c_18)
              refine lv_aload_n hx hb dX6_whyNot_157 rfl (lv_at hl 1 rfl) ?_
              refine lv_iload_n hx hb dX6_whyNot_158 rfl (lv_at hl 2 rfl) ?_
              refine lv_iconst (v := 0) hx hb dX6_whyNot_159 (by decide) ?_
              refine lv_iload_n hx hb dX6_whyNot_160 rfl (lv_at hl 3 rfl) ?_
              refine mcV_i E hml hP hS (c_canBe l hA σ own (0 : Int32) booking hI h_own isB0 h_booking) (cwV 3 hts gX6_whyNot_X6_canBe rfl rfl rfl (by decide +kernel) ⟨Nat.le_trans (Nat.le_of_ble_eq_true rfl) hR.1, Nat.le_trans (Nat.le_of_ble_eq_true rfl) hR.2⟩) rfl hl.1 rfl (Nat.le_of_ble_eq_true rfl) dX6_whyNot_161 hf (fun H locs hP hS => ?_)
              have J_19 : ∀ (y19_t0 : Int32) (H : Heap) (locs : List Loc) (ls : Array Slot), y19_t0 = (k182t0_whyNot σ own booking) → va_P D vwCl (mW cI cZ h σ) H → va_S A s.heap H locs → lv_has ls 5 [(3, .int (lf_whyNot_5 σ own booking 101 0 (0 : Int32))), (0, .ref h), (1, .int own), (2, .int booking)] → W p l e R s m args below meth c H locs cells slots Q (F0 m 182 ls [.int y19_t0]) := by
                intro y19_t0 H locs ls e_y19_t0 hP hS hl
                subst e_y19_t0
                exact kr _ (k182t0_whyNot σ own booking) H locs ls dX6_whyNot_182 hq.symm hP hS
              refine lv_if_ne (tgt := 177) hx hb dX6_whyNot_164 (by decide) (fun c_19 => ?_) (fun c_19 => ?_)
              · refine lv_iconst (v := 0) hx hb dX6_whyNot_177 (by decide) ?_
                refine lv_goto (tgt := 182) hx hb dX6_whyNot_178 (by decide) ?_
                exact J_19 (0 : Int32) H locs ls (if_neg c_19).symm hP hS (lv_sub hl [0, 1, 2, 3] rfl)
              refine lv_aload_n hx hb dX6_whyNot_167 rfl (lv_at hl 1 rfl) ?_
              refine lv_iload_n hx hb dX6_whyNot_168 rfl (lv_at hl 2 rfl) ?_
              refine lv_iconst (v := 1) hx hb dX6_whyNot_169 (by decide) ?_
              refine lv_iload_n hx hb dX6_whyNot_170 rfl (lv_at hl 3 rfl) ?_
              refine mcV_i E hml hP hS (c_canBe l hA σ own (1 : Int32) booking hI h_own isB1 h_booking) (cwV 3 hts gX6_whyNot_X6_canBe rfl rfl rfl (by decide +kernel) ⟨Nat.le_trans (Nat.le_of_ble_eq_true rfl) hR.1, Nat.le_trans (Nat.le_of_ble_eq_true rfl) hR.2⟩) rfl hl.1 rfl (Nat.le_of_ble_eq_true rfl) dX6_whyNot_171 hf (fun H locs hP hS => ?_)
              refine lv_if_eq (tgt := 181) hx hb dX6_whyNot_174 (by decide) (fun c_20 => ?_) (fun c_20 => ?_)
              · refine lv_iconst (v := 4) hx hb dX6_whyNot_181 (by decide) ?_
                exact J_19 (4 : Int32) H locs ls ((if_pos c_20).symm.trans (if_pos c_19).symm) hP hS (lv_sub hl [0, 1, 2, 3] rfl)
              refine lv_iconst (v := 0) hx hb dX6_whyNot_177 (by decide) ?_
              refine lv_goto (tgt := 182) hx hb dX6_whyNot_178 (by decide) ?_
              exact J_19 (0 : Int32) H locs ls ((if_neg c_20).symm.trans (if_pos c_19).symm) hP hS (lv_sub hl [0, 1, 2, 3] rfl)
            have hq := hq.trans (if_pos c_18)
            refine lv_aload_n hx hb dX6_whyNot_145 rfl (lv_at hl 1 rfl) ?_
            refine lv_iload_n hx hb dX6_whyNot_146 rfl (lv_at hl 2 rfl) ?_
            refine lv_iconst (v := 1) hx hb dX6_whyNot_147 (by decide) ?_
            refine lv_iload_n hx hb dX6_whyNot_148 rfl (lv_at hl 3 rfl) ?_
            refine mcV_i E hml hP hS (c_hasLength l hA σ own (1 : Int32) booking hI h_own isB1 h_booking) (cwV 3 hts gX6_whyNot_X6_hasLength rfl rfl rfl (by decide +kernel) ⟨Nat.le_trans (Nat.le_of_ble_eq_true rfl) hR.1, Nat.le_trans (Nat.le_of_ble_eq_true rfl) hR.2⟩) rfl hl.1 rfl (Nat.le_of_ble_eq_true rfl) dX6_whyNot_149 hf (fun H locs hP hS => ?_)
            refine lv_if_ne (tgt := 157) hx hb dX6_whyNot_152 (by decide) (fun c_21 => ?_) (fun c_21 => ?_)
            · have hq := hq.trans (if_neg c_21)
              refine lv_aload_n hx hb dX6_whyNot_157 rfl (lv_at hl 1 rfl) ?_
              refine lv_iload_n hx hb dX6_whyNot_158 rfl (lv_at hl 2 rfl) ?_
              refine lv_iconst (v := 0) hx hb dX6_whyNot_159 (by decide) ?_
              refine lv_iload_n hx hb dX6_whyNot_160 rfl (lv_at hl 3 rfl) ?_
              refine mcV_i E hml hP hS (c_canBe l hA σ own (0 : Int32) booking hI h_own isB0 h_booking) (cwV 3 hts gX6_whyNot_X6_canBe rfl rfl rfl (by decide +kernel) ⟨Nat.le_trans (Nat.le_of_ble_eq_true rfl) hR.1, Nat.le_trans (Nat.le_of_ble_eq_true rfl) hR.2⟩) rfl hl.1 rfl (Nat.le_of_ble_eq_true rfl) dX6_whyNot_161 hf (fun H locs hP hS => ?_)
              have J_22 : ∀ (y22_t0 : Int32) (H : Heap) (locs : List Loc) (ls : Array Slot), y22_t0 = (k182t0_whyNot σ own booking) → va_P D vwCl (mW cI cZ h σ) H → va_S A s.heap H locs → lv_has ls 5 [(3, .int (lf_whyNot_5 σ own booking 101 0 (0 : Int32))), (0, .ref h), (1, .int own), (2, .int booking)] → W p l e R s m args below meth c H locs cells slots Q (F0 m 182 ls [.int y22_t0]) := by
                intro y22_t0 H locs ls e_y22_t0 hP hS hl
                subst e_y22_t0
                exact kr _ (k182t0_whyNot σ own booking) H locs ls dX6_whyNot_182 hq.symm hP hS
              refine lv_if_ne (tgt := 177) hx hb dX6_whyNot_164 (by decide) (fun c_22 => ?_) (fun c_22 => ?_)
              · refine lv_iconst (v := 0) hx hb dX6_whyNot_177 (by decide) ?_
                refine lv_goto (tgt := 182) hx hb dX6_whyNot_178 (by decide) ?_
                exact J_22 (0 : Int32) H locs ls (if_neg c_22).symm hP hS (lv_sub hl [0, 1, 2, 3] rfl)
              refine lv_aload_n hx hb dX6_whyNot_167 rfl (lv_at hl 1 rfl) ?_
              refine lv_iload_n hx hb dX6_whyNot_168 rfl (lv_at hl 2 rfl) ?_
              refine lv_iconst (v := 1) hx hb dX6_whyNot_169 (by decide) ?_
              refine lv_iload_n hx hb dX6_whyNot_170 rfl (lv_at hl 3 rfl) ?_
              refine mcV_i E hml hP hS (c_canBe l hA σ own (1 : Int32) booking hI h_own isB1 h_booking) (cwV 3 hts gX6_whyNot_X6_canBe rfl rfl rfl (by decide +kernel) ⟨Nat.le_trans (Nat.le_of_ble_eq_true rfl) hR.1, Nat.le_trans (Nat.le_of_ble_eq_true rfl) hR.2⟩) rfl hl.1 rfl (Nat.le_of_ble_eq_true rfl) dX6_whyNot_171 hf (fun H locs hP hS => ?_)
              refine lv_if_eq (tgt := 181) hx hb dX6_whyNot_174 (by decide) (fun c_23 => ?_) (fun c_23 => ?_)
              · refine lv_iconst (v := 4) hx hb dX6_whyNot_181 (by decide) ?_
                exact J_22 (4 : Int32) H locs ls ((if_pos c_23).symm.trans (if_pos c_22).symm) hP hS (lv_sub hl [0, 1, 2, 3] rfl)
              refine lv_iconst (v := 0) hx hb dX6_whyNot_177 (by decide) ?_
              refine lv_goto (tgt := 182) hx hb dX6_whyNot_178 (by decide) ?_
              exact J_22 (0 : Int32) H locs ls ((if_neg c_23).symm.trans (if_pos c_22).symm) hP hS (lv_sub hl [0, 1, 2, 3] rfl)
            have hq := hq.trans (if_pos c_21)
            refine lv_iconst (v := 3) hx hb dX6_whyNot_155 (by decide) ?_
            exact kr _ (3 : Int32) H locs ls dX6_whyNot_156 hq.symm hP hS
          have hq := hq.trans (if_neg c_17)
          refine lv_iconst (v := 2) hx hb dX6_whyNot_133 (by decide) ?_
          exact kr _ (2 : Int32) H locs ls dX6_whyNot_134 hq.symm hP hS
        have hq := hq.trans (if_neg c_16)
        refine lv_iconst (v := 1) hx hb dX6_whyNot_91 (by decide) ?_
        exact kr _ (1 : Int32) H locs ls dX6_whyNot_92 hq.symm hP hS
      have hfin := (if_neg c_1).symm.trans hfin
      have hlt : i < C := m_lt eC c_1 (by omega) (by omega)
      refine lv_iload_n hx hb dX6_whyNot_14 rfl (lv_at hl 1 rfl) ?_
      have J_2 : ∀ (y2_t0 : Int32) (H : Heap) (locs : List Loc) (ls : Array Slot), y2_t0 = (if x3 = 0 then (if (σ 36 (nI i).toNatClampNeg) = own then (if (σ 35 (nI i).toNatClampNeg) = (1 : Int32) then (if (σ 40 (nI i).toNatClampNeg) ≤ 0 then (0 : Int32) else (if (σ 40 (nI i).toNatClampNeg) = (σ 40 booking.toNatClampNeg) then (0 : Int32) else (1 : Int32))) else (0 : Int32)) else (0 : Int32)) else (1 : Int32)) → va_P D vwCl (mW cI cZ h σ) H → va_S A s.heap H locs → lv_has ls 5 [(4, .int (nI i)), (3, .int x3), (0, .ref h), (1, .int own), (2, .int booking)] → W p l e R s m args below meth c H locs cells slots Q (F0 m 71 ls [.int y2_t0]) := by
        intro y2_t0 H locs ls e_y2_t0 hP hS hl
        subst e_y2_t0
        refine lv_istore_n (lv' := [(3, .int (if x3 = 0 then (if (σ 36 (nI i).toNatClampNeg) = own then (if (σ 35 (nI i).toNatClampNeg) = (1 : Int32) then (if (σ 40 (nI i).toNatClampNeg) ≤ 0 then (0 : Int32) else (if (σ 40 (nI i).toNatClampNeg) = (σ 40 booking.toNatClampNeg) then (0 : Int32) else (1 : Int32))) else (0 : Int32)) else (0 : Int32)) else (1 : Int32))), (4, .int (nI i)), (0, .ref h), (1, .int own), (2, .int booking)]) hx hb dX6_whyNot_71 rfl hl (by decide) rfl (fun ls hl => ?_)
        refine lv_iinc (v := nI (i + 1)) (lv' := [(4, .int (nI (i + 1))), (3, .int (if x3 = 0 then (if (σ 36 (nI i).toNatClampNeg) = own then (if (σ 35 (nI i).toNatClampNeg) = (1 : Int32) then (if (σ 40 (nI i).toNatClampNeg) ≤ 0 then (0 : Int32) else (if (σ 40 (nI i).toNatClampNeg) = (σ 40 booking.toNatClampNeg) then (0 : Int32) else (1 : Int32))) else (0 : Int32)) else (0 : Int32)) else (1 : Int32))), (0, .ref h), (1, .int own), (2, .int booking)]) hx hb dX6_whyNot_72 hl (k := 1) rfl (by first | rfl | exact nI_1 _) (by decide) rfl (fun ls hl => ?_)
        refine lv_goto (tgt := 5) hx hb dX6_whyNot_75 (by decide) ?_
        exact ih (i + 1) (if x3 = 0 then (if (σ 36 (nI i).toNatClampNeg) = own then (if (σ 35 (nI i).toNatClampNeg) = (1 : Int32) then (if (σ 40 (nI i).toNatClampNeg) ≤ 0 then (0 : Int32) else (if (σ 40 (nI i).toNatClampNeg) = (σ 40 booking.toNatClampNeg) then (0 : Int32) else (1 : Int32))) else (0 : Int32)) else (0 : Int32)) else (1 : Int32)) H locs ls (by omega) (by omega) hfin hP hS (lv_sub hl [0, 1, 2, 3, 4] rfl)
      refine lv_if_ne (tgt := 66) hx hb dX6_whyNot_15 (by decide) (fun c_2 => ?_) (fun c_2 => ?_)
      · refine lv_iconst (v := 1) hx hb dX6_whyNot_66 (by decide) ?_
        refine lv_goto (tgt := 71) hx hb dX6_whyNot_67 (by decide) ?_
        exact J_2 (1 : Int32) H locs ls (if_neg c_2).symm hP hS (lv_sub hl [0, 1, 2, 3, 4] rfl)
      refine lv_aload_n hx hb dX6_whyNot_18 rfl (lv_at hl 2 rfl) ?_
      refine mg_on E hP (by decide +kernel) dX6_whyNot_19 ?_
      refine lv_iload hx hb dX6_whyNot_22 (lv_at hl 0 rfl) ?_
      refine ml_on E hP (vp_in_nI (n := i) (by omega) (by omega)) dX6_whyNot_24 ?_
      refine lv_iload_n hx hb dX6_whyNot_25 rfl (lv_at hl 3 rfl) ?_
      refine lv_icmp_ne (tgt := 70) hx hb dX6_whyNot_26 (by decide) (fun c_3 => ?_) (fun c_3 => ?_)
      · refine lv_iconst (v := 0) hx hb dX6_whyNot_70 (by decide) ?_
        exact J_2 (0 : Int32) H locs ls ((if_neg c_3).symm.trans (if_pos c_2).symm) hP hS (lv_sub hl [0, 1, 2, 3, 4] rfl)
      refine lv_aload_n hx hb dX6_whyNot_29 rfl (lv_at hl 2 rfl) ?_
      refine mg_how E hP (by decide +kernel) dX6_whyNot_30 ?_
      refine lv_iload hx hb dX6_whyNot_33 (lv_at hl 0 rfl) ?_
      refine ml_how E hP (vp_in_nI (n := i) (by omega) (by omega)) dX6_whyNot_35 ?_
      refine lv_iconst (v := 1) hx hb dX6_whyNot_36 (by decide) ?_
      refine lv_icmp_ne (tgt := 70) hx hb dX6_whyNot_37 (by decide) (fun c_4 => ?_) (fun c_4 => ?_)
      · refine lv_iconst (v := 0) hx hb dX6_whyNot_70 (by decide) ?_
        exact J_2 (0 : Int32) H locs ls ((if_neg c_4).symm.trans ((if_pos c_3).symm.trans (if_pos c_2).symm)) hP hS (lv_sub hl [0, 1, 2, 3, 4] rfl)
      refine lv_aload_n hx hb dX6_whyNot_40 rfl (lv_at hl 2 rfl) ?_
      refine mg_danger E hP (by decide +kernel) dX6_whyNot_41 ?_
      refine lv_iload hx hb dX6_whyNot_44 (lv_at hl 0 rfl) ?_
      refine ml_danger E hP (vp_in_nI (n := i) (by omega) (by omega)) dX6_whyNot_46 ?_
      refine lv_if_le (tgt := 70) hx hb dX6_whyNot_47 (by decide) (fun c_5 => ?_) (fun c_5 => ?_)
      · refine lv_iconst (v := 0) hx hb dX6_whyNot_70 (by decide) ?_
        exact J_2 (0 : Int32) H locs ls ((if_pos c_5).symm.trans ((if_pos c_4).symm.trans ((if_pos c_3).symm.trans (if_pos c_2).symm))) hP hS (lv_sub hl [0, 1, 2, 3, 4] rfl)
      refine lv_aload_n hx hb dX6_whyNot_50 rfl (lv_at hl 2 rfl) ?_
      refine mg_danger E hP (by decide +kernel) dX6_whyNot_51 ?_
      refine lv_iload hx hb dX6_whyNot_54 (lv_at hl 0 rfl) ?_
      refine ml_danger E hP (vp_in_nI (n := i) (by omega) (by omega)) dX6_whyNot_56 ?_
      refine lv_aload_n hx hb dX6_whyNot_57 rfl (lv_at hl 2 rfl) ?_
      refine mg_danger E hP (by decide +kernel) dX6_whyNot_58 ?_
      refine lv_iload_n hx hb dX6_whyNot_61 rfl (lv_at hl 4 rfl) ?_
      refine ml_danger E hP h_booking dX6_whyNot_62 ?_
      refine lv_icmp_eq (tgt := 70) hx hb dX6_whyNot_63 (by decide) (fun c_6 => ?_) (fun c_6 => ?_)
      · refine lv_iconst (v := 0) hx hb dX6_whyNot_70 (by decide) ?_
        exact J_2 (0 : Int32) H locs ls ((if_pos c_6).symm.trans ((if_neg c_5).symm.trans ((if_pos c_4).symm.trans ((if_pos c_3).symm.trans (if_pos c_2).symm)))) hP hS (lv_sub hl [0, 1, 2, 3, 4] rfl)
      refine lv_iconst (v := 1) hx hb dX6_whyNot_66 (by decide) ?_
      refine lv_goto (tgt := 71) hx hb dX6_whyNot_67 (by decide) ?_
      exact J_2 (1 : Int32) H locs ls ((if_neg c_6).symm.trans ((if_neg c_5).symm.trans ((if_pos c_4).symm.trans ((if_pos c_3).symm.trans (if_pos c_2).symm)))) hP hS (lv_sub hl [0, 1, 2, 3, 4] rfl)
  exact L_7 101 0 (0 : Int32) H locs ls (by omega) (Nat.zero_le _) rfl hP hS (lv_sub hl [0, 1, 2, 3, 4] rfl)
set_option maxHeartbeats 4000000 in
set_option maxRecDepth 100000 in
theorem c_whyNot (l : Launch) {D : va_G} {A : Nat → Prop} {cI cZ : ClassId} {h : Nat} (hA : ∀ i, i < 44 → A (h + i)) (σ : St) (own : Int32) (booking : Int32) (hI : MI σ) (h_own : vp_in own 60) (h_booking : vp_in booking 100) : Met l yX6_whyNot wsX6_whyNot ({ frames := 2, cells := 0, slots := 0, locals := 47 }) (va_Pc [.ref h, .int own, .int booking] (mU D cI cZ h σ)) (va_Qi (fun r (_ : Unit) => r = q_whyNot σ own booking) (fun _ t => mU D cI cZ h (σ) t) A) 0 0 A := by
  refine Met.ofW (cc := cX6_whyNot) (maxL := 5) (ret := (some .int)) (by decide) rfl ?_
  intro p e s m args below meth c s₁ B hml hv
  obtain ⟨rfl, hP, hK⟩ := hv
  have E : mE p c cX6_whyNot s m ([.ref h, .int own, .int booking] : List Value).toArray wsX6_whyNot D cI cZ := ⟨⟨B.exec, B.bytes⟩, atoms_spec (ws := wsX6_whyNot) B.pre, (by decide +kernel), findClass_of_methodNamed B.named, hK⟩
  have hr := B.returns
  have hlocks := B.notSynchronized
  have hl := lv_entry ([.ref h, .int own, .int booking]) (n := 5) (Nat.le_of_ble_eq_true rfl)
  rw [lg_entry_eq]
  generalize (lg_sl ([.ref h, .int own, .int booking]) ++ List.replicate (5 - (lg_sl ([.ref h, .int own, .int booking])).length) Slot.unset).toArray = ls at hl ⊢
  refine w_whyNot σ own booking hI h_own h_booking E hml hA ⟨Nat.le_of_ble_eq_true rfl, Nat.le_of_ble_eq_true rfl⟩ ⟨Nat.zero_le _, Nat.zero_le _⟩ hP va_S.rf hl (fun pc v H1 locs1 ls1 hd hv hP1 hS1 => ?_)
  exact W.iret (v := v) B.exec B.bytes hr (fun t ht hW => ⟨⟨v, (), rfl, hv, by rw [ht]; exact hP1, va_K.moved hW.alike hK⟩, hS1.F ht⟩) hS1.2.2 hd
