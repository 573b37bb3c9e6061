theorem ifn {P : Prop} {hd : Decidable P} {k W : Int32} (hk : ¬ k = 0) (c : (if P then k else W) = 0) : ¬ P ∧ W = 0 := by
  by_cases hp : P
  · rw [if_pos hp] at c; exact absurd c hk
  · rw [if_neg hp] at c; exact ⟨hp, c⟩
theorem pier_in {σ : St} {P : Int32} (hI : MI σ) (c : (q_refused σ (if P = 0 then (1 : Int32) else (if (σ 2 0) = (8 : Int32) then (2 : Int32) else (0 : Int32)))) = 0) : vp_in (σ 2 0) 8 := rng_in (by omega) hI.1.1 (ifn (by decide) (ifz (by decide) (rf0 c)).2).1
def k38t0_pier (σ : St) (depth : Int32) (range : Int32) (phase : Int32) (lit : Int32) : Int32 := if (q_in depth (0 : Int32) (500 : Int32)) = 0 then (0 : Int32) else (if (q_in range (0 : Int32) (200 : Int32)) = 0 then (0 : Int32) else (if (q_in phase (0 : Int32) (719 : Int32)) = 0 then (0 : Int32) else (1 : Int32)))
def q_pier (σ : St) (depth : Int32) (range : Int32) (phase : Int32) (lit : Int32) : Int32 := if (q_refused σ (if (k38t0_pier σ depth range phase lit) = 0 then (1 : Int32) else (if (σ 2 0) = (8 : Int32) then (2 : Int32) else (0 : Int32)))) = 0 then (((σ 2 0) + (1 : Int32)) - (1 : Int32)) else (0 : Int32)
def s_pier (σ : St) (depth : Int32) (range : Int32) (phase : Int32) (lit : Int32) : St := if (q_refused σ (if (k38t0_pier σ depth range phase lit) = 0 then (1 : Int32) else (if (σ 2 0) = (8 : Int32) then (2 : Int32) else (0 : Int32)))) = 0 then (st (st (st (st (st (s_refused σ (if (k38t0_pier σ depth range phase lit) = 0 then (1 : Int32) else (if (σ 2 0) = (8 : Int32) then (2 : Int32) else (0 : Int32)))) 3 (σ 2 0).toNatClampNeg depth) 4 (σ 2 0).toNatClampNeg range) 5 (σ 2 0).toNatClampNeg phase) 6 (σ 2 0).toNatClampNeg (vp_nar .boolean lit)) 2 0 ((σ 2 0) + (1 : Int32))) else (s_refused σ (if (k38t0_pier σ depth range phase lit) = 0 then (1 : Int32) else (if (σ 2 0) = (8 : Int32) then (2 : Int32) else (0 : Int32))))
set_option maxHeartbeats 1000000 in
set_option maxRecDepth 100000 in
theorem w_pier {p : Program} {l : Launch} {e : Env} {R : Room} {s : State} {m : MethodId} {args : Array Value} {below : List Frame} {meth : Method} {c : Code} {H : Heap} {locs : List Loc} {cells slots : Nat} {Q : State → Prop} {D : va_G} {A : Nat → Prop} {cI cZ : ClassId} {h : Nat} {ls : Array Slot} (σ : St) (depth : Int32) (range : Int32) (phase : Int32) (lit : Int32) (hI : MI σ) (E : mE p c cX6_pier s m args wsX6_pier D cI cZ) (hml : c.maxLocals = 6) (hA : ∀ i, i < 44 → A (h + i)) (hR : 1 ≤ R.frames ∧ 22 ≤ R.locals) (hf : cells ≤ R.cells ∧ slots ≤ R.slots) (hP : va_P D vwCl (mW cI cZ h σ) H) (hS : va_S A s.heap H locs) (hl : lv_has ls 6 [(0, .ref h), (1, .int depth), (2, .int range), (3, .int phase), (4, .int lit)]) (kr : ∀ (pc : Nat) (rv : Int32) (H1 : Heap) (locs1 : List Loc) (ls1 : Array Slot), decode cX6_pier pc = .ok (.ireturn, 1) → rv = q_pier σ depth range phase lit → va_P D vwCl (mW cI cZ h (s_pier σ depth range phase lit)) H1 → va_S A s.heap H1 locs1 → W p l e R s m args below meth c H1 locs1 cells slots Q (F0 m pc ls1 [.int rv])) : W p l e R s m args below meth c H locs cells slots Q (F0 m 0 ls []) := by
  have hx := E.1.1
  have hb := E.1.2
  have hts := E.2.1
  have hq : q_pier σ depth range phase lit = if (q_refused σ (if (k38t0_pier σ depth range phase lit) = 0 then (1 : Int32) else (if (σ 2 0) = (8 : Int32) then (2 : Int32) else (0 : Int32)))) = 0 then (((σ 2 0) + (1 : Int32)) - (1 : Int32)) else (0 : Int32) := rfl
  have hs : s_pier σ depth range phase lit = if (q_refused σ (if (k38t0_pier σ depth range phase lit) = 0 then (1 : Int32) else (if (σ 2 0) = (8 : Int32) then (2 : Int32) else (0 : Int32)))) = 0 then (st (st (st (st (st (s_refused σ (if (k38t0_pier σ depth range phase lit) = 0 then (1 : Int32) else (if (σ 2 0) = (8 : Int32) then (2 : Int32) else (0 : Int32)))) 3 (σ 2 0).toNatClampNeg depth) 4 (σ 2 0).toNatClampNeg range) 5 (σ 2 0).toNatClampNeg phase) 6 (σ 2 0).toNatClampNeg (vp_nar .boolean lit)) 2 0 ((σ 2 0) + (1 : Int32))) else (s_refused σ (if (k38t0_pier σ depth range phase lit) = 0 then (1 : Int32) else (if (σ 2 0) = (8 : Int32) then (2 : Int32) else (0 : Int32)))) := rfl
  refine lv_iload_n hx hb dX6_pier_0 rfl (lv_at hl 1 rfl) ?_
  refine lv_iconst (v := 0) hx hb dX6_pier_1 (by decide) ?_
  refine lv_sipush (v := 500) hx hb dX6_pier_2 (by decide) ?_
  refine mcS_i E hml hP hS (c_in l hA σ depth (0 : Int32) (500 : Int32)) (va_cwS 3 hts gX6_pier_X6_in rfl rfl rfl (by decide +kernel) ⟨Nat.le_trans (Nat.le_of_ble_eq_true rfl) hR.1, Nat.le_trans (Nat.le_of_ble_eq_true rfl) hR.2⟩) rfl hl.1 rfl (Nat.le_of_ble_eq_true rfl) dX6_pier_5 hf (fun H locs hP hS => ?_)
  have J_1 : ∀ (y1_t0 : Int32) (H : Heap) (locs : List Loc) (ls : Array Slot), y1_t0 = (k38t0_pier σ depth range phase lit) → va_P D vwCl (mW cI cZ h σ) H → va_S A s.heap H locs → lv_has ls 6 [(0, .ref h), (1, .int depth), (2, .int range), (3, .int phase), (4, .int lit)] → W p l e R s m args below meth c H locs cells slots Q (F0 m 38 ls [.int y1_t0]) := by
    intro y1_t0 H locs ls e_y1_t0 hP hS hl
    subst e_y1_t0
    refine lv_istore (lv' := [(5, .int (k38t0_pier σ depth range phase lit)), (0, .ref h), (1, .int depth), (2, .int range), (3, .int phase), (4, .int lit)]) hx hb dX6_pier_38 hl (by decide) rfl (fun ls hl => ?_)
    refine lv_aload_n hx hb dX6_pier_40 rfl (lv_at hl 1 rfl) ?_
    refine lv_iload hx hb dX6_pier_41 (lv_at hl 0 rfl) ?_
    have J_4 : ∀ (y4_t0 : Int32) (H : Heap) (locs : List Loc) (ls : Array Slot), y4_t0 = (if (k38t0_pier σ depth range phase lit) = 0 then (1 : Int32) else (if (σ 2 0) = (8 : Int32) then (2 : Int32) else (0 : Int32))) → va_P D vwCl (mW cI cZ h σ) H → va_S A s.heap H locs → lv_has ls 6 [(5, .int (k38t0_pier σ depth range phase lit)), (0, .ref h), (1, .int depth), (2, .int range), (3, .int phase), (4, .int lit)] → W p l e R s m args below meth c H locs cells slots Q (F0 m 64 ls [.int y4_t0, .ref h]) := by
      intro y4_t0 H locs ls e_y4_t0 hP hS hl
      subst e_y4_t0
      refine mcV_i E hml hP hS (c_refused l hA σ (if (k38t0_pier σ depth range phase lit) = 0 then (1 : Int32) else (if (σ 2 0) = (8 : Int32) then (2 : Int32) else (0 : Int32)))) (cwV 1 hts gX6_pier_X6_refused rfl rfl rfl (by decide +kernel) ⟨Nat.le_trans (Nat.le_of_ble_eq_true rfl) hR.1, Nat.le_trans (Nat.le_of_ble_eq_true rfl) hR.2⟩) rfl hl.1 rfl (Nat.le_of_ble_eq_true rfl) dX6_pier_64 hf (fun H locs hP hS => ?_)
      refine lv_if_eq (tgt := 72) hx hb dX6_pier_67 (by decide) (fun c_6 => ?_) (fun c_6 => ?_)
      · have hq := hq.trans (if_pos c_6)
        have hs := hs.trans (if_pos c_6)
        have h_cnt := pier_in hI c_6
        refine lv_aload_n hx hb dX6_pier_72 rfl (lv_at hl 1 rfl) ?_
        refine mg_depth E hP (by decide +kernel) dX6_pier_73 ?_
        refine lv_aload_n hx hb dX6_pier_76 rfl (lv_at hl 1 rfl) ?_
        refine mgv_piers E hP (v := σ 2 0) rfl (by decide +kernel) dX6_pier_77 ?_
        refine lv_iload_n hx hb dX6_pier_80 rfl (lv_at hl 2 rfl) ?_
        refine ms_depth E hP hA hS h_cnt dX6_pier_81 (fun H locs hP hS => ?_)
        refine lv_aload_n hx hb dX6_pier_82 rfl (lv_at hl 1 rfl) ?_
        refine mg_range E hP (by decide +kernel) dX6_pier_83 ?_
        refine lv_aload_n hx hb dX6_pier_86 rfl (lv_at hl 1 rfl) ?_
        refine mgv_piers E hP (v := σ 2 0) rfl (by decide +kernel) dX6_pier_87 ?_
        refine lv_iload_n hx hb dX6_pier_90 rfl (lv_at hl 3 rfl) ?_
        refine ms_range E hP hA hS h_cnt dX6_pier_91 (fun H locs hP hS => ?_)
        refine lv_aload_n hx hb dX6_pier_92 rfl (lv_at hl 1 rfl) ?_
        refine mg_phase E hP (by decide +kernel) dX6_pier_93 ?_
        refine lv_aload_n hx hb dX6_pier_96 rfl (lv_at hl 1 rfl) ?_
        refine mgv_piers E hP (v := σ 2 0) rfl (by decide +kernel) dX6_pier_97 ?_
        refine lv_iload_n hx hb dX6_pier_100 rfl (lv_at hl 4 rfl) ?_
        refine ms_phase E hP hA hS h_cnt dX6_pier_101 (fun H locs hP hS => ?_)
        refine lv_aload_n hx hb dX6_pier_102 rfl (lv_at hl 1 rfl) ?_
        refine mg_isLit E hP (by decide +kernel) dX6_pier_103 ?_
        refine lv_aload_n hx hb dX6_pier_106 rfl (lv_at hl 1 rfl) ?_
        refine mgv_piers E hP (v := σ 2 0) rfl (by decide +kernel) dX6_pier_107 ?_
        refine lv_iload hx hb dX6_pier_110 (lv_at hl 5 rfl) ?_
        refine ms_isLit E hP hA hS h_cnt dX6_pier_112 (fun H locs hP hS => ?_)
        refine lv_aload_n hx hb dX6_pier_113 rfl (lv_at hl 1 rfl) ?_
        refine lv_dup hx hb dX6_pier_114 rfl ?_
        refine mgv_piers E hP (v := σ 2 0) rfl (by decide +kernel) dX6_pier_115 ?_
        refine lv_iconst (v := 1) hx hb dX6_pier_118 (by decide) ?_
        refine lv_iadd hx hb dX6_pier_119 ?_
        refine mp_piers E hP hA hS (by decide +kernel) dX6_pier_120 (fun H locs hP hS => ?_)
        refine lv_aload_n hx hb dX6_pier_123 rfl (lv_at hl 1 rfl) ?_
        refine mgv_piers E hP (v := ((σ 2 0) + (1 : Int32))) rfl (by decide +kernel) dX6_pier_124 ?_
        refine lv_iconst (v := 1) hx hb dX6_pier_127 (by decide) ?_
        refine lv_isub hx hb dX6_pier_128 ?_
        exact kr _ (((σ 2 0) + (1 : Int32)) - (1 : Int32)) H locs ls dX6_pier_129 hq.symm (by rw [hs]; exact hP) hS
      have hq := hq.trans (if_neg c_6)
      have hs := hs.trans (if_neg c_6)
      refine lv_iconst (v := 0) hx hb dX6_pier_70 (by decide) ?_
      exact kr _ (0 : Int32) H locs ls dX6_pier_71 hq.symm (by rw [hs]; exact hP) hS
    refine lv_if_ne (tgt := 50) hx hb dX6_pier_43 (by decide) (fun c_4 => ?_) (fun c_4 => ?_)
    · refine lv_aload_n hx hb dX6_pier_50 rfl (lv_at hl 1 rfl) ?_
      refine mg_piers E hP (by decide +kernel) dX6_pier_51 ?_
      refine lv_bipush (v := 8) hx hb dX6_pier_54 (by decide) ?_
      refine lv_icmp_ne (tgt := 63) hx hb dX6_pier_56 (by decide) (fun c_5 => ?_) (fun c_5 => ?_)
      · refine lv_iconst (v := 0) hx hb dX6_pier_63 (by decide) ?_
        exact J_4 (0 : Int32) H locs ls ((if_neg c_5).symm.trans (if_neg c_4).symm) hP hS (lv_sub hl [0, 1, 2, 3, 4, 5] rfl)
      refine lv_iconst (v := 2) hx hb dX6_pier_59 (by decide) ?_
      refine lv_goto (tgt := 64) hx hb dX6_pier_60 (by decide) ?_
      exact J_4 (2 : Int32) H locs ls ((if_pos c_5).symm.trans (if_neg c_4).symm) hP hS (lv_sub hl [0, 1, 2, 3, 4, 5] rfl)
    refine lv_iconst (v := 1) hx hb dX6_pier_46 (by decide) ?_
    refine lv_goto (tgt := 64) hx hb dX6_pier_47 (by decide) ?_
    exact J_4 (1 : Int32) H locs ls (if_pos c_4).symm hP hS (lv_sub hl [0, 1, 2, 3, 4, 5] rfl)
  refine lv_if_eq (tgt := 37) hx hb dX6_pier_8 (by decide) (fun c_1 => ?_) (fun c_1 => ?_)
  · refine lv_iconst (v := 0) hx hb dX6_pier_37 (by decide) ?_
    exact J_1 (0 : Int32) H locs ls (if_pos c_1).symm hP hS (lv_sub hl [0, 1, 2, 3, 4] rfl)
  refine lv_iload_n hx hb dX6_pier_11 rfl (lv_at hl 2 rfl) ?_
  refine lv_iconst (v := 0) hx hb dX6_pier_12 (by decide) ?_
  refine lv_sipush (v := 200) hx hb dX6_pier_13 (by decide) ?_
  refine mcS_i E hml hP hS (c_in l hA σ range (0 : Int32) (200 : Int32)) (va_cwS 3 hts gX6_pier_X6_in rfl rfl rfl (by decide +kernel) ⟨Nat.le_trans (Nat.le_of_ble_eq_true rfl) hR.1, Nat.le_trans (Nat.le_of_ble_eq_true rfl) hR.2⟩) rfl hl.1 rfl (Nat.le_of_ble_eq_true rfl) dX6_pier_16 hf (fun H locs hP hS => ?_)
  refine lv_if_eq (tgt := 37) hx hb dX6_pier_19 (by decide) (fun c_2 => ?_) (fun c_2 => ?_)
  · refine lv_iconst (v := 0) hx hb dX6_pier_37 (by decide) ?_
    exact J_1 (0 : Int32) H locs ls ((if_pos c_2).symm.trans (if_neg c_1).symm) hP hS (lv_sub hl [0, 1, 2, 3, 4] rfl)
  refine lv_iload_n hx hb dX6_pier_22 rfl (lv_at hl 3 rfl) ?_
  refine lv_iconst (v := 0) hx hb dX6_pier_23 (by decide) ?_
  refine lv_sipush (v := 719) hx hb dX6_pier_24 (by decide) ?_
  refine mcS_i E hml hP hS (c_in l hA σ phase (0 : Int32) (719 : Int32)) (va_cwS 3 hts gX6_pier_X6_in rfl rfl rfl (by decide +kernel) ⟨Nat.le_trans (Nat.le_of_ble_eq_true rfl) hR.1, Nat.le_trans (Nat.le_of_ble_eq_true rfl) hR.2⟩) rfl hl.1 rfl (Nat.le_of_ble_eq_true rfl) dX6_pier_27 hf (fun H locs hP hS => ?_)
  refine lv_if_eq (tgt := 37) hx hb dX6_pier_30 (by decide) (fun c_3 => ?_) (fun c_3 => ?_)
  · refine lv_iconst (v := 0) hx hb dX6_pier_37 (by decide) ?_
    exact J_1 (0 : Int32) H locs ls ((if_pos c_3).symm.trans ((if_neg c_2).symm.trans (if_neg c_1).symm)) hP hS (lv_sub hl [0, 1, 2, 3, 4] rfl)
  refine lv_iconst (v := 1) hx hb dX6_pier_33 (by decide) ?_
  refine lv_goto (tgt := 38) hx hb dX6_pier_34 (by decide) ?_
  exact J_1 (1 : Int32) H locs ls ((if_neg c_3).symm.trans ((if_neg c_2).symm.trans (if_neg c_1).symm)) hP hS (lv_sub hl [0, 1, 2, 3, 4] rfl)
set_option maxHeartbeats 1000000 in
set_option maxRecDepth 100000 in
theorem c_pier (l : Launch) {D : va_G} {A : Nat → Prop} {cI cZ : ClassId} {h : Nat} (hA : ∀ i, i < 44 → A (h + i)) (σ : St) (depth : Int32) (range : Int32) (phase : Int32) (lit : Int32) (hI : MI σ) : Met l yX6_pier wsX6_pier ({ frames := 1, cells := 0, slots := 0, locals := 22 }) (va_Pc [.ref h, .int depth, .int range, .int phase, .int lit] (mU D cI cZ h σ)) (va_Qi (fun r (_ : Unit) => r = q_pier σ depth range phase lit) (fun _ t => mU D cI cZ h (s_pier σ depth range phase lit) t) A) 0 0 A := by
  refine Met.ofW (cc := cX6_pier) (maxL := 6) (ret := (some .int)) (by decide) rfl ?_
  intro p e s m args below meth c s₁ B hml hv
  obtain ⟨rfl, hP, hK⟩ := hv
  have E : mE p c cX6_pier s m ([.ref h, .int depth, .int range, .int phase, .int lit] : List Value).toArray wsX6_pier D cI cZ := ⟨⟨B.exec, B.bytes⟩, atoms_spec (ws := wsX6_pier) B.pre, (by decide +kernel), findClass_of_methodNamed B.named, hK⟩
  have hr := B.returns
  have hlocks := B.notSynchronized
  have hl := lv_entry ([.ref h, .int depth, .int range, .int phase, .int lit]) (n := 6) (Nat.le_of_ble_eq_true rfl)
  rw [lg_entry_eq]
  generalize (lg_sl ([.ref h, .int depth, .int range, .int phase, .int lit]) ++ List.replicate (6 - (lg_sl ([.ref h, .int depth, .int range, .int phase, .int lit])).length) Slot.unset).toArray = ls at hl ⊢
  refine w_pier σ depth range phase lit hI E hml hA ⟨Nat.le_of_ble_eq_true rfl, Nat.le_of_ble_eq_true rfl⟩ ⟨Nat.zero_le _, Nat.zero_le _⟩ hP va_S.rf hl (fun pc v H1 locs1 ls1 hd hv hP1 hS1 => ?_)
  exact W.iret (v := v) B.exec B.bytes hr (fun t ht hW => ⟨⟨v, (), rfl, hv, by rw [ht]; exact hP1, va_K.moved hW.alike hK⟩, hS1.F ht⟩) hS1.2.2 hd
def k73t0_boat (σ : St) (draught : Int32) (length : Int32) (weight : Int32) (trim : Int32) (swell : Int32) (piers : Int32) (home : Int32) : Int32 := if (q_in draught (1 : Int32) (500 : Int32)) = 0 then (0 : Int32) else (if (q_in length (1 : Int32) (200 : Int32)) = 0 then (0 : Int32) else (if (q_in weight (1 : Int32) (10000 : Int32)) = 0 then (0 : Int32) else (if (q_in trim (0 : Int32) (10000 : Int32)) = 0 then (0 : Int32) else (if (q_in swell (0 : Int32) (9 : Int32)) = 0 then (0 : Int32) else (if (q_in piers (0 : Int32) (255 : Int32)) = 0 then (0 : Int32) else (1 : Int32))))))
def k112t0_boat (σ : St) (draught : Int32) (length : Int32) (weight : Int32) (trim : Int32) (swell : Int32) (piers : Int32) (home : Int32) : Int32 := if (q_isPier σ home) = 0 then (1 : Int32) else (if (k73t0_boat σ draught length weight trim swell piers home) = 0 then (2 : Int32) else (if (σ 12 0) = (6 : Int32) then (3 : Int32) else (0 : Int32)))
def q_boat (σ : St) (draught : Int32) (length : Int32) (weight : Int32) (trim : Int32) (swell : Int32) (piers : Int32) (home : Int32) : Int32 := if (q_refused σ (k112t0_boat σ draught length weight trim swell piers home)) = 0 then (((σ 12 0) + (1 : Int32)) - (1 : Int32)) else (0 : Int32)
def s_boat (σ : St) (draught : Int32) (length : Int32) (weight : Int32) (trim : Int32) (swell : Int32) (piers : Int32) (home : Int32) : St := if (q_refused σ (k112t0_boat σ draught length weight trim swell piers home)) = 0 then (st (st (st (st (st (st (st (st (s_refused σ (k112t0_boat σ draught length weight trim swell piers home)) 13 (σ 12 0).toNatClampNeg draught) 14 (σ 12 0).toNatClampNeg length) 15 (σ 12 0).toNatClampNeg weight) 16 (σ 12 0).toNatClampNeg trim) 17 (σ 12 0).toNatClampNeg swell) 18 (σ 12 0).toNatClampNeg piers) 19 (σ 12 0).toNatClampNeg home) 12 0 ((σ 12 0) + (1 : Int32))) else (s_refused σ (k112t0_boat σ draught length weight trim swell piers home))
theorem boat_in {σ : St} {a b c d e f g : Int32} (hI : MI σ) (z : (q_refused σ (k112t0_boat σ a b c d e f g)) = 0) : vp_in (σ 12 0) 6 := rng_in (by omega) hI.1.2.1 (ifn (by decide) (ifz (by decide) (ifz (by decide) (rf0 z)).2).2).1
set_option maxHeartbeats 1000000 in
set_option maxRecDepth 100000 in
theorem w_boat {p : Program} {l : Launch} {e : Env} {R : Room} {s : State} {m : MethodId} {args : Array Value} {below : List Frame} {meth : Method} {c : Code} {H : Heap} {locs : List Loc} {cells slots : Nat} {Q : State → Prop} {D : va_G} {A : Nat → Prop} {cI cZ : ClassId} {h : Nat} {ls : Array Slot} (σ : St) (draught : Int32) (length : Int32) (weight : Int32) (trim : Int32) (swell : Int32) (piers : Int32) (home : Int32) (hI : MI σ) (E : mE p c cX6_boat s m args wsX6_boat D cI cZ) (hml : c.maxLocals = 9) (hA : ∀ i, i < 44 → A (h + i)) (hR : 2 ≤ R.frames ∧ 43 ≤ R.locals) (hf : cells ≤ R.cells ∧ slots ≤ R.slots) (hP : va_P D vwCl (mW cI cZ h σ) H) (hS : va_S A s.heap H locs) (hl : lv_has ls 9 [(0, .ref h), (1, .int draught), (2, .int length), (3, .int weight), (4, .int trim), (5, .int swell), (6, .int piers), (7, .int home)]) (kr : ∀ (pc : Nat) (rv : Int32) (H1 : Heap) (locs1 : List Loc) (ls1 : Array Slot), decode cX6_boat pc = .ok (.ireturn, 1) → rv = q_boat σ draught length weight trim swell piers home → va_P D vwCl (mW cI cZ h (s_boat σ draught length weight trim swell piers home)) H1 → va_S A s.heap H1 locs1 → W p l e R s m args below meth c H1 locs1 cells slots Q (F0 m pc ls1 [.int rv])) : W p l e R s m args below meth c H locs cells slots Q (F0 m 0 ls []) := by
  have hx := E.1.1
  have hb := E.1.2
  have hts := E.2.1
  have hq : q_boat σ draught length weight trim swell piers home = if (q_refused σ (k112t0_boat σ draught length weight trim swell piers home)) = 0 then (((σ 12 0) + (1 : Int32)) - (1 : Int32)) else (0 : Int32) := rfl
  have hs : s_boat σ draught length weight trim swell piers home = if (q_refused σ (k112t0_boat σ draught length weight trim swell piers home)) = 0 then (st (st (st (st (st (st (st (st (s_refused σ (k112t0_boat σ draught length weight trim swell piers home)) 13 (σ 12 0).toNatClampNeg draught) 14 (σ 12 0).toNatClampNeg length) 15 (σ 12 0).toNatClampNeg weight) 16 (σ 12 0).toNatClampNeg trim) 17 (σ 12 0).toNatClampNeg swell) 18 (σ 12 0).toNatClampNeg piers) 19 (σ 12 0).toNatClampNeg home) 12 0 ((σ 12 0) + (1 : Int32))) else (s_refused σ (k112t0_boat σ draught length weight trim swell piers home)) := rfl
  refine lv_iload_n hx hb dX6_boat_0 rfl (lv_at hl 1 rfl) ?_
  refine lv_iconst (v := 1) hx hb dX6_boat_1 (by decide) ?_
  refine lv_sipush (v := 500) hx hb dX6_boat_2 (by decide) ?_
  refine mcS_i E hml hP hS (c_in l hA σ draught (1 : Int32) (500 : Int32)) (va_cwS 3 hts gX6_boat_X6_in rfl rfl rfl (by decide +kernel) ⟨Nat.le_trans (Nat.le_of_ble_eq_true rfl) hR.1, Nat.le_trans (Nat.le_of_ble_eq_true rfl) hR.2⟩) rfl hl.1 rfl (Nat.le_of_ble_eq_true rfl) dX6_boat_5 hf (fun H locs hP hS => ?_)
  have J_1 : ∀ (y1_t0 : Int32) (H : Heap) (locs : List Loc) (ls : Array Slot), y1_t0 = (k73t0_boat σ draught length weight trim swell piers home) → va_P D vwCl (mW cI cZ h σ) H → va_S A s.heap H locs → lv_has ls 9 [(0, .ref h), (1, .int draught), (2, .int length), (3, .int weight), (4, .int trim), (5, .int swell), (6, .int piers), (7, .int home)] → W p l e R s m args below meth c H locs cells slots Q (F0 m 73 ls [.int y1_t0]) := by
    intro y1_t0 H locs ls e_y1_t0 hP hS hl
    subst e_y1_t0
    refine lv_istore (lv' := [(8, .int (k73t0_boat σ draught length weight trim swell piers home)), (0, .ref h), (1, .int draught), (2, .int length), (3, .int weight), (4, .int trim), (5, .int swell), (6, .int piers), (7, .int home)]) hx hb dX6_boat_73 hl (by decide) rfl (fun ls hl => ?_)
    refine lv_aload_n hx hb dX6_boat_75 rfl (lv_at hl 1 rfl) ?_
    refine lv_aload_n hx hb dX6_boat_76 rfl (lv_at hl 1 rfl) ?_
    refine lv_iload hx hb dX6_boat_77 (lv_at hl 8 rfl) ?_
    refine mcV_i E hml hP hS (c_isPier l hA σ home) (cwV 1 hts gX6_boat_X6_isPier rfl rfl rfl (by decide +kernel) ⟨Nat.le_trans (Nat.le_of_ble_eq_true rfl) hR.1, Nat.le_trans (Nat.le_of_ble_eq_true rfl) hR.2⟩) rfl hl.1 rfl (Nat.le_of_ble_eq_true rfl) dX6_boat_79 hf (fun H locs hP hS => ?_)
    have J_7 : ∀ (y7_t0 : Int32) (H : Heap) (locs : List Loc) (ls : Array Slot), y7_t0 = (k112t0_boat σ draught length weight trim swell piers home) → va_P D vwCl (mW cI cZ h σ) H → va_S A s.heap H locs → lv_has ls 9 [(8, .int (k73t0_boat σ draught length weight trim swell piers home)), (0, .ref h), (1, .int draught), (2, .int length), (3, .int weight), (4, .int trim), (5, .int swell), (6, .int piers), (7, .int home)] → W p l e R s m args below meth c H locs cells slots Q (F0 m 112 ls [.int y7_t0, .ref h]) := by
      intro y7_t0 H locs ls e_y7_t0 hP hS hl
      subst e_y7_t0
      refine mcV_i E hml hP hS (c_refused l hA σ (k112t0_boat σ draught length weight trim swell piers home)) (cwV 1 hts gX6_boat_X6_refused rfl rfl rfl (by decide +kernel) ⟨Nat.le_trans (Nat.le_of_ble_eq_true rfl) hR.1, Nat.le_trans (Nat.le_of_ble_eq_true rfl) hR.2⟩) rfl hl.1 rfl (Nat.le_of_ble_eq_true rfl) dX6_boat_112 hf (fun H locs hP hS => ?_)
      refine lv_if_eq (tgt := 120) hx hb dX6_boat_115 (by decide) (fun c_10 => ?_) (fun c_10 => ?_)
      · have hq := hq.trans (if_pos c_10)
        have hs := hs.trans (if_pos c_10)
        have h_cnt := boat_in hI c_10
        refine lv_aload_n hx hb dX6_boat_120 rfl (lv_at hl 1 rfl) ?_
        refine mg_draught E hP (by decide +kernel) dX6_boat_121 ?_
        refine lv_aload_n hx hb dX6_boat_124 rfl (lv_at hl 1 rfl) ?_
        refine mgv_boats E hP (v := σ 12 0) rfl (by decide +kernel) dX6_boat_125 ?_
        refine lv_iload_n hx hb dX6_boat_128 rfl (lv_at hl 2 rfl) ?_
        refine ms_draught E hP hA hS h_cnt dX6_boat_129 (fun H locs hP hS => ?_)
        refine lv_aload_n hx hb dX6_boat_130 rfl (lv_at hl 1 rfl) ?_
        refine mg_lane E hP (by decide +kernel) dX6_boat_131 ?_
        refine lv_aload_n hx hb dX6_boat_134 rfl (lv_at hl 1 rfl) ?_
        refine mgv_boats E hP (v := σ 12 0) rfl (by decide +kernel) dX6_boat_135 ?_
        refine lv_iload_n hx hb dX6_boat_138 rfl (lv_at hl 3 rfl) ?_
        refine ms_lane E hP hA hS h_cnt dX6_boat_139 (fun H locs hP hS => ?_)
        refine lv_aload_n hx hb dX6_boat_140 rfl (lv_at hl 1 rfl) ?_
        refine mg_bears E hP (by decide +kernel) dX6_boat_141 ?_
        refine lv_aload_n hx hb dX6_boat_144 rfl (lv_at hl 1 rfl) ?_
        refine mgv_boats E hP (v := σ 12 0) rfl (by decide +kernel) dX6_boat_145 ?_
        refine lv_iload_n hx hb dX6_boat_148 rfl (lv_at hl 4 rfl) ?_
        refine ms_bears E hP hA hS h_cnt dX6_boat_149 (fun H locs hP hS => ?_)
        refine lv_aload_n hx hb dX6_boat_150 rfl (lv_at hl 1 rfl) ?_
        refine mg_trim E hP (by decide +kernel) dX6_boat_151 ?_
        refine lv_aload_n hx hb dX6_boat_154 rfl (lv_at hl 1 rfl) ?_
        refine mgv_boats E hP (v := σ 12 0) rfl (by decide +kernel) dX6_boat_155 ?_
        refine lv_iload hx hb dX6_boat_158 (lv_at hl 5 rfl) ?_
        refine ms_trim E hP hA hS h_cnt dX6_boat_160 (fun H locs hP hS => ?_)
        refine lv_aload_n hx hb dX6_boat_161 rfl (lv_at hl 1 rfl) ?_
        refine mg_bound E hP (by decide +kernel) dX6_boat_162 ?_
        refine lv_aload_n hx hb dX6_boat_165 rfl (lv_at hl 1 rfl) ?_
        refine mgv_boats E hP (v := σ 12 0) rfl (by decide +kernel) dX6_boat_166 ?_
        refine lv_iload hx hb dX6_boat_169 (lv_at hl 6 rfl) ?_
        refine ms_bound E hP hA hS h_cnt dX6_boat_171 (fun H locs hP hS => ?_)
        refine lv_aload_n hx hb dX6_boat_172 rfl (lv_at hl 1 rfl) ?_
        refine mg_ramp E hP (by decide +kernel) dX6_boat_173 ?_
        refine lv_aload_n hx hb dX6_boat_176 rfl (lv_at hl 1 rfl) ?_
        refine mgv_boats E hP (v := σ 12 0) rfl (by decide +kernel) dX6_boat_177 ?_
        refine lv_iload hx hb dX6_boat_180 (lv_at hl 7 rfl) ?_
        refine ms_ramp E hP hA hS h_cnt dX6_boat_182 (fun H locs hP hS => ?_)
        refine lv_aload_n hx hb dX6_boat_183 rfl (lv_at hl 1 rfl) ?_
        refine mg_lies E hP (by decide +kernel) dX6_boat_184 ?_
        refine lv_aload_n hx hb dX6_boat_187 rfl (lv_at hl 1 rfl) ?_
        refine mgv_boats E hP (v := σ 12 0) rfl (by decide +kernel) dX6_boat_188 ?_
        refine lv_iload hx hb dX6_boat_191 (lv_at hl 8 rfl) ?_
        refine ms_lies E hP hA hS h_cnt dX6_boat_193 (fun H locs hP hS => ?_)
        refine lv_aload_n hx hb dX6_boat_194 rfl (lv_at hl 1 rfl) ?_
        refine lv_dup hx hb dX6_boat_195 rfl ?_
        refine mgv_boats E hP (v := σ 12 0) rfl (by decide +kernel) dX6_boat_196 ?_
        refine lv_iconst (v := 1) hx hb dX6_boat_199 (by decide) ?_
        refine lv_iadd hx hb dX6_boat_200 ?_
        refine mp_boats E hP hA hS (by decide +kernel) dX6_boat_201 (fun H locs hP hS => ?_)
        refine lv_aload_n hx hb dX6_boat_204 rfl (lv_at hl 1 rfl) ?_
        refine mgv_boats E hP (v := ((σ 12 0) + (1 : Int32))) rfl (by decide +kernel) dX6_boat_205 ?_
        refine lv_iconst (v := 1) hx hb dX6_boat_208 (by decide) ?_
        refine lv_isub hx hb dX6_boat_209 ?_
        exact kr _ (((σ 12 0) + (1 : Int32)) - (1 : Int32)) H locs ls dX6_boat_210 hq.symm (by rw [hs]; exact hP) hS
      have hq := hq.trans (if_neg c_10)
      have hs := hs.trans (if_neg c_10)
      refine lv_iconst (v := 0) hx hb dX6_boat_118 (by decide) ?_
      exact kr _ (0 : Int32) H locs ls dX6_boat_119 hq.symm (by rw [hs]; exact hP) hS
    refine lv_if_ne (tgt := 89) hx hb dX6_boat_82 (by decide) (fun c_7 => ?_) (fun c_7 => ?_)
    · refine lv_iload hx hb dX6_boat_89 (lv_at hl 0 rfl) ?_
      refine lv_if_ne (tgt := 98) hx hb dX6_boat_91 (by decide) (fun c_8 => ?_) (fun c_8 => ?_)
      · refine lv_aload_n hx hb dX6_boat_98 rfl (lv_at hl 1 rfl) ?_
        refine mg_boats E hP (by decide +kernel) dX6_boat_99 ?_
        refine lv_bipush (v := 6) hx hb dX6_boat_102 (by decide) ?_
        refine lv_icmp_ne (tgt := 111) hx hb dX6_boat_104 (by decide) (fun c_9 => ?_) (fun c_9 => ?_)
        · refine lv_iconst (v := 0) hx hb dX6_boat_111 (by decide) ?_
          exact J_7 (0 : Int32) H locs ls ((if_neg c_9).symm.trans ((if_neg c_8).symm.trans (if_neg c_7).symm)) hP hS (lv_sub hl [0, 1, 2, 3, 4, 5, 6, 7, 8] rfl)
        refine lv_iconst (v := 3) hx hb dX6_boat_107 (by decide) ?_
        refine lv_goto (tgt := 112) hx hb dX6_boat_108 (by decide) ?_
        exact J_7 (3 : Int32) H locs ls ((if_pos c_9).symm.trans ((if_neg c_8).symm.trans (if_neg c_7).symm)) hP hS (lv_sub hl [0, 1, 2, 3, 4, 5, 6, 7, 8] rfl)
      refine lv_iconst (v := 2) hx hb dX6_boat_94 (by decide) ?_
      refine lv_goto (tgt := 112) hx hb dX6_boat_95 (by decide) ?_
      exact J_7 (2 : Int32) H locs ls ((if_pos c_8).symm.trans (if_neg c_7).symm) hP hS (lv_sub hl [0, 1, 2, 3, 4, 5, 6, 7, 8] rfl)
    refine lv_iconst (v := 1) hx hb dX6_boat_85 (by decide) ?_
    refine lv_goto (tgt := 112) hx hb dX6_boat_86 (by decide) ?_
    exact J_7 (1 : Int32) H locs ls (if_pos c_7).symm hP hS (lv_sub hl [0, 1, 2, 3, 4, 5, 6, 7, 8] rfl)
  refine lv_if_eq (tgt := 72) hx hb dX6_boat_8 (by decide) (fun c_1 => ?_) (fun c_1 => ?_)
  · refine lv_iconst (v := 0) hx hb dX6_boat_72 (by decide) ?_
    exact J_1 (0 : Int32) H locs ls (if_pos c_1).symm hP hS (lv_sub hl [0, 1, 2, 3, 4, 5, 6, 7] rfl)
  refine lv_iload_n hx hb dX6_boat_11 rfl (lv_at hl 2 rfl) ?_
  refine lv_iconst (v := 1) hx hb dX6_boat_12 (by decide) ?_
  refine lv_sipush (v := 200) hx hb dX6_boat_13 (by decide) ?_
  refine mcS_i E hml hP hS (c_in l hA σ length (1 : Int32) (200 : Int32)) (va_cwS 3 hts gX6_boat_X6_in rfl rfl rfl (by decide +kernel) ⟨Nat.le_trans (Nat.le_of_ble_eq_true rfl) hR.1, Nat.le_trans (Nat.le_of_ble_eq_true rfl) hR.2⟩) rfl hl.1 rfl (Nat.le_of_ble_eq_true rfl) dX6_boat_16 hf (fun H locs hP hS => ?_)
  refine lv_if_eq (tgt := 72) hx hb dX6_boat_19 (by decide) (fun c_2 => ?_) (fun c_2 => ?_)
  · refine lv_iconst (v := 0) hx hb dX6_boat_72 (by decide) ?_
    exact J_1 (0 : Int32) H locs ls ((if_pos c_2).symm.trans (if_neg c_1).symm) hP hS (lv_sub hl [0, 1, 2, 3, 4, 5, 6, 7] rfl)
  refine lv_iload_n hx hb dX6_boat_22 rfl (lv_at hl 3 rfl) ?_
  refine lv_iconst (v := 1) hx hb dX6_boat_23 (by decide) ?_
  refine lv_sipush (v := 10000) hx hb dX6_boat_24 (by decide) ?_
  refine mcS_i E hml hP hS (c_in l hA σ weight (1 : Int32) (10000 : Int32)) (va_cwS 3 hts gX6_boat_X6_in rfl rfl rfl (by decide +kernel) ⟨Nat.le_trans (Nat.le_of_ble_eq_true rfl) hR.1, Nat.le_trans (Nat.le_of_ble_eq_true rfl) hR.2⟩) rfl hl.1 rfl (Nat.le_of_ble_eq_true rfl) dX6_boat_27 hf (fun H locs hP hS => ?_)
  refine lv_if_eq (tgt := 72) hx hb dX6_boat_30 (by decide) (fun c_3 => ?_) (fun c_3 => ?_)
  · refine lv_iconst (v := 0) hx hb dX6_boat_72 (by decide) ?_
    exact J_1 (0 : Int32) H locs ls ((if_pos c_3).symm.trans ((if_neg c_2).symm.trans (if_neg c_1).symm)) hP hS (lv_sub hl [0, 1, 2, 3, 4, 5, 6, 7] rfl)
  refine lv_iload hx hb dX6_boat_33 (lv_at hl 4 rfl) ?_
  refine lv_iconst (v := 0) hx hb dX6_boat_35 (by decide) ?_
  refine lv_sipush (v := 10000) hx hb dX6_boat_36 (by decide) ?_
  refine mcS_i E hml hP hS (c_in l hA σ trim (0 : Int32) (10000 : Int32)) (va_cwS 3 hts gX6_boat_X6_in rfl rfl rfl (by decide +kernel) ⟨Nat.le_trans (Nat.le_of_ble_eq_true rfl) hR.1, Nat.le_trans (Nat.le_of_ble_eq_true rfl) hR.2⟩) rfl hl.1 rfl (Nat.le_of_ble_eq_true rfl) dX6_boat_39 hf (fun H locs hP hS => ?_)
  refine lv_if_eq (tgt := 72) hx hb dX6_boat_42 (by decide) (fun c_4 => ?_) (fun c_4 => ?_)
  · refine lv_iconst (v := 0) hx hb dX6_boat_72 (by decide) ?_
    exact J_1 (0 : Int32) H locs ls ((if_pos c_4).symm.trans ((if_neg c_3).symm.trans ((if_neg c_2).symm.trans (if_neg c_1).symm))) hP hS (lv_sub hl [0, 1, 2, 3, 4, 5, 6, 7] rfl)
  refine lv_iload hx hb dX6_boat_45 (lv_at hl 5 rfl) ?_
  refine lv_iconst (v := 0) hx hb dX6_boat_47 (by decide) ?_
  refine lv_bipush (v := 9) hx hb dX6_boat_48 (by decide) ?_
  refine mcS_i E hml hP hS (c_in l hA σ swell (0 : Int32) (9 : Int32)) (va_cwS 3 hts gX6_boat_X6_in rfl rfl rfl (by decide +kernel) ⟨Nat.le_trans (Nat.le_of_ble_eq_true rfl) hR.1, Nat.le_trans (Nat.le_of_ble_eq_true rfl) hR.2⟩) rfl hl.1 rfl (Nat.le_of_ble_eq_true rfl) dX6_boat_50 hf (fun H locs hP hS => ?_)
  refine lv_if_eq (tgt := 72) hx hb dX6_boat_53 (by decide) (fun c_5 => ?_) (fun c_5 => ?_)
  · refine lv_iconst (v := 0) hx hb dX6_boat_72 (by decide) ?_
    exact J_1 (0 : Int32) H locs ls ((if_pos c_5).symm.trans ((if_neg c_4).symm.trans ((if_neg c_3).symm.trans ((if_neg c_2).symm.trans (if_neg c_1).symm)))) hP hS (lv_sub hl [0, 1, 2, 3, 4, 5, 6, 7] rfl)
  refine lv_iload hx hb dX6_boat_56 (lv_at hl 6 rfl) ?_
  refine lv_iconst (v := 0) hx hb dX6_boat_58 (by decide) ?_
  refine lv_sipush (v := 255) hx hb dX6_boat_59 (by decide) ?_
  refine mcS_i E hml hP hS (c_in l hA σ piers (0 : Int32) (255 : Int32)) (va_cwS 3 hts gX6_boat_X6_in rfl rfl rfl (by decide +kernel) ⟨Nat.le_trans (Nat.le_of_ble_eq_true rfl) hR.1, Nat.le_trans (Nat.le_of_ble_eq_true rfl) hR.2⟩) rfl hl.1 rfl (Nat.le_of_ble_eq_true rfl) dX6_boat_62 hf (fun H locs hP hS => ?_)
  refine lv_if_eq (tgt := 72) hx hb dX6_boat_65 (by decide) (fun c_6 => ?_) (fun c_6 => ?_)
  · refine lv_iconst (v := 0) hx hb dX6_boat_72 (by decide) ?_
    exact J_1 (0 : Int32) H locs ls ((if_pos c_6).symm.trans ((if_neg c_5).symm.trans ((if_neg c_4).symm.trans ((if_neg c_3).symm.trans ((if_neg c_2).symm.trans (if_neg c_1).symm))))) hP hS (lv_sub hl [0, 1, 2, 3, 4, 5, 6, 7] rfl)
  refine lv_iconst (v := 1) hx hb dX6_boat_68 (by decide) ?_
  refine lv_goto (tgt := 73) hx hb dX6_boat_69 (by decide) ?_
  exact J_1 (1 : Int32) H locs ls ((if_neg c_6).symm.trans ((if_neg c_5).symm.trans ((if_neg c_4).symm.trans ((if_neg c_3).symm.trans ((if_neg c_2).symm.trans (if_neg c_1).symm))))) hP hS (lv_sub hl [0, 1, 2, 3, 4, 5, 6, 7] rfl)
set_option maxHeartbeats 1000000 in
set_option maxRecDepth 100000 in
theorem c_boat (l : Launch) {D : va_G} {A : Nat → Prop} {cI cZ : ClassId} {h : Nat} (hA : ∀ i, i < 44 → A (h + i)) (σ : St) (draught : Int32) (length : Int32) (weight : Int32) (trim : Int32) (swell : Int32) (piers : Int32) (home : Int32) (hI : MI σ) : Met l yX6_boat wsX6_boat ({ frames := 2, cells := 0, slots := 0, locals := 43 }) (va_Pc [.ref h, .int draught, .int length, .int weight, .int trim, .int swell, .int piers, .int home] (mU D cI cZ h σ)) (va_Qi (fun r (_ : Unit) => r = q_boat σ draught length weight trim swell piers home) (fun _ t => mU D cI cZ h (s_boat σ draught length weight trim swell piers home) t) A) 0 0 A := by
  refine Met.ofW (cc := cX6_boat) (maxL := 9) (ret := (some .int)) (by decide) rfl ?_
  intro p e s m args below meth c s₁ B hml hv
  obtain ⟨rfl, hP, hK⟩ := hv
  have E : mE p c cX6_boat s m ([.ref h, .int draught, .int length, .int weight, .int trim, .int swell, .int piers, .int home] : List Value).toArray wsX6_boat D cI cZ := ⟨⟨B.exec, B.bytes⟩, atoms_spec (ws := wsX6_boat) B.pre, (by decide +kernel), findClass_of_methodNamed B.named, hK⟩
  have hr := B.returns
  have hlocks := B.notSynchronized
  have hl := lv_entry ([.ref h, .int draught, .int length, .int weight, .int trim, .int swell, .int piers, .int home]) (n := 9) (Nat.le_of_ble_eq_true rfl)
  rw [lg_entry_eq]
  generalize (lg_sl ([.ref h, .int draught, .int length, .int weight, .int trim, .int swell, .int piers, .int home]) ++ List.replicate (9 - (lg_sl ([.ref h, .int draught, .int length, .int weight, .int trim, .int swell, .int piers, .int home])).length) Slot.unset).toArray = ls at hl ⊢
  refine w_boat σ draught length weight trim swell piers home hI E hml hA ⟨Nat.le_of_ble_eq_true rfl, Nat.le_of_ble_eq_true rfl⟩ ⟨Nat.zero_le _, Nat.zero_le _⟩ hP va_S.rf hl (fun pc v H1 locs1 ls1 hd hv hP1 hS1 => ?_)
  exact W.iret (v := v) B.exec B.bytes hr (fun t ht hW => ⟨⟨v, (), rfl, hv, by rw [ht]; exact hP1, va_K.moved hW.alike hK⟩, hS1.F ht⟩) hS1.2.2 hd
def q_swell (σ : St) (pier : Int32) (sw : Int32) : Int32 := if (q_refused σ (if (q_isPier σ pier) = 0 then (1 : Int32) else (if (q_in sw (0 : Int32) (9 : Int32)) = 0 then (2 : Int32) else (0 : Int32)))) = 0 then (σ 7 pier.toNatClampNeg) else (0 : Int32)
def s_swell (σ : St) (pier : Int32) (sw : Int32) : St := if (q_refused σ (if (q_isPier σ pier) = 0 then (1 : Int32) else (if (q_in sw (0 : Int32) (9 : Int32)) = 0 then (2 : Int32) else (0 : Int32)))) = 0 then (st (s_refused σ (if (q_isPier σ pier) = 0 then (1 : Int32) else (if (q_in sw (0 : Int32) (9 : Int32)) = 0 then (2 : Int32) else (0 : Int32)))) 7 pier.toNatClampNeg sw) else (s_refused σ (if (q_isPier σ pier) = 0 then (1 : Int32) else (if (q_in sw (0 : Int32) (9 : Int32)) = 0 then (2 : Int32) else (0 : Int32))))
set_option maxHeartbeats 1000000 in
set_option maxRecDepth 100000 in
theorem w_swell {p : Program} {l : Launch} {e : Env} {R : Room} {s : State} {m : MethodId} {args : Array Value} {below : List Frame} {meth : Method} {c : Code} {H : Heap} {locs : List Loc} {cells slots : Nat} {Q : State → Prop} {D : va_G} {A : Nat → Prop} {cI cZ : ClassId} {h : Nat} {ls : Array Slot} (σ : St) (pier : Int32) (sw : Int32) (hI : MI σ) (E : mE p c cX6_swell s m args wsX6_swell D cI cZ) (hml : c.maxLocals = 4) (hA : ∀ i, i < 44 → A (h + i)) (hR : 2 ≤ R.frames ∧ 43 ≤ R.locals) (hf : cells ≤ R.cells ∧ slots ≤ R.slots) (hP : va_P D vwCl (mW cI cZ h σ) H) (hS : va_S A s.heap H locs) (hl : lv_has ls 4 [(0, .ref h), (1, .int pier), (2, .int sw)]) (kr : ∀ (pc : Nat) (rv : Int32) (H1 : Heap) (locs1 : List Loc) (ls1 : Array Slot), decode cX6_swell pc = .ok (.ireturn, 1) → rv = q_swell σ pier sw → va_P D vwCl (mW cI cZ h (s_swell σ pier sw)) H1 → va_S A s.heap H1 locs1 → W p l e R s m args below meth c H1 locs1 cells slots Q (F0 m pc ls1 [.int rv])) : W p l e R s m args below meth c H locs cells slots Q (F0 m 0 ls []) := by
  have hx := E.1.1
  have hb := E.1.2
  have hts := E.2.1
  have hq : q_swell σ pier sw = if (q_refused σ (if (q_isPier σ pier) = 0 then (1 : Int32) else (if (q_in sw (0 : Int32) (9 : Int32)) = 0 then (2 : Int32) else (0 : Int32)))) = 0 then (σ 7 pier.toNatClampNeg) else (0 : Int32) := rfl
  have hs : s_swell σ pier sw = if (q_refused σ (if (q_isPier σ pier) = 0 then (1 : Int32) else (if (q_in sw (0 : Int32) (9 : Int32)) = 0 then (2 : Int32) else (0 : Int32)))) = 0 then (st (s_refused σ (if (q_isPier σ pier) = 0 then (1 : Int32) else (if (q_in sw (0 : Int32) (9 : Int32)) = 0 then (2 : Int32) else (0 : Int32)))) 7 pier.toNatClampNeg sw) else (s_refused σ (if (q_isPier σ pier) = 0 then (1 : Int32) else (if (q_in sw (0 : Int32) (9 : Int32)) = 0 then (2 : Int32) else (0 : Int32)))) := rfl
  refine lv_aload_n hx hb dX6_swell_0 rfl (lv_at hl 0 rfl) ?_
  refine lv_aload_n hx hb dX6_swell_1 rfl (lv_at hl 0 rfl) ?_
  refine lv_iload_n hx hb dX6_swell_2 rfl (lv_at hl 1 rfl) ?_
  refine mcV_i E hml hP hS (c_isPier l hA σ pier) (cwV 1 hts gX6_swell_X6_isPier rfl rfl rfl (by decide +kernel) ⟨Nat.le_trans (Nat.le_of_ble_eq_true rfl) hR.1, Nat.le_trans (Nat.le_of_ble_eq_true rfl) hR.2⟩) rfl hl.1 rfl (Nat.le_of_ble_eq_true rfl) dX6_swell_3 hf (fun H locs hP hS => ?_)
  have J_1 : ∀ (y1_t0 : Int32) (H : Heap) (locs : List Loc) (ls : Array Slot), y1_t0 = (if (q_isPier σ pier) = 0 then (1 : Int32) else (if (q_in sw (0 : Int32) (9 : Int32)) = 0 then (2 : Int32) else (0 : Int32))) → va_P D vwCl (mW cI cZ h σ) H → va_S A s.heap H locs → lv_has ls 4 [(0, .ref h), (1, .int pier), (2, .int sw)] → W p l e R s m args below meth c H locs cells slots Q (F0 m 28 ls [.int y1_t0, .ref h]) := by
    intro y1_t0 H locs ls e_y1_t0 hP hS hl
    subst e_y1_t0
    refine mcV_i E hml hP hS (c_refused l hA σ (if (q_isPier σ pier) = 0 then (1 : Int32) else (if (q_in sw (0 : Int32) (9 : Int32)) = 0 then (2 : Int32) else (0 : Int32)))) (cwV 1 hts gX6_swell_X6_refused rfl rfl rfl (by decide +kernel) ⟨Nat.le_trans (Nat.le_of_ble_eq_true rfl) hR.1, Nat.le_trans (Nat.le_of_ble_eq_true rfl) hR.2⟩) rfl hl.1 rfl (Nat.le_of_ble_eq_true rfl) dX6_swell_28 hf (fun H locs hP hS => ?_)
    refine lv_if_eq (tgt := 36) hx hb dX6_swell_31 (by decide) (fun c_3 => ?_) (fun c_3 => ?_)
    · have hq := hq.trans (if_pos c_3)
      have hs := hs.trans (if_pos c_3)
      have h_pier := isPier_in hI (rfp c_3)
      refine lv_aload_n hx hb dX6_swell_36 rfl (lv_at hl 0 rfl) ?_
      refine mg_swells E hP (by decide +kernel) dX6_swell_37 ?_
      refine lv_iload_n hx hb dX6_swell_40 rfl (lv_at hl 1 rfl) ?_
      refine mlv_swells E hP h_pier (v := σ 7 pier.toNatClampNeg) rfl dX6_swell_41 ?_
      refine lv_istore_n (lv' := [(3, .int (σ 7 pier.toNatClampNeg)), (0, .ref h), (1, .int pier), (2, .int sw)]) hx hb dX6_swell_42 rfl hl (by decide) rfl (fun ls hl => ?_)
      refine lv_aload_n hx hb dX6_swell_43 rfl (lv_at hl 1 rfl) ?_
      refine mg_swells E hP (by decide +kernel) dX6_swell_44 ?_
      refine lv_iload_n hx hb dX6_swell_47 rfl (lv_at hl 2 rfl) ?_
      refine lv_iload_n hx hb dX6_swell_48 rfl (lv_at hl 3 rfl) ?_
      refine ms_swells E hP hA hS h_pier dX6_swell_49 (fun H locs hP hS => ?_)
      refine lv_iload_n hx hb dX6_swell_50 rfl (lv_at hl 0 rfl) ?_
      exact kr _ (σ 7 pier.toNatClampNeg) H locs ls dX6_swell_51 hq.symm (by rw [hs]; exact hP) hS
    have hq := hq.trans (if_neg c_3)
    have hs := hs.trans (if_neg c_3)
    refine lv_iconst (v := 0) hx hb dX6_swell_34 (by decide) ?_
    exact kr _ (0 : Int32) H locs ls dX6_swell_35 hq.symm (by rw [hs]; exact hP) hS
  refine lv_if_ne (tgt := 13) hx hb dX6_swell_6 (by decide) (fun c_1 => ?_) (fun c_1 => ?_)
  · refine lv_iload_n hx hb dX6_swell_13 rfl (lv_at hl 2 rfl) ?_
    refine lv_iconst (v := 0) hx hb dX6_swell_14 (by decide) ?_
    refine lv_bipush (v := 9) hx hb dX6_swell_15 (by decide) ?_
    refine mcS_i E hml hP hS (c_in l hA σ sw (0 : Int32) (9 : Int32)) (va_cwS 3 hts gX6_swell_X6_in rfl rfl rfl (by decide +kernel) ⟨Nat.le_trans (Nat.le_of_ble_eq_true rfl) hR.1, Nat.le_trans (Nat.le_of_ble_eq_true rfl) hR.2⟩) rfl hl.1 rfl (Nat.le_of_ble_eq_true rfl) dX6_swell_17 hf (fun H locs hP hS => ?_)
    refine lv_if_ne (tgt := 27) hx hb dX6_swell_20 (by decide) (fun c_2 => ?_) (fun c_2 => ?_)
    · refine lv_iconst (v := 0) hx hb dX6_swell_27 (by decide) ?_
      exact J_1 (0 : Int32) H locs ls ((if_neg c_2).symm.trans (if_neg c_1).symm) hP hS (lv_sub hl [0, 1, 2] rfl)
    refine lv_iconst (v := 2) hx hb dX6_swell_23 (by decide) ?_
    refine lv_goto (tgt := 28) hx hb dX6_swell_24 (by decide) ?_
    exact J_1 (2 : Int32) H locs ls ((if_pos c_2).symm.trans (if_neg c_1).symm) hP hS (lv_sub hl [0, 1, 2] rfl)
  refine lv_iconst (v := 1) hx hb dX6_swell_9 (by decide) ?_
  refine lv_goto (tgt := 28) hx hb dX6_swell_10 (by decide) ?_
  exact J_1 (1 : Int32) H locs ls (if_pos c_1).symm hP hS (lv_sub hl [0, 1, 2] rfl)
set_option maxHeartbeats 1000000 in
set_option maxRecDepth 100000 in
theorem c_swell (l : Launch) {D : va_G} {A : Nat → Prop} {cI cZ : ClassId} {h : Nat} (hA : ∀ i, i < 44 → A (h + i)) (σ : St) (pier : Int32) (sw : Int32) (hI : MI σ) : Met l yX6_swell wsX6_swell ({ frames := 2, cells := 0, slots := 0, locals := 43 }) (va_Pc [.ref h, .int pier, .int sw] (mU D cI cZ h σ)) (va_Qi (fun r (_ : Unit) => r = q_swell σ pier sw) (fun _ t => mU D cI cZ h (s_swell σ pier sw) t) A) 0 0 A := by
  refine Met.ofW (cc := cX6_swell) (maxL := 4) (ret := (some .int)) (by decide) rfl ?_
  intro p e s m args below meth c s₁ B hml hv
  obtain ⟨rfl, hP, hK⟩ := hv
  have E : mE p c cX6_swell s m ([.ref h, .int pier, .int sw] : List Value).toArray wsX6_swell D cI cZ := ⟨⟨B.exec, B.bytes⟩, atoms_spec (ws := wsX6_swell) B.pre, (by decide +kernel), findClass_of_methodNamed B.named, hK⟩
  have hr := B.returns
  have hlocks := B.notSynchronized
  have hl := lv_entry ([.ref h, .int pier, .int sw]) (n := 4) (Nat.le_of_ble_eq_true rfl)
  rw [lg_entry_eq]
  generalize (lg_sl ([.ref h, .int pier, .int sw]) ++ List.replicate (4 - (lg_sl ([.ref h, .int pier, .int sw])).length) Slot.unset).toArray = ls at hl ⊢
  refine w_swell σ pier sw hI E hml hA ⟨Nat.le_of_ble_eq_true rfl, Nat.le_of_ble_eq_true rfl⟩ ⟨Nat.zero_le _, Nat.zero_le _⟩ hP va_S.rf hl (fun pc v H1 locs1 ls1 hd hv hP1 hS1 => ?_)
  exact W.iret (v := v) B.exec B.bytes hr (fun t ht hW => ⟨⟨v, (), rfl, hv, by rw [ht]; exact hP1, va_K.moved hW.alike hK⟩, hS1.F ht⟩) hS1.2.2 hd
def q_breakDown (σ : St) (boat : Int32) : Int32 := if (q_refused σ (if (q_isBoat σ boat) = 0 then (1 : Int32) else (0 : Int32))) = 0 then ((st (s_refused σ (if (q_isBoat σ boat) = 0 then (1 : Int32) else (0 : Int32))) 20 boat.toNatClampNeg (vp_nar .boolean (if (σ 20 boat.toNatClampNeg) = 0 then (1 : Int32) else (0 : Int32)))) 20 boat.toNatClampNeg) else (0 : Int32)
def s_breakDown (σ : St) (boat : Int32) : St := if (q_refused σ (if (q_isBoat σ boat) = 0 then (1 : Int32) else (0 : Int32))) = 0 then (st (s_refused σ (if (q_isBoat σ boat) = 0 then (1 : Int32) else (0 : Int32))) 20 boat.toNatClampNeg (vp_nar .boolean (if (σ 20 boat.toNatClampNeg) = 0 then (1 : Int32) else (0 : Int32)))) else (s_refused σ (if (q_isBoat σ boat) = 0 then (1 : Int32) else (0 : Int32)))
set_option maxHeartbeats 1000000 in
set_option maxRecDepth 100000 in
theorem w_breakDown {p : Program} {l : Launch} {e : Env} {R : Room} {s : State} {m : MethodId} {args : Array Value} {below : List Frame} {meth : Method} {c : Code} {H : Heap} {locs : List Loc} {cells slots : Nat} {Q : State → Prop} {D : va_G} {A : Nat → Prop} {cI cZ : ClassId} {h : Nat} {ls : Array Slot} (σ : St) (boat : Int32) (hI : MI σ) (E : mE p c cX6_breakDown s m args wsX6_breakDown D cI cZ) (hml : c.maxLocals = 2) (hA : ∀ i, i < 44 → A (h + i)) (hR : 2 ≤ R.frames ∧ 43 ≤ R.locals) (hf : cells ≤ R.cells ∧ slots ≤ R.slots) (hP : va_P D vwCl (mW cI cZ h σ) H) (hS : va_S A s.heap H locs) (hl : lv_has ls 2 [(0, .ref h), (1, .int boat)]) (kr : ∀ (pc : Nat) (rv : Int32) (H1 : Heap) (locs1 : List Loc) (ls1 : Array Slot), decode cX6_breakDown pc = .ok (.ireturn, 1) → rv = q_breakDown σ boat → va_P D vwCl (mW cI cZ h (s_breakDown σ boat)) H1 → va_S A s.heap H1 locs1 → W p l e R s m args below meth c H1 locs1 cells slots Q (F0 m pc ls1 [.int rv])) : W p l e R s m args below meth c H locs cells slots Q (F0 m 0 ls []) := by
  have hx := E.1.1
  have hb := E.1.2
  have hts := E.2.1
  have hq : q_breakDown σ boat = if (q_refused σ (if (q_isBoat σ boat) = 0 then (1 : Int32) else (0 : Int32))) = 0 then ((st (s_refused σ (if (q_isBoat σ boat) = 0 then (1 : Int32) else (0 : Int32))) 20 boat.toNatClampNeg (vp_nar .boolean (if (σ 20 boat.toNatClampNeg) = 0 then (1 : Int32) else (0 : Int32)))) 20 boat.toNatClampNeg) else (0 : Int32) := rfl
  have hs : s_breakDown σ boat = if (q_refused σ (if (q_isBoat σ boat) = 0 then (1 : Int32) else (0 : Int32))) = 0 then (st (s_refused σ (if (q_isBoat σ boat) = 0 then (1 : Int32) else (0 : Int32))) 20 boat.toNatClampNeg (vp_nar .boolean (if (σ 20 boat.toNatClampNeg) = 0 then (1 : Int32) else (0 : Int32)))) else (s_refused σ (if (q_isBoat σ boat) = 0 then (1 : Int32) else (0 : Int32))) := rfl
  refine lv_aload_n hx hb dX6_breakDown_0 rfl (lv_at hl 0 rfl) ?_
  refine lv_aload_n hx hb dX6_breakDown_1 rfl (lv_at hl 0 rfl) ?_
  refine lv_iload_n hx hb dX6_breakDown_2 rfl (lv_at hl 1 rfl) ?_
  refine mcV_i E hml hP hS (c_isBoat l hA σ boat) (cwV 1 hts gX6_breakDown_X6_isBoat rfl rfl rfl (by decide +kernel) ⟨Nat.le_trans (Nat.le_of_ble_eq_true rfl) hR.1, Nat.le_trans (Nat.le_of_ble_eq_true rfl) hR.2⟩) rfl hl.1 rfl (Nat.le_of_ble_eq_true rfl) dX6_breakDown_3 hf (fun H locs hP hS => ?_)
  have J_1 : ∀ (y1_t0 : Int32) (H : Heap) (locs : List Loc) (ls : Array Slot), y1_t0 = (if (q_isBoat σ boat) = 0 then (1 : Int32) else (0 : Int32)) → va_P D vwCl (mW cI cZ h σ) H → va_S A s.heap H locs → lv_has ls 2 [(0, .ref h), (1, .int boat)] → W p l e R s m args below meth c H locs cells slots Q (F0 m 14 ls [.int y1_t0, .ref h]) := by
    intro y1_t0 H locs ls e_y1_t0 hP hS hl
    subst e_y1_t0
    refine mcV_i E hml hP hS (c_refused l hA σ (if (q_isBoat σ boat) = 0 then (1 : Int32) else (0 : Int32))) (cwV 1 hts gX6_breakDown_X6_refused rfl rfl rfl (by decide +kernel) ⟨Nat.le_trans (Nat.le_of_ble_eq_true rfl) hR.1, Nat.le_trans (Nat.le_of_ble_eq_true rfl) hR.2⟩) rfl hl.1 rfl (Nat.le_of_ble_eq_true rfl) dX6_breakDown_14 hf (fun H locs hP hS => ?_)
    refine lv_if_eq (tgt := 22) hx hb dX6_breakDown_17 (by decide) (fun c_2 => ?_) (fun c_2 => ?_)
    · have hq := hq.trans (if_pos c_2)
      have hs := hs.trans (if_pos c_2)
      have h_boat := isBoat_in hI (rfp c_2)
      refine lv_aload_n hx hb dX6_breakDown_22 rfl (lv_at hl 0 rfl) ?_
      refine mg_isBroken E hP (by decide +kernel) dX6_breakDown_23 ?_
      refine lv_iload_n hx hb dX6_breakDown_26 rfl (lv_at hl 1 rfl) ?_
      refine lv_aload_n hx hb dX6_breakDown_27 rfl (lv_at hl 0 rfl) ?_
      refine mg_isBroken E hP (by decide +kernel) dX6_breakDown_28 ?_
      refine lv_iload_n hx hb dX6_breakDown_31 rfl (lv_at hl 1 rfl) ?_
      refine mlv_isBroken E hP h_boat (v := σ 20 boat.toNatClampNeg) rfl dX6_breakDown_32 ?_
      have J_3 : ∀ (y3_t0 : Int32) (H : Heap) (locs : List Loc) (ls : Array Slot), y3_t0 = (if (σ 20 boat.toNatClampNeg) = 0 then (1 : Int32) else (0 : Int32)) → va_P D vwCl (mW cI cZ h (s_refused σ (if (q_isBoat σ boat) = 0 then (1 : Int32) else (0 : Int32)))) H → va_S A s.heap H locs → lv_has ls 2 [(0, .ref h), (1, .int boat)] → W p l e R s m args below meth c H locs cells slots Q (F0 m 41 ls [.int y3_t0, .int boat, .ref (h + 17)]) := by
        intro y3_t0 H locs ls e_y3_t0 hP hS hl
        subst e_y3_t0
        refine ms_isBroken E hP hA hS h_boat dX6_breakDown_41 (fun H locs hP hS => ?_)
        refine lv_aload_n hx hb dX6_breakDown_42 rfl (lv_at hl 0 rfl) ?_
        refine mg_isBroken E hP (by decide +kernel) dX6_breakDown_43 ?_
        refine lv_iload_n hx hb dX6_breakDown_46 rfl (lv_at hl 1 rfl) ?_
        refine ml_isBroken E hP h_boat dX6_breakDown_47 ?_
        exact kr _ ((st (s_refused σ (if (q_isBoat σ boat) = 0 then (1 : Int32) else (0 : Int32))) 20 boat.toNatClampNeg (vp_nar .boolean (if (σ 20 boat.toNatClampNeg) = 0 then (1 : Int32) else (0 : Int32)))) 20 boat.toNatClampNeg) H locs ls dX6_breakDown_48 hq.symm (by rw [hs]; exact hP) hS
      refine lv_if_ne (tgt := 40) hx hb dX6_breakDown_33 (by decide) (fun c_3 => ?_) (fun c_3 => ?_)
      · refine lv_iconst (v := 0) hx hb dX6_breakDown_40 (by decide) ?_
        exact J_3 (0 : Int32) H locs ls (if_neg c_3).symm hP hS (lv_sub hl [0, 1] rfl)
      refine lv_iconst (v := 1) hx hb dX6_breakDown_36 (by decide) ?_
      refine lv_goto (tgt := 41) hx hb dX6_breakDown_37 (by decide) ?_
      exact J_3 (1 : Int32) H locs ls (if_pos c_3).symm hP hS (lv_sub hl [0, 1] rfl)
    have hq := hq.trans (if_neg c_2)
    have hs := hs.trans (if_neg c_2)
    refine lv_iconst (v := 0) hx hb dX6_breakDown_20 (by decide) ?_
    exact kr _ (0 : Int32) H locs ls dX6_breakDown_21 hq.symm (by rw [hs]; exact hP) hS
  refine lv_if_eq (tgt := 13) hx hb dX6_breakDown_6 (by decide) (fun c_1 => ?_) (fun c_1 => ?_)
  · refine lv_iconst (v := 1) hx hb dX6_breakDown_13 (by decide) ?_
    exact J_1 (1 : Int32) H locs ls (if_pos c_1).symm hP hS (lv_sub hl [0, 1] rfl)
  refine lv_iconst (v := 0) hx hb dX6_breakDown_9 (by decide) ?_
  refine lv_goto (tgt := 14) hx hb dX6_breakDown_10 (by decide) ?_
  exact J_1 (0 : Int32) H locs ls (if_neg c_1).symm hP hS (lv_sub hl [0, 1] rfl)
theorem b_breakDown (σ : St) (boat : Int32) : isB (q_breakDown σ boat) := by
  unfold q_breakDown;  refine isB_if ?_ isB0; rw [st_self]; exact isB_nar _
set_option maxHeartbeats 1000000 in
set_option maxRecDepth 100000 in
theorem c_breakDown (l : Launch) {D : va_G} {A : Nat → Prop} {cI cZ : ClassId} {h : Nat} (hA : ∀ i, i < 44 → A (h + i)) (σ : St) (boat : Int32) (hI : MI σ) : Met l yX6_breakDown wsX6_breakDown ({ frames := 2, cells := 0, slots := 0, locals := 43 }) (va_Pc [.ref h, .int boat] (mU D cI cZ h σ)) (va_Qi (fun r (_ : Unit) => r = q_breakDown σ boat) (fun _ t => mU D cI cZ h (s_breakDown σ boat) t) A) 0 0 A := by
  refine Met.ofW (cc := cX6_breakDown) (maxL := 2) (ret := (some .boolean)) (by decide) rfl ?_
  intro p e s m args below meth c s₁ B hml hv
  obtain ⟨rfl, hP, hK⟩ := hv
  have E : mE p c cX6_breakDown s m ([.ref h, .int boat] : List Value).toArray wsX6_breakDown D cI cZ := ⟨⟨B.exec, B.bytes⟩, atoms_spec (ws := wsX6_breakDown) B.pre, (by decide +kernel), findClass_of_methodNamed B.named, hK⟩
  have hr := B.returns
  have hlocks := B.notSynchronized
  have hl := lv_entry ([.ref h, .int boat]) (n := 2) (Nat.le_of_ble_eq_true rfl)
  rw [lg_entry_eq]
  generalize (lg_sl ([.ref h, .int boat]) ++ List.replicate (2 - (lg_sl ([.ref h, .int boat])).length) Slot.unset).toArray = ls at hl ⊢
  refine w_breakDown σ boat hI E hml hA ⟨Nat.le_of_ble_eq_true rfl, Nat.le_of_ble_eq_true rfl⟩ ⟨Nat.zero_le _, Nat.zero_le _⟩ hP va_S.rf hl (fun pc v H1 locs1 ls1 hd hv hP1 hS1 => ?_)
  exact W.zret (v := v) B.exec B.bytes hr (by rw [hv]; exact isB_n (b_breakDown σ boat)) (fun t ht hW => ⟨⟨v, (), rfl, hv, by rw [ht]; exact hP1, va_K.moved hW.alike hK⟩, hS1.F ht⟩) hS1.2.2 hd
def k41t0_relieve (σ : St) (boat : Int32) (other : Int32) : Int32 := if (if (q_isBoat σ boat) = 0 then (0 : Int32) else (if (q_isBoat σ other) = 0 then (0 : Int32) else (1 : Int32))) = 0 then (1 : Int32) else (if boat = other then (2 : Int32) else (0 : Int32))
def lf_relieve_55 (σ : St) (boat : Int32) (other : Int32) : Nat → Nat → Int32 → St → Int32 × St
  | 0, _, x4, τ => (x4, τ)
  | n + 1, i, x4, τ => if (τ 21 0) ≤ (nI i) then (x4, τ) else (lf_relieve_55 σ boat other n (i + 1) (x4 + (if (if (τ 22 (nI i).toNatClampNeg) = 0 then (if (τ 23 (nI i).toNatClampNeg) = boat then (1 : Int32) else (0 : Int32)) else (0 : Int32)) = 0 then (0 : Int32) else (1 : Int32))) (st τ 23 (nI i).toNatClampNeg (if (if (τ 22 (nI i).toNatClampNeg) = 0 then (if (τ 23 (nI i).toNatClampNeg) = boat then (1 : Int32) else (0 : Int32)) else (0 : Int32)) = 0 then (τ 23 (nI i).toNatClampNeg) else other)))
def q_relieve (σ : St) (boat : Int32) (other : Int32) : Int32 := if (q_refused σ (k41t0_relieve σ boat other)) = 0 then ((lf_relieve_55 σ boat other 61 0 (0 : Int32) (s_refused σ (k41t0_relieve σ boat other))).1) else (0 : Int32)
def s_relieve (σ : St) (boat : Int32) (other : Int32) : St := if (q_refused σ (k41t0_relieve σ boat other)) = 0 then ((lf_relieve_55 σ boat other 61 0 (0 : Int32) (s_refused σ (k41t0_relieve σ boat other))).2) else (s_refused σ (k41t0_relieve σ boat other))
theorem rel_o {σ : St} {a b : Int32} (z : (q_refused σ (k41t0_relieve σ a b)) = 0) : ¬ (q_isBoat σ b) = 0 := (ifa (ifa (ifz (by decide) (rf0 z)).1).2).1
theorem in_if {P : Prop} {hd : Decidable P} {n : Nat} {a b : Int32} (ha : vp_in a n) (hb : vp_in b n) : vp_in (if P then a else b) n := by
  by_cases hp : P
  · rw [if_pos hp]; exact ha
  · rw [if_neg hp]; exact hb
set_option maxHeartbeats 1000000 in
set_option maxRecDepth 100000 in
theorem w_relieve {p : Program} {l : Launch} {e : Env} {R : Room} {s : State} {m : MethodId} {args : Array Value} {below : List Frame} {meth : Method} {c : Code} {H : Heap} {locs : List Loc} {cells slots : Nat} {Q : State → Prop} {D : va_G} {A : Nat → Prop} {cI cZ : ClassId} {h : Nat} {ls : Array Slot} (σ : St) (boat : Int32) (other : Int32) (hI : MI σ) (E : mE p c cX6_relieve s m args wsX6_relieve D cI cZ) (hml : c.maxLocals = 7) (hA : ∀ i, i < 44 → A (h + i)) (hR : 2 ≤ R.frames ∧ 43 ≤ R.locals) (hf : cells ≤ R.cells ∧ slots ≤ R.slots) (hP : va_P D vwCl (mW cI cZ h σ) H) (hS : va_S A s.heap H locs) (hl : lv_has ls 7 [(0, .ref h), (1, .int boat), (2, .int other)]) (kr : ∀ (pc : Nat) (rv : Int32) (H1 : Heap) (locs1 : List Loc) (ls1 : Array Slot), decode cX6_relieve pc = .ok (.ireturn, 1) → rv = q_relieve σ boat other → va_P D vwCl (mW cI cZ h (s_relieve σ boat other)) H1 → va_S A s.heap H1 locs1 → W p l e R s m args below meth c H1 locs1 cells slots Q (F0 m pc ls1 [.int rv])) : W p l e R s m args below meth c H locs cells slots Q (F0 m 0 ls []) := by
  have hx := E.1.1
  have hb := E.1.2
  have hts := E.2.1
  have hq : q_relieve σ boat other = if (q_refused σ (k41t0_relieve σ boat other)) = 0 then ((lf_relieve_55 σ boat other 61 0 (0 : Int32) (s_refused σ (k41t0_relieve σ boat other))).1) else (0 : Int32) := rfl
  have hs : s_relieve σ boat other = if (q_refused σ (k41t0_relieve σ boat other)) = 0 then ((lf_relieve_55 σ boat other 61 0 (0 : Int32) (s_refused σ (k41t0_relieve σ boat other))).2) else (s_refused σ (k41t0_relieve σ boat other)) := rfl
  refine lv_aload_n hx hb dX6_relieve_0 rfl (lv_at hl 0 rfl) ?_
  refine lv_iload_n hx hb dX6_relieve_1 rfl (lv_at hl 1 rfl) ?_
  refine mcV_i E hml hP hS (c_isBoat l hA σ boat) (cwV 1 hts gX6_relieve_X6_isBoat rfl rfl rfl (by decide +kernel) ⟨Nat.le_trans (Nat.le_of_ble_eq_true rfl) hR.1, Nat.le_trans (Nat.le_of_ble_eq_true rfl) hR.2⟩) rfl hl.1 rfl (Nat.le_of_ble_eq_true rfl) dX6_relieve_2 hf (fun H locs hP hS => ?_)
  have J_1 : ∀ (y1_t0 : Int32) (H : Heap) (locs : List Loc) (ls : Array Slot), y1_t0 = (if (q_isBoat σ boat) = 0 then (0 : Int32) else (if (q_isBoat σ other) = 0 then (0 : Int32) else (1 : Int32))) → va_P D vwCl (mW cI cZ h σ) H → va_S A s.heap H locs → lv_has ls 7 [(0, .ref h), (1, .int boat), (2, .int other)] → W p l e R s m args below meth c H locs cells slots Q (F0 m 21 ls [.int y1_t0]) := by
    intro y1_t0 H locs ls e_y1_t0 hP hS hl
    subst e_y1_t0
    refine lv_istore_n (lv' := [(3, .int (if (q_isBoat σ boat) = 0 then (0 : Int32) else (if (q_isBoat σ other) = 0 then (0 : Int32) else (1 : Int32)))), (0, .ref h), (1, .int boat), (2, .int other)]) hx hb dX6_relieve_21 rfl hl (by decide) rfl (fun ls hl => ?_)
    refine lv_aload_n hx hb dX6_relieve_22 rfl (lv_at hl 1 rfl) ?_
    refine lv_iload_n hx hb dX6_relieve_23 rfl (lv_at hl 0 rfl) ?_
    have J_3 : ∀ (y3_t0 : Int32) (H : Heap) (locs : List Loc) (ls : Array Slot), y3_t0 = (k41t0_relieve σ boat other) → va_P D vwCl (mW cI cZ h σ) H → va_S A s.heap H locs → lv_has ls 7 [(3, .int (if (q_isBoat σ boat) = 0 then (0 : Int32) else (if (q_isBoat σ other) = 0 then (0 : Int32) else (1 : Int32)))), (0, .ref h), (1, .int boat), (2, .int other)] → W p l e R s m args below meth c H locs cells slots Q (F0 m 41 ls [.int y3_t0, .ref h]) := by
      intro y3_t0 H locs ls e_y3_t0 hP hS hl
      subst e_y3_t0
      refine mcV_i E hml hP hS (c_refused l hA σ (k41t0_relieve σ boat other)) (cwV 1 hts gX6_relieve_X6_refused rfl rfl rfl (by decide +kernel) ⟨Nat.le_trans (Nat.le_of_ble_eq_true rfl) hR.1, Nat.le_trans (Nat.le_of_ble_eq_true rfl) hR.2⟩) rfl hl.1 rfl (Nat.le_of_ble_eq_true rfl) dX6_relieve_41 hf (fun H locs hP hS => ?_)
      refine lv_if_eq (tgt := 49) hx hb dX6_relieve_44 (by decide) (fun c_5 => ?_) (fun c_5 => ?_)
      · have hq := hq.trans (if_pos c_5)
        have hs := hs.trans (if_pos c_5)
        have h_o := isBoat_in hI (rel_o c_5)
        refine lv_iconst (v := 0) hx hb dX6_relieve_49 (by decide) ?_
        refine lv_istore (lv' := [(4, .int (0 : Int32)), (3, .int (if (q_isBoat σ boat) = 0 then (0 : Int32) else (if (q_isBoat σ other) = 0 then (0 : Int32) else (1 : Int32)))), (0, .ref h), (1, .int boat), (2, .int other)]) hx hb dX6_relieve_50 hl (by decide) rfl (fun ls hl => ?_)
        refine lv_iconst (v := 0) hx hb dX6_relieve_52 (by decide) ?_
        refine lv_istore (lv' := [(5, .int (0 : Int32)), (4, .int (0 : Int32)), (3, .int (if (q_isBoat σ boat) = 0 then (0 : Int32) else (if (q_isBoat σ other) = 0 then (0 : Int32) else (1 : Int32)))), (0, .ref h), (1, .int boat), (2, .int other)]) hx hb dX6_relieve_53 hl (by decide) rfl (fun ls hl => ?_)
        obtain ⟨C, hC, eC⟩ := MI_n21 hI
        have L_11 : ∀ (n : Nat) (i : Nat) (x4 : Int32) (τ : St) (H : Heap) (locs : List Loc) (ls : Array Slot), i + n = 61 → i ≤ C → lf_relieve_55 σ boat other n i x4 τ = lf_relieve_55 σ boat other 61 0 (0 : Int32) (s_refused σ (k41t0_relieve σ boat other)) → MK σ τ → va_P D vwCl (mW cI cZ h τ) H → va_S A s.heap H locs → lv_has ls 7 [(5, .int (nI i)), (4, .int x4), (3, .int (if (q_isBoat σ boat) = 0 then (0 : Int32) else (if (q_isBoat σ other) = 0 then (0 : Int32) else (1 : Int32)))), (0, .ref h), (1, .int boat), (2, .int other)] → W p l e R s m args below meth c H locs cells slots Q (F0 m 55 ls []) := by
          intro n
          induction n with
          | zero => intro i x4 τ H locs ls hin hiC; omega
          | succ n ih =>
            intro i x4 τ H locs ls hin hiC hfin hKτ hP hS hl
            have hIτ := hKτ.1
            have eCτ := (MK_n21 hKτ).trans eC
            have hfin : (if (τ 21 0) ≤ (nI i) then (x4, τ) else (lf_relieve_55 σ boat other n (i + 1) (x4 + (if (if (τ 22 (nI i).toNatClampNeg) = 0 then (if (τ 23 (nI i).toNatClampNeg) = boat then (1 : Int32) else (0 : Int32)) else (0 : Int32)) = 0 then (0 : Int32) else (1 : Int32))) (st τ 23 (nI i).toNatClampNeg (if (if (τ 22 (nI i).toNatClampNeg) = 0 then (if (τ 23 (nI i).toNatClampNeg) = boat then (1 : Int32) else (0 : Int32)) else (0 : Int32)) = 0 then (τ 23 (nI i).toNatClampNeg) else other)))) = lf_relieve_55 σ boat other 61 0 (0 : Int32) (s_refused σ (k41t0_relieve σ boat other)) := hfin
            refine lv_iload hx hb dX6_relieve_55 (lv_at hl 0 rfl) ?_
            refine lv_aload_n hx hb dX6_relieve_57 rfl (lv_at hl 3 rfl) ?_
            refine mg_sailings E hP (by decide +kernel) dX6_relieve_58 ?_
            refine lv_icmp_ge (tgt := 136) hx hb dX6_relieve_61 (by decide) (fun c_6 => ?_) (fun c_6 => ?_)
            · have hfin := (if_pos c_6).symm.trans hfin
              have e_x4 : x4 = (lf_relieve_55 σ boat other 61 0 (0 : Int32) (s_refused σ (k41t0_relieve σ boat other))).1 := congrArg (fun z => z.1) hfin
              have e_τ : τ = (lf_relieve_55 σ boat other 61 0 (0 : Int32) (s_refused σ (k41t0_relieve σ boat other))).2 := congrArg (fun z => z.2) hfin
              clear hfin
              subst e_x4
              subst e_τ
              have hKR11 := hKτ
              have hl := lv_sub hl [1, 2, 3, 4, 5] rfl
              refine lv_iload hx hb dX6_relieve_136 (lv_at hl 0 rfl) ?_
              exact kr _ ((lf_relieve_55 σ boat other 61 0 (0 : Int32) (s_refused σ (k41t0_relieve σ boat other))).1) H locs ls dX6_relieve_138 hq.symm (by rw [hs]; exact hP) hS
            have hfin := (if_neg c_6).symm.trans hfin
            have hlt : i < C := m_lt eCτ c_6 (by omega) (by omega)
            refine lv_aload_n hx hb dX6_relieve_64 rfl (lv_at hl 3 rfl) ?_
            refine mg_state E hP (by decide +kernel) dX6_relieve_65 ?_
            refine lv_iload hx hb dX6_relieve_68 (lv_at hl 0 rfl) ?_
            refine ml_state E hP (vp_in_nI (n := i) (by omega) (by omega)) dX6_relieve_70 ?_
            have J_7 : ∀ (y7_t0 : Int32) (H : Heap) (locs : List Loc) (ls : Array Slot), y7_t0 = (if (τ 22 (nI i).toNatClampNeg) = 0 then (if (τ 23 (nI i).toNatClampNeg) = boat then (1 : Int32) else (0 : Int32)) else (0 : Int32)) → va_P D vwCl (mW cI cZ h τ) H → va_S A s.heap H locs → lv_has ls 7 [(5, .int (nI i)), (4, .int x4), (3, .int (if (q_isBoat σ boat) = 0 then (0 : Int32) else (if (q_isBoat σ other) = 0 then (0 : Int32) else (1 : Int32)))), (0, .ref h), (1, .int boat), (2, .int other)] → W p l e R s m args below meth c H locs cells slots Q (F0 m 90 ls [.int y7_t0]) := by
              intro y7_t0 H locs ls e_y7_t0 hP hS hl
              subst e_y7_t0
              refine lv_istore (lv' := [(6, .int (if (τ 22 (nI i).toNatClampNeg) = 0 then (if (τ 23 (nI i).toNatClampNeg) = boat then (1 : Int32) else (0 : Int32)) else (0 : Int32))), (5, .int (nI i)), (4, .int x4), (3, .int (if (q_isBoat σ boat) = 0 then (0 : Int32) else (if (q_isBoat σ other) = 0 then (0 : Int32) else (1 : Int32)))), (0, .ref h), (1, .int boat), (2, .int other)]) hx hb dX6_relieve_90 hl (by decide) rfl (fun ls hl => ?_)
              refine lv_aload_n hx hb dX6_relieve_92 rfl (lv_at hl 4 rfl) ?_
              refine mg_boatOf E hP (by decide +kernel) dX6_relieve_93 ?_
              refine lv_iload hx hb dX6_relieve_96 (lv_at hl 1 rfl) ?_
              refine lv_iload hx hb dX6_relieve_98 (lv_at hl 0 rfl) ?_
              have J_9 : ∀ (y9_t0 : Int32) (H : Heap) (locs : List Loc) (ls : Array Slot), y9_t0 = (if (if (τ 22 (nI i).toNatClampNeg) = 0 then (if (τ 23 (nI i).toNatClampNeg) = boat then (1 : Int32) else (0 : Int32)) else (0 : Int32)) = 0 then (τ 23 (nI i).toNatClampNeg) else other) → va_P D vwCl (mW cI cZ h τ) H → va_S A s.heap H locs → lv_has ls 7 [(6, .int (if (τ 22 (nI i).toNatClampNeg) = 0 then (if (τ 23 (nI i).toNatClampNeg) = boat then (1 : Int32) else (0 : Int32)) else (0 : Int32))), (5, .int (nI i)), (4, .int x4), (3, .int (if (q_isBoat σ boat) = 0 then (0 : Int32) else (if (q_isBoat σ other) = 0 then (0 : Int32) else (1 : Int32)))), (0, .ref h), (1, .int boat), (2, .int other)] → W p l e R s m args below meth c H locs cells slots Q (F0 m 114 ls [.int y9_t0, .int (nI i), .ref (h + 19)]) := by
                intro y9_t0 H locs ls e_y9_t0 hP hS hl
                subst e_y9_t0
                refine ms_boatOf E hP hA hS (vp_in_nI (n := i) (by omega) (by omega)) dX6_relieve_114 (fun H locs hP hS => ?_)
                refine lv_iload hx hb dX6_relieve_115 (lv_at hl 2 rfl) ?_
                refine lv_iload hx hb dX6_relieve_117 (lv_at hl 0 rfl) ?_
                have J_10 : ∀ (y10_t0 : Int32) (H : Heap) (locs : List Loc) (ls : Array Slot), y10_t0 = (if (if (τ 22 (nI i).toNatClampNeg) = 0 then (if (τ 23 (nI i).toNatClampNeg) = boat then (1 : Int32) else (0 : Int32)) else (0 : Int32)) = 0 then (0 : Int32) else (1 : Int32)) → va_P D vwCl (mW cI cZ h (st τ 23 (nI i).toNatClampNeg (if (if (τ 22 (nI i).toNatClampNeg) = 0 then (if (τ 23 (nI i).toNatClampNeg) = boat then (1 : Int32) else (0 : Int32)) else (0 : Int32)) = 0 then (τ 23 (nI i).toNatClampNeg) else other))) H → va_S A s.heap H locs → lv_has ls 7 [(6, .int (if (τ 22 (nI i).toNatClampNeg) = 0 then (if (τ 23 (nI i).toNatClampNeg) = boat then (1 : Int32) else (0 : Int32)) else (0 : Int32))), (5, .int (nI i)), (4, .int x4), (3, .int (if (q_isBoat σ boat) = 0 then (0 : Int32) else (if (q_isBoat σ other) = 0 then (0 : Int32) else (1 : Int32)))), (0, .ref h), (1, .int boat), (2, .int other)] → W p l e R s m args below meth c H locs cells slots Q (F0 m 127 ls [.int y10_t0, .int x4]) := by
                  intro y10_t0 H locs ls e_y10_t0 hP hS hl
                  subst e_y10_t0
                  refine lv_iadd hx hb dX6_relieve_127 ?_
                  refine lv_istore (lv' := [(4, .int (x4 + (if (if (τ 22 (nI i).toNatClampNeg) = 0 then (if (τ 23 (nI i).toNatClampNeg) = boat then (1 : Int32) else (0 : Int32)) else (0 : Int32)) = 0 then (0 : Int32) else (1 : Int32)))), (6, .int (if (τ 22 (nI i).toNatClampNeg) = 0 then (if (τ 23 (nI i).toNatClampNeg) = boat then (1 : Int32) else (0 : Int32)) else (0 : Int32))), (5, .int (nI i)), (3, .int (if (q_isBoat σ boat) = 0 then (0 : Int32) else (if (q_isBoat σ other) = 0 then (0 : Int32) else (1 : Int32)))), (0, .ref h), (1, .int boat), (2, .int other)]) hx hb dX6_relieve_128 hl (by decide) rfl (fun ls hl => ?_)
                  refine lv_iinc (v := nI (i + 1)) (lv' := [(5, .int (nI (i + 1))), (4, .int (x4 + (if (if (τ 22 (nI i).toNatClampNeg) = 0 then (if (τ 23 (nI i).toNatClampNeg) = boat then (1 : Int32) else (0 : Int32)) else (0 : Int32)) = 0 then (0 : Int32) else (1 : Int32)))), (6, .int (if (τ 22 (nI i).toNatClampNeg) = 0 then (if (τ 23 (nI i).toNatClampNeg) = boat then (1 : Int32) else (0 : Int32)) else (0 : Int32))), (3, .int (if (q_isBoat σ boat) = 0 then (0 : Int32) else (if (q_isBoat σ other) = 0 then (0 : Int32) else (1 : Int32)))), (0, .ref h), (1, .int boat), (2, .int other)]) hx hb dX6_relieve_130 hl (k := 2) rfl (by first | rfl | exact nI_1 _) (by decide) rfl (fun ls hl => ?_)
                  refine lv_goto (tgt := 55) hx hb dX6_relieve_133 (by decide) ?_
                  exact ih (i + 1) (x4 + (if (if (τ 22 (nI i).toNatClampNeg) = 0 then (if (τ 23 (nI i).toNatClampNeg) = boat then (1 : Int32) else (0 : Int32)) else (0 : Int32)) = 0 then (0 : Int32) else (1 : Int32))) (st τ 23 (nI i).toNatClampNeg (if (if (τ 22 (nI i).toNatClampNeg) = 0 then (if (τ 23 (nI i).toNatClampNeg) = boat then (1 : Int32) else (0 : Int32)) else (0 : Int32)) = 0 then (τ 23 (nI i).toNatClampNeg) else other)) H locs ls (by omega) (by omega) hfin (MK_s hKτ (MI_s23 hKτ.1 (in_if (MI_bo hIτ _) h_o)) (by decide)) hP hS (lv_sub hl [0, 1, 3, 4, 5, 6] rfl)
                refine lv_if_eq (tgt := 126) hx hb dX6_relieve_119 (by decide) (fun c_10 => ?_) (fun c_10 => ?_)
                · refine lv_iconst (v := 0) hx hb dX6_relieve_126 (by decide) ?_
                  exact J_10 (0 : Int32) H locs ls (if_pos c_10).symm hP hS (lv_sub hl [0, 1, 2, 3, 4, 5, 6] rfl)
                refine lv_iconst (v := 1) hx hb dX6_relieve_122 (by decide) ?_
                refine lv_goto (tgt := 127) hx hb dX6_relieve_123 (by decide) ?_
                exact J_10 (1 : Int32) H locs ls (if_neg c_10).symm hP hS (lv_sub hl [0, 1, 2, 3, 4, 5, 6] rfl)
              refine lv_if_eq (tgt := 107) hx hb dX6_relieve_100 (by decide) (fun c_9 => ?_) (fun c_9 => ?_)
              · refine lv_aload_n hx hb dX6_relieve_107 rfl (lv_at hl 4 rfl) ?_
                refine mg_boatOf E hP (by decide +kernel) dX6_relieve_108 ?_
                refine lv_iload hx hb dX6_relieve_111 (lv_at hl 1 rfl) ?_
                refine ml_boatOf E hP (vp_in_nI (n := i) (by omega) (by omega)) dX6_relieve_113 ?_
                exact J_9 (τ 23 (nI i).toNatClampNeg) H locs ls (if_pos c_9).symm hP hS (lv_sub hl [0, 1, 2, 3, 4, 5, 6] rfl)
              refine lv_iload_n hx hb dX6_relieve_103 rfl (lv_at hl 6 rfl) ?_
              refine lv_goto (tgt := 114) hx hb dX6_relieve_104 (by decide) ?_
              exact J_9 other H locs ls (if_neg c_9).symm hP hS (lv_sub hl [0, 1, 2, 3, 4, 5, 6] rfl)
            refine lv_if_ne (tgt := 89) hx hb dX6_relieve_71 (by decide) (fun c_7 => ?_) (fun c_7 => ?_)
            · refine lv_iconst (v := 0) hx hb dX6_relieve_89 (by decide) ?_
              exact J_7 (0 : Int32) H locs ls (if_neg c_7).symm hP hS (lv_sub hl [0, 1, 2, 3, 4, 5] rfl)
            refine lv_aload_n hx hb dX6_relieve_74 rfl (lv_at hl 3 rfl) ?_
            refine mg_boatOf E hP (by decide +kernel) dX6_relieve_75 ?_
            refine lv_iload hx hb dX6_relieve_78 (lv_at hl 0 rfl) ?_
            refine ml_boatOf E hP (vp_in_nI (n := i) (by omega) (by omega)) dX6_relieve_80 ?_
            refine lv_iload_n hx hb dX6_relieve_81 rfl (lv_at hl 4 rfl) ?_
            refine lv_icmp_ne (tgt := 89) hx hb dX6_relieve_82 (by decide) (fun c_8 => ?_) (fun c_8 => ?_)
            · refine lv_iconst (v := 0) hx hb dX6_relieve_89 (by decide) ?_
              exact J_7 (0 : Int32) H locs ls ((if_neg c_8).symm.trans (if_pos c_7).symm) hP hS (lv_sub hl [0, 1, 2, 3, 4, 5] rfl)
            refine lv_iconst (v := 1) hx hb dX6_relieve_85 (by decide) ?_
            refine lv_goto (tgt := 90) hx hb dX6_relieve_86 (by decide) ?_
            exact J_7 (1 : Int32) H locs ls ((if_pos c_8).symm.trans (if_pos c_7).symm) hP hS (lv_sub hl [0, 1, 2, 3, 4, 5] rfl)
        exact L_11 61 0 (0 : Int32) (s_refused σ (k41t0_relieve σ boat other)) H locs ls (by omega) (Nat.zero_le _) rfl (MK_trans (MK_refl hI) (MK_s_refused (MK_refl hI).1)) hP hS (lv_sub hl [0, 1, 2, 3, 4, 5] rfl)
      have hq := hq.trans (if_neg c_5)
      have hs := hs.trans (if_neg c_5)
      refine lv_iconst (v := 0) hx hb dX6_relieve_47 (by decide) ?_
      exact kr _ (0 : Int32) H locs ls dX6_relieve_48 hq.symm (by rw [hs]; exact hP) hS
    refine lv_if_ne (tgt := 31) hx hb dX6_relieve_24 (by decide) (fun c_3 => ?_) (fun c_3 => ?_)
    · refine lv_iload_n hx hb dX6_relieve_31 rfl (lv_at hl 2 rfl) ?_
      refine lv_iload_n hx hb dX6_relieve_32 rfl (lv_at hl 3 rfl) ?_
      refine lv_icmp_ne (tgt := 40) hx hb dX6_relieve_33 (by decide) (fun c_4 => ?_) (fun c_4 => ?_)
      · refine lv_iconst (v := 0) hx hb dX6_relieve_40 (by decide) ?_
        exact J_3 (0 : Int32) H locs ls ((if_neg c_4).symm.trans (if_neg c_3).symm) hP hS (lv_sub hl [0, 1, 2, 3] rfl)
      refine lv_iconst (v := 2) hx hb dX6_relieve_36 (by decide) ?_
      refine lv_goto (tgt := 41) hx hb dX6_relieve_37 (by decide) ?_
      exact J_3 (2 : Int32) H locs ls ((if_pos c_4).symm.trans (if_neg c_3).symm) hP hS (lv_sub hl [0, 1, 2, 3] rfl)
    refine lv_iconst (v := 1) hx hb dX6_relieve_27 (by decide) ?_
    refine lv_goto (tgt := 41) hx hb dX6_relieve_28 (by decide) ?_
    exact J_3 (1 : Int32) H locs ls (if_pos c_3).symm hP hS (lv_sub hl [0, 1, 2, 3] rfl)
  refine lv_if_eq (tgt := 20) hx hb dX6_relieve_5 (by decide) (fun c_1 => ?_) (fun c_1 => ?_)
  · refine lv_iconst (v := 0) hx hb dX6_relieve_20 (by decide) ?_
    exact J_1 (0 : Int32) H locs ls (if_pos c_1).symm hP hS (lv_sub hl [0, 1, 2] rfl)
  refine lv_aload_n hx hb dX6_relieve_8 rfl (lv_at hl 0 rfl) ?_
  refine lv_iload_n hx hb dX6_relieve_9 rfl (lv_at hl 2 rfl) ?_
  refine mcV_i E hml hP hS (c_isBoat l hA σ other) (cwV 1 hts gX6_relieve_X6_isBoat rfl rfl rfl (by decide +kernel) ⟨Nat.le_trans (Nat.le_of_ble_eq_true rfl) hR.1, Nat.le_trans (Nat.le_of_ble_eq_true rfl) hR.2⟩) rfl hl.1 rfl (Nat.le_of_ble_eq_true rfl) dX6_relieve_10 hf (fun H locs hP hS => ?_)
  refine lv_if_eq (tgt := 20) hx hb dX6_relieve_13 (by decide) (fun c_2 => ?_) (fun c_2 => ?_)
  · refine lv_iconst (v := 0) hx hb dX6_relieve_20 (by decide) ?_
    exact J_1 (0 : Int32) H locs ls ((if_pos c_2).symm.trans (if_neg c_1).symm) hP hS (lv_sub hl [0, 1, 2] rfl)
  refine lv_iconst (v := 1) hx hb dX6_relieve_16 (by decide) ?_
  refine lv_goto (tgt := 21) hx hb dX6_relieve_17 (by decide) ?_
  exact J_1 (1 : Int32) H locs ls ((if_neg c_2).symm.trans (if_neg c_1).symm) hP hS (lv_sub hl [0, 1, 2] rfl)
set_option maxHeartbeats 1000000 in
set_option maxRecDepth 100000 in
theorem c_relieve (l : Launch) {D : va_G} {A : Nat → Prop} {cI cZ : ClassId} {h : Nat} (hA : ∀ i, i < 44 → A (h + i)) (σ : St) (boat : Int32) (other : Int32) (hI : MI σ) : Met l yX6_relieve wsX6_relieve ({ frames := 2, cells := 0, slots := 0, locals := 43 }) (va_Pc [.ref h, .int boat, .int other] (mU D cI cZ h σ)) (va_Qi (fun r (_ : Unit) => r = q_relieve σ boat other) (fun _ t => mU D cI cZ h (s_relieve σ boat other) t) A) 0 0 A := by
  refine Met.ofW (cc := cX6_relieve) (maxL := 7) (ret := (some .int)) (by decide) rfl ?_
  intro p e s m args below meth c s₁ B hml hv
  obtain ⟨rfl, hP, hK⟩ := hv
  have E : mE p c cX6_relieve s m ([.ref h, .int boat, .int other] : List Value).toArray wsX6_relieve D cI cZ := ⟨⟨B.exec, B.bytes⟩, atoms_spec (ws := wsX6_relieve) B.pre, (by decide +kernel), findClass_of_methodNamed B.named, hK⟩
  have hr := B.returns
  have hlocks := B.notSynchronized
  have hl := lv_entry ([.ref h, .int boat, .int other]) (n := 7) (Nat.le_of_ble_eq_true rfl)
  rw [lg_entry_eq]
  generalize (lg_sl ([.ref h, .int boat, .int other]) ++ List.replicate (7 - (lg_sl ([.ref h, .int boat, .int other])).length) Slot.unset).toArray = ls at hl ⊢
  refine w_relieve σ boat other hI E hml hA ⟨Nat.le_of_ble_eq_true rfl, Nat.le_of_ble_eq_true rfl⟩ ⟨Nat.zero_le _, Nat.zero_le _⟩ hP va_S.rf hl (fun pc v H1 locs1 ls1 hd hv hP1 hS1 => ?_)
  exact W.iret (v := v) B.exec B.bytes hr (fun t ht hW => ⟨⟨v, (), rfl, hv, by rw [ht]; exact hP1, va_K.moved hW.alike hK⟩, hS1.F ht⟩) hS1.2.2 hd
def k29t0_sailing (σ : St) (boat : Int32) (from_ : Int32) (to_ : Int32) (ahead : Int32) (duration : Int32) (lifeline : Int32) : Int32 := if (q_isBoat σ boat) = 0 then (0 : Int32) else (if (q_isPier σ from_) = 0 then (0 : Int32) else (if (q_isPier σ to_) = 0 then (0 : Int32) else (1 : Int32)))
def k65t0_sailing (σ : St) (boat : Int32) (from_ : Int32) (to_ : Int32) (ahead : Int32) (duration : Int32) (lifeline : Int32) : Int32 := if from_ = to_ then (0 : Int32) else (if (q_in ahead (1 : Int32) (20000 : Int32)) = 0 then (0 : Int32) else (if (q_in duration (1 : Int32) (700 : Int32)) = 0 then (0 : Int32) else (1 : Int32)))
def k100t0_sailing (σ : St) (boat : Int32) (from_ : Int32) (to_ : Int32) (ahead : Int32) (duration : Int32) (lifeline : Int32) : Int32 := if (k29t0_sailing σ boat from_ to_ ahead duration lifeline) = 0 then (1 : Int32) else (if (k65t0_sailing σ boat from_ to_ ahead duration lifeline) = 0 then (2 : Int32) else (if (σ 21 0) = (60 : Int32) then (3 : Int32) else (0 : Int32)))
def q_sailing (σ : St) (boat : Int32) (from_ : Int32) (to_ : Int32) (ahead : Int32) (duration : Int32) (lifeline : Int32) : Int32 := if (q_refused σ (k100t0_sailing σ boat from_ to_ ahead duration lifeline)) = 0 then (((σ 21 0) + (1 : Int32)) - (1 : Int32)) else (0 : Int32)
def s_sailing (σ : St) (boat : Int32) (from_ : Int32) (to_ : Int32) (ahead : Int32) (duration : Int32) (lifeline : Int32) : St := if (q_refused σ (k100t0_sailing σ boat from_ to_ ahead duration lifeline)) = 0 then (st (st (st (st (st (st (st (s_refused σ (k100t0_sailing σ boat from_ to_ ahead duration lifeline)) 23 (σ 21 0).toNatClampNeg boat) 24 (σ 21 0).toNatClampNeg from_) 25 (σ 21 0).toNatClampNeg to_) 26 (σ 21 0).toNatClampNeg ((σ 1 0) + ahead)) 27 (σ 21 0).toNatClampNeg duration) 28 (σ 21 0).toNatClampNeg (vp_nar .boolean lifeline)) 21 0 ((σ 21 0) + (1 : Int32))) else (s_refused σ (k100t0_sailing σ boat from_ to_ ahead duration lifeline))
theorem sailing_in {σ : St} {a b c d e f : Int32} (hI : MI σ) (z : (q_refused σ (k100t0_sailing σ a b c d e f)) = 0) : vp_in (σ 21 0) 60 := rng_in (by omega) hI.1.2.2.1 (ifn (by decide) (ifz (by decide) (ifz (by decide) (rf0 z)).2).2).1
set_option maxHeartbeats 1000000 in
set_option maxRecDepth 100000 in
theorem w_sailing {p : Program} {l : Launch} {e : Env} {R : Room} {s : State} {m : MethodId} {args : Array Value} {below : List Frame} {meth : Method} {c : Code} {H : Heap} {locs : List Loc} {cells slots : Nat} {Q : State → Prop} {D : va_G} {A : Nat → Prop} {cI cZ : ClassId} {h : Nat} {ls : Array Slot} (σ : St) (boat : Int32) (from_ : Int32) (to_ : Int32) (ahead : Int32) (duration : Int32) (lifeline : Int32) (hI : MI σ) (E : mE p c cX6_sailing s m args wsX6_sailing D cI cZ) (hml : c.maxLocals = 9) (hA : ∀ i, i < 44 → A (h + i)) (hR : 2 ≤ R.frames ∧ 43 ≤ R.locals) (hf : cells ≤ R.cells ∧ slots ≤ R.slots) (hP : va_P D vwCl (mW cI cZ h σ) H) (hS : va_S A s.heap H locs) (hl : lv_has ls 9 [(0, .ref h), (1, .int boat), (2, .int from_), (3, .int to_), (4, .int ahead), (5, .int duration), (6, .int lifeline)]) (kr : ∀ (pc : Nat) (rv : Int32) (H1 : Heap) (locs1 : List Loc) (ls1 : Array Slot), decode cX6_sailing pc = .ok (.ireturn, 1) → rv = q_sailing σ boat from_ to_ ahead duration lifeline → va_P D vwCl (mW cI cZ h (s_sailing σ boat from_ to_ ahead duration lifeline)) H1 → va_S A s.heap H1 locs1 → W p l e R s m args below meth c H1 locs1 cells slots Q (F0 m pc ls1 [.int rv])) : W p l e R s m args below meth c H locs cells slots Q (F0 m 0 ls []) := by
  have hx := E.1.1
  have hb := E.1.2
  have hts := E.2.1
  have hq : q_sailing σ boat from_ to_ ahead duration lifeline = if (q_refused σ (k100t0_sailing σ boat from_ to_ ahead duration lifeline)) = 0 then (((σ 21 0) + (1 : Int32)) - (1 : Int32)) else (0 : Int32) := rfl
  have hs : s_sailing σ boat from_ to_ ahead duration lifeline = if (q_refused σ (k100t0_sailing σ boat from_ to_ ahead duration lifeline)) = 0 then (st (st (st (st (st (st (st (s_refused σ (k100t0_sailing σ boat from_ to_ ahead duration lifeline)) 23 (σ 21 0).toNatClampNeg boat) 24 (σ 21 0).toNatClampNeg from_) 25 (σ 21 0).toNatClampNeg to_) 26 (σ 21 0).toNatClampNeg ((σ 1 0) + ahead)) 27 (σ 21 0).toNatClampNeg duration) 28 (σ 21 0).toNatClampNeg (vp_nar .boolean lifeline)) 21 0 ((σ 21 0) + (1 : Int32))) else (s_refused σ (k100t0_sailing σ boat from_ to_ ahead duration lifeline)) := rfl
  refine lv_aload_n hx hb dX6_sailing_0 rfl (lv_at hl 0 rfl) ?_
  refine lv_iload_n hx hb dX6_sailing_1 rfl (lv_at hl 1 rfl) ?_
  refine mcV_i E hml hP hS (c_isBoat l hA σ boat) (cwV 1 hts gX6_sailing_X6_isBoat rfl rfl rfl (by decide +kernel) ⟨Nat.le_trans (Nat.le_of_ble_eq_true rfl) hR.1, Nat.le_trans (Nat.le_of_ble_eq_true rfl) hR.2⟩) rfl hl.1 rfl (Nat.le_of_ble_eq_true rfl) dX6_sailing_2 hf (fun H locs hP hS => ?_)
  have J_1 : ∀ (y1_t0 : Int32) (H : Heap) (locs : List Loc) (ls : Array Slot), y1_t0 = (k29t0_sailing σ boat from_ to_ ahead duration lifeline) → va_P D vwCl (mW cI cZ h σ) H → va_S A s.heap H locs → lv_has ls 9 [(0, .ref h), (1, .int boat), (2, .int from_), (3, .int to_), (4, .int ahead), (5, .int duration), (6, .int lifeline)] → W p l e R s m args below meth c H locs cells slots Q (F0 m 29 ls [.int y1_t0]) := by
    intro y1_t0 H locs ls e_y1_t0 hP hS hl
    subst e_y1_t0
    refine lv_istore (lv' := [(7, .int (k29t0_sailing σ boat from_ to_ ahead duration lifeline)), (0, .ref h), (1, .int boat), (2, .int from_), (3, .int to_), (4, .int ahead), (5, .int duration), (6, .int lifeline)]) hx hb dX6_sailing_29 hl (by decide) rfl (fun ls hl => ?_)
    refine lv_iload_n hx hb dX6_sailing_31 rfl (lv_at hl 3 rfl) ?_
    refine lv_iload_n hx hb dX6_sailing_32 rfl (lv_at hl 4 rfl) ?_
    have J_4 : ∀ (y4_t0 : Int32) (H : Heap) (locs : List Loc) (ls : Array Slot), y4_t0 = (k65t0_sailing σ boat from_ to_ ahead duration lifeline) → va_P D vwCl (mW cI cZ h σ) H → va_S A s.heap H locs → lv_has ls 9 [(7, .int (k29t0_sailing σ boat from_ to_ ahead duration lifeline)), (0, .ref h), (1, .int boat), (2, .int from_), (3, .int to_), (4, .int ahead), (5, .int duration), (6, .int lifeline)] → W p l e R s m args below meth c H locs cells slots Q (F0 m 65 ls [.int y4_t0]) := by
      intro y4_t0 H locs ls e_y4_t0 hP hS hl
      subst e_y4_t0
      refine lv_istore (lv' := [(8, .int (k65t0_sailing σ boat from_ to_ ahead duration lifeline)), (7, .int (k29t0_sailing σ boat from_ to_ ahead duration lifeline)), (0, .ref h), (1, .int boat), (2, .int from_), (3, .int to_), (4, .int ahead), (5, .int duration), (6, .int lifeline)]) hx hb dX6_sailing_65 hl (by decide) rfl (fun ls hl => ?_)
      refine lv_aload_n hx hb dX6_sailing_67 rfl (lv_at hl 2 rfl) ?_
      refine lv_iload hx hb dX6_sailing_68 (lv_at hl 1 rfl) ?_
      have J_7 : ∀ (y7_t0 : Int32) (H : Heap) (locs : List Loc) (ls : Array Slot), y7_t0 = (k100t0_sailing σ boat from_ to_ ahead duration lifeline) → va_P D vwCl (mW cI cZ h σ) H → va_S A s.heap H locs → lv_has ls 9 [(8, .int (k65t0_sailing σ boat from_ to_ ahead duration lifeline)), (7, .int (k29t0_sailing σ boat from_ to_ ahead duration lifeline)), (0, .ref h), (1, .int boat), (2, .int from_), (3, .int to_), (4, .int ahead), (5, .int duration), (6, .int lifeline)] → W p l e R s m args below meth c H locs cells slots Q (F0 m 100 ls [.int y7_t0, .ref h]) := by
        intro y7_t0 H locs ls e_y7_t0 hP hS hl
        subst e_y7_t0
        refine mcV_i E hml hP hS (c_refused l hA σ (k100t0_sailing σ boat from_ to_ ahead duration lifeline)) (cwV 1 hts gX6_sailing_X6_refused rfl rfl rfl (by decide +kernel) ⟨Nat.le_trans (Nat.le_of_ble_eq_true rfl) hR.1, Nat.le_trans (Nat.le_of_ble_eq_true rfl) hR.2⟩) rfl hl.1 rfl (Nat.le_of_ble_eq_true rfl) dX6_sailing_100 hf (fun H locs hP hS => ?_)
        refine lv_if_eq (tgt := 108) hx hb dX6_sailing_103 (by decide) (fun c_10 => ?_) (fun c_10 => ?_)
        · have hq := hq.trans (if_pos c_10)
          have hs := hs.trans (if_pos c_10)
          have h_cnt := sailing_in hI c_10
          refine lv_aload_n hx hb dX6_sailing_108 rfl (lv_at hl 2 rfl) ?_
          refine mg_boatOf E hP (by decide +kernel) dX6_sailing_109 ?_
          refine lv_aload_n hx hb dX6_sailing_112 rfl (lv_at hl 2 rfl) ?_
          refine mgv_sailings E hP (v := σ 21 0) rfl (by decide +kernel) dX6_sailing_113 ?_
          refine lv_iload_n hx hb dX6_sailing_116 rfl (lv_at hl 3 rfl) ?_
          refine ms_boatOf E hP hA hS h_cnt dX6_sailing_117 (fun H locs hP hS => ?_)
          refine lv_aload_n hx hb dX6_sailing_118 rfl (lv_at hl 2 rfl) ?_
          refine mg_from E hP (by decide +kernel) dX6_sailing_119 ?_
          refine lv_aload_n hx hb dX6_sailing_122 rfl (lv_at hl 2 rfl) ?_
          refine mgv_sailings E hP (v := σ 21 0) rfl (by decide +kernel) dX6_sailing_123 ?_
          refine lv_iload_n hx hb dX6_sailing_126 rfl (lv_at hl 4 rfl) ?_
          refine ms_from E hP hA hS h_cnt dX6_sailing_127 (fun H locs hP hS => ?_)
          refine lv_aload_n hx hb dX6_sailing_128 rfl (lv_at hl 2 rfl) ?_
          refine mg_to E hP (by decide +kernel) dX6_sailing_129 ?_
          refine lv_aload_n hx hb dX6_sailing_132 rfl (lv_at hl 2 rfl) ?_
          refine mgv_sailings E hP (v := σ 21 0) rfl (by decide +kernel) dX6_sailing_133 ?_
          refine lv_iload_n hx hb dX6_sailing_136 rfl (lv_at hl 5 rfl) ?_
          refine ms_to E hP hA hS h_cnt dX6_sailing_137 (fun H locs hP hS => ?_)
          refine lv_aload_n hx hb dX6_sailing_138 rfl (lv_at hl 2 rfl) ?_
          refine mg_departs E hP (by decide +kernel) dX6_sailing_139 ?_
          refine lv_aload_n hx hb dX6_sailing_142 rfl (lv_at hl 2 rfl) ?_
          refine mgv_sailings E hP (v := σ 21 0) rfl (by decide +kernel) dX6_sailing_143 ?_
          refine lv_aload_n hx hb dX6_sailing_146 rfl (lv_at hl 2 rfl) ?_
          refine mgv_now E hP (v := σ 1 0) rfl (by decide +kernel) dX6_sailing_147 ?_
          refine lv_iload hx hb dX6_sailing_150 (lv_at hl 6 rfl) ?_
          refine lv_iadd hx hb dX6_sailing_152 ?_
          refine ms_departs E hP hA hS h_cnt dX6_sailing_153 (fun H locs hP hS => ?_)
          refine lv_aload_n hx hb dX6_sailing_154 rfl (lv_at hl 2 rfl) ?_
          refine mg_takes E hP (by decide +kernel) dX6_sailing_155 ?_
          refine lv_aload_n hx hb dX6_sailing_158 rfl (lv_at hl 2 rfl) ?_
          refine mgv_sailings E hP (v := σ 21 0) rfl (by decide +kernel) dX6_sailing_159 ?_
          refine lv_iload hx hb dX6_sailing_162 (lv_at hl 7 rfl) ?_
          refine ms_takes E hP hA hS h_cnt dX6_sailing_164 (fun H locs hP hS => ?_)
          refine lv_aload_n hx hb dX6_sailing_165 rfl (lv_at hl 2 rfl) ?_
          refine mg_isLifeline E hP (by decide +kernel) dX6_sailing_166 ?_
          refine lv_aload_n hx hb dX6_sailing_169 rfl (lv_at hl 2 rfl) ?_
          refine mgv_sailings E hP (v := σ 21 0) rfl (by decide +kernel) dX6_sailing_170 ?_
          refine lv_iload hx hb dX6_sailing_173 (lv_at hl 8 rfl) ?_
          refine ms_isLifeline E hP hA hS h_cnt dX6_sailing_175 (fun H locs hP hS => ?_)
          refine lv_aload_n hx hb dX6_sailing_176 rfl (lv_at hl 2 rfl) ?_
          refine lv_dup hx hb dX6_sailing_177 rfl ?_
          refine mgv_sailings E hP (v := σ 21 0) rfl (by decide +kernel) dX6_sailing_178 ?_
          refine lv_iconst (v := 1) hx hb dX6_sailing_181 (by decide) ?_
          refine lv_iadd hx hb dX6_sailing_182 ?_
          refine mp_sailings E hP hA hS (by decide +kernel) dX6_sailing_183 (fun H locs hP hS => ?_)
          refine lv_aload_n hx hb dX6_sailing_186 rfl (lv_at hl 2 rfl) ?_
          refine mgv_sailings E hP (v := ((σ 21 0) + (1 : Int32))) rfl (by decide +kernel) dX6_sailing_187 ?_
          refine lv_iconst (v := 1) hx hb dX6_sailing_190 (by decide) ?_
          refine lv_isub hx hb dX6_sailing_191 ?_
          exact kr _ (((σ 21 0) + (1 : Int32)) - (1 : Int32)) H locs ls dX6_sailing_192 hq.symm (by rw [hs]; exact hP) hS
        have hq := hq.trans (if_neg c_10)
        have hs := hs.trans (if_neg c_10)
        refine lv_iconst (v := 0) hx hb dX6_sailing_106 (by decide) ?_
        exact kr _ (0 : Int32) H locs ls dX6_sailing_107 hq.symm (by rw [hs]; exact hP) hS
      refine lv_if_ne (tgt := 77) hx hb dX6_sailing_70 (by decide) (fun c_7 => ?_) (fun c_7 => ?_)
      · refine lv_iload hx hb dX6_sailing_77 (lv_at hl 0 rfl) ?_
        refine lv_if_ne (tgt := 86) hx hb dX6_sailing_79 (by decide) (fun c_8 => ?_) (fun c_8 => ?_)
        · refine lv_aload_n hx hb dX6_sailing_86 rfl (lv_at hl 2 rfl) ?_
          refine mg_sailings E hP (by decide +kernel) dX6_sailing_87 ?_
          refine lv_bipush (v := 60) hx hb dX6_sailing_90 (by decide) ?_
          refine lv_icmp_ne (tgt := 99) hx hb dX6_sailing_92 (by decide) (fun c_9 => ?_) (fun c_9 => ?_)
          · refine lv_iconst (v := 0) hx hb dX6_sailing_99 (by decide) ?_
            exact J_7 (0 : Int32) H locs ls ((if_neg c_9).symm.trans ((if_neg c_8).symm.trans (if_neg c_7).symm)) hP hS (lv_sub hl [0, 1, 2, 3, 4, 5, 6, 7, 8] rfl)
          refine lv_iconst (v := 3) hx hb dX6_sailing_95 (by decide) ?_
          refine lv_goto (tgt := 100) hx hb dX6_sailing_96 (by decide) ?_
          exact J_7 (3 : Int32) H locs ls ((if_pos c_9).symm.trans ((if_neg c_8).symm.trans (if_neg c_7).symm)) hP hS (lv_sub hl [0, 1, 2, 3, 4, 5, 6, 7, 8] rfl)
        refine lv_iconst (v := 2) hx hb dX6_sailing_82 (by decide) ?_
        refine lv_goto (tgt := 100) hx hb dX6_sailing_83 (by decide) ?_
        exact J_7 (2 : Int32) H locs ls ((if_pos c_8).symm.trans (if_neg c_7).symm) hP hS (lv_sub hl [0, 1, 2, 3, 4, 5, 6, 7, 8] rfl)
      refine lv_iconst (v := 1) hx hb dX6_sailing_73 (by decide) ?_
      refine lv_goto (tgt := 100) hx hb dX6_sailing_74 (by decide) ?_
      exact J_7 (1 : Int32) H locs ls (if_pos c_7).symm hP hS (lv_sub hl [0, 1, 2, 3, 4, 5, 6, 7, 8] rfl)
    refine lv_icmp_eq (tgt := 64) hx hb dX6_sailing_33 (by decide) (fun c_4 => ?_) (fun c_4 => ?_)
    · refine lv_iconst (v := 0) hx hb dX6_sailing_64 (by decide) ?_
      exact J_4 (0 : Int32) H locs ls (if_pos c_4).symm hP hS (lv_sub hl [0, 1, 2, 3, 4, 5, 6, 7] rfl)
    refine lv_iload hx hb dX6_sailing_36 (lv_at hl 5 rfl) ?_
    refine lv_iconst (v := 1) hx hb dX6_sailing_38 (by decide) ?_
    refine lv_sipush (v := 20000) hx hb dX6_sailing_39 (by decide) ?_
    refine mcS_i E hml hP hS (c_in l hA σ ahead (1 : Int32) (20000 : Int32)) (va_cwS 3 hts gX6_sailing_X6_in rfl rfl rfl (by decide +kernel) ⟨Nat.le_trans (Nat.le_of_ble_eq_true rfl) hR.1, Nat.le_trans (Nat.le_of_ble_eq_true rfl) hR.2⟩) rfl hl.1 rfl (Nat.le_of_ble_eq_true rfl) dX6_sailing_42 hf (fun H locs hP hS => ?_)
    refine lv_if_eq (tgt := 64) hx hb dX6_sailing_45 (by decide) (fun c_5 => ?_) (fun c_5 => ?_)
    · refine lv_iconst (v := 0) hx hb dX6_sailing_64 (by decide) ?_
      exact J_4 (0 : Int32) H locs ls ((if_pos c_5).symm.trans (if_neg c_4).symm) hP hS (lv_sub hl [0, 1, 2, 3, 4, 5, 6, 7] rfl)
    refine lv_iload hx hb dX6_sailing_48 (lv_at hl 6 rfl) ?_
    refine lv_iconst (v := 1) hx hb dX6_sailing_50 (by decide) ?_
    refine lv_sipush (v := 700) hx hb dX6_sailing_51 (by decide) ?_
    refine mcS_i E hml hP hS (c_in l hA σ duration (1 : Int32) (700 : Int32)) (va_cwS 3 hts gX6_sailing_X6_in rfl rfl rfl (by decide +kernel) ⟨Nat.le_trans (Nat.le_of_ble_eq_true rfl) hR.1, Nat.le_trans (Nat.le_of_ble_eq_true rfl) hR.2⟩) rfl hl.1 rfl (Nat.le_of_ble_eq_true rfl) dX6_sailing_54 hf (fun H locs hP hS => ?_)
    refine lv_if_eq (tgt := 64) hx hb dX6_sailing_57 (by decide) (fun c_6 => ?_) (fun c_6 => ?_)
    · refine lv_iconst (v := 0) hx hb dX6_sailing_64 (by decide) ?_
      exact J_4 (0 : Int32) H locs ls ((if_pos c_6).symm.trans ((if_neg c_5).symm.trans (if_neg c_4).symm)) hP hS (lv_sub hl [0, 1, 2, 3, 4, 5, 6, 7] rfl)
    refine lv_iconst (v := 1) hx hb dX6_sailing_60 (by decide) ?_
    refine lv_goto (tgt := 65) hx hb dX6_sailing_61 (by decide) ?_
    exact J_4 (1 : Int32) H locs ls ((if_neg c_6).symm.trans ((if_neg c_5).symm.trans (if_neg c_4).symm)) hP hS (lv_sub hl [0, 1, 2, 3, 4, 5, 6, 7] rfl)
  refine lv_if_eq (tgt := 28) hx hb dX6_sailing_5 (by decide) (fun c_1 => ?_) (fun c_1 => ?_)
  · refine lv_iconst (v := 0) hx hb dX6_sailing_28 (by decide) ?_
    exact J_1 (0 : Int32) H locs ls (if_pos c_1).symm hP hS (lv_sub hl [0, 1, 2, 3, 4, 5, 6] rfl)
  refine lv_aload_n hx hb dX6_sailing_8 rfl (lv_at hl 0 rfl) ?_
  refine lv_iload_n hx hb dX6_sailing_9 rfl (lv_at hl 2 rfl) ?_
  refine mcV_i E hml hP hS (c_isPier l hA σ from_) (cwV 1 hts gX6_sailing_X6_isPier rfl rfl rfl (by decide +kernel) ⟨Nat.le_trans (Nat.le_of_ble_eq_true rfl) hR.1, Nat.le_trans (Nat.le_of_ble_eq_true rfl) hR.2⟩) rfl hl.1 rfl (Nat.le_of_ble_eq_true rfl) dX6_sailing_10 hf (fun H locs hP hS => ?_)
  refine lv_if_eq (tgt := 28) hx hb dX6_sailing_13 (by decide) (fun c_2 => ?_) (fun c_2 => ?_)
  · refine lv_iconst (v := 0) hx hb dX6_sailing_28 (by decide) ?_
    exact J_1 (0 : Int32) H locs ls ((if_pos c_2).symm.trans (if_neg c_1).symm) hP hS (lv_sub hl [0, 1, 2, 3, 4, 5, 6] rfl)
  refine lv_aload_n hx hb dX6_sailing_16 rfl (lv_at hl 0 rfl) ?_
  refine lv_iload_n hx hb dX6_sailing_17 rfl (lv_at hl 3 rfl) ?_
  refine mcV_i E hml hP hS (c_isPier l hA σ to_) (cwV 1 hts gX6_sailing_X6_isPier rfl rfl rfl (by decide +kernel) ⟨Nat.le_trans (Nat.le_of_ble_eq_true rfl) hR.1, Nat.le_trans (Nat.le_of_ble_eq_true rfl) hR.2⟩) rfl hl.1 rfl (Nat.le_of_ble_eq_true rfl) dX6_sailing_18 hf (fun H locs hP hS => ?_)
  refine lv_if_eq (tgt := 28) hx hb dX6_sailing_21 (by decide) (fun c_3 => ?_) (fun c_3 => ?_)
  · refine lv_iconst (v := 0) hx hb dX6_sailing_28 (by decide) ?_
    exact J_1 (0 : Int32) H locs ls ((if_pos c_3).symm.trans ((if_neg c_2).symm.trans (if_neg c_1).symm)) hP hS (lv_sub hl [0, 1, 2, 3, 4, 5, 6] rfl)
  refine lv_iconst (v := 1) hx hb dX6_sailing_24 (by decide) ?_
  refine lv_goto (tgt := 29) hx hb dX6_sailing_25 (by decide) ?_
  exact J_1 (1 : Int32) H locs ls ((if_neg c_3).symm.trans ((if_neg c_2).symm.trans (if_neg c_1).symm)) hP hS (lv_sub hl [0, 1, 2, 3, 4, 5, 6] rfl)
set_option maxHeartbeats 1000000 in
set_option maxRecDepth 100000 in
theorem c_sailing (l : Launch) {D : va_G} {A : Nat → Prop} {cI cZ : ClassId} {h : Nat} (hA : ∀ i, i < 44 → A (h + i)) (σ : St) (boat : Int32) (from_ : Int32) (to_ : Int32) (ahead : Int32) (duration : Int32) (lifeline : Int32) (hI : MI σ) : Met l yX6_sailing wsX6_sailing ({ frames := 2, cells := 0, slots := 0, locals := 43 }) (va_Pc [.ref h, .int boat, .int from_, .int to_, .int ahead, .int duration, .int lifeline] (mU D cI cZ h σ)) (va_Qi (fun r (_ : Unit) => r = q_sailing σ boat from_ to_ ahead duration lifeline) (fun _ t => mU D cI cZ h (s_sailing σ boat from_ to_ ahead duration lifeline) t) A) 0 0 A := by
  refine Met.ofW (cc := cX6_sailing) (maxL := 9) (ret := (some .int)) (by decide) rfl ?_
  intro p e s m args below meth c s₁ B hml hv
  obtain ⟨rfl, hP, hK⟩ := hv
  have E : mE p c cX6_sailing s m ([.ref h, .int boat, .int from_, .int to_, .int ahead, .int duration, .int lifeline] : List Value).toArray wsX6_sailing D cI cZ := ⟨⟨B.exec, B.bytes⟩, atoms_spec (ws := wsX6_sailing) B.pre, (by decide +kernel), findClass_of_methodNamed B.named, hK⟩
  have hr := B.returns
  have hlocks := B.notSynchronized
  have hl := lv_entry ([.ref h, .int boat, .int from_, .int to_, .int ahead, .int duration, .int lifeline]) (n := 9) (Nat.le_of_ble_eq_true rfl)
  rw [lg_entry_eq]
  generalize (lg_sl ([.ref h, .int boat, .int from_, .int to_, .int ahead, .int duration, .int lifeline]) ++ List.replicate (9 - (lg_sl ([.ref h, .int boat, .int from_, .int to_, .int ahead, .int duration, .int lifeline])).length) Slot.unset).toArray = ls at hl ⊢
  refine w_sailing σ boat from_ to_ ahead duration lifeline hI E hml hA ⟨Nat.le_of_ble_eq_true rfl, Nat.le_of_ble_eq_true rfl⟩ ⟨Nat.zero_le _, Nat.zero_le _⟩ hP va_S.rf hl (fun pc v H1 locs1 ls1 hd hv hP1 hS1 => ?_)
  exact W.iret (v := v) B.exec B.bytes hr (fun t ht hW => ⟨⟨v, (), rfl, hv, by rw [ht]; exact hP1, va_K.moved hW.alike hK⟩, hS1.F ht⟩) hS1.2.2 hd
def k61t0_book (σ : St) (sailing : Int32) (kind : Int32) (length : Int32) (weight : Int32) (danger : Int32) (urgent : Int32) (lorry : Int32) : Int32 := if (q_in length (1 : Int32) (30 : Int32)) = 0 then (0 : Int32) else (if (q_in weight (1 : Int32) (1000 : Int32)) = 0 then (0 : Int32) else (if (q_in danger (0 : Int32) (3 : Int32)) = 0 then (0 : Int32) else (1 : Int32)))
def k105t0_book (σ : St) (sailing : Int32) (kind : Int32) (length : Int32) (weight : Int32) (danger : Int32) (urgent : Int32) (lorry : Int32) : Int32 := if (if (q_isSailing σ sailing) = 0 then (0 : Int32) else (if (q_in kind (0 : Int32) (2 : Int32)) = 0 then (0 : Int32) else (1 : Int32))) = 0 then (1 : Int32) else (if (k61t0_book σ sailing kind length weight danger urgent lorry) = 0 then (2 : Int32) else (if (σ 34 0) = (100 : Int32) then (3 : Int32) else (if (σ 22 sailing.toNatClampNeg) = 0 then (0 : Int32) else (3 : Int32))))
def q_book (σ : St) (sailing : Int32) (kind : Int32) (length : Int32) (weight : Int32) (danger : Int32) (urgent : Int32) (lorry : Int32) : Int32 := if (q_refused σ (k105t0_book σ sailing kind length weight danger urgent lorry)) = 0 then (((σ 34 0) + (1 : Int32)) - (1 : Int32)) else (0 : Int32)
def s_book (σ : St) (sailing : Int32) (kind : Int32) (length : Int32) (weight : Int32) (danger : Int32) (urgent : Int32) (lorry : Int32) : St := if (q_refused σ (k105t0_book σ sailing kind length weight danger urgent lorry)) = 0 then (st (st (st (st (st (st (st (st (st (s_refused σ (k105t0_book σ sailing kind length weight danger urgent lorry)) 36 (σ 34 0).toNatClampNeg sailing) 37 (σ 34 0).toNatClampNeg kind) 38 (σ 34 0).toNatClampNeg length) 39 (σ 34 0).toNatClampNeg weight) 40 (σ 34 0).toNatClampNeg danger) 41 (σ 34 0).toNatClampNeg (vp_nar .boolean urgent)) 42 (σ 34 0).toNatClampNeg (vp_nar .boolean lorry)) 45 (σ 34 0).toNatClampNeg ((-1) : Int32)) 34 0 ((σ 34 0) + (1 : Int32))) else (s_refused σ (k105t0_book σ sailing kind length weight danger urgent lorry))
theorem book_s {A B : Int32} (c : ¬ (if A = 0 then (0 : Int32) else (if B = 0 then (0 : Int32) else (1 : Int32))) = 0) : ¬ A = 0 := (ifa c).1
theorem book_in {σ : St} {a b c d e f g : Int32} (hI : MI σ) (z : (q_refused σ (k105t0_book σ a b c d e f g)) = 0) : vp_in (σ 34 0) 100 := rng_in (by omega) hI.1.2.2.2 (ifn (by decide) (ifz (by decide) (ifz (by decide) (rf0 z)).2).2).1
set_option maxHeartbeats 1000000 in
set_option maxRecDepth 100000 in
theorem w_book {p : Program} {l : Launch} {e : Env} {R : Room} {s : State} {m : MethodId} {args : Array Value} {below : List Frame} {meth : Method} {c : Code} {H : Heap} {locs : List Loc} {cells slots : Nat} {Q : State → Prop} {D : va_G} {A : Nat → Prop} {cI cZ : ClassId} {h : Nat} {ls : Array Slot} (σ : St) (sailing : Int32) (kind : Int32) (length : Int32) (weight : Int32) (danger : Int32) (urgent : Int32) (lorry : Int32) (hI : MI σ) (E : mE p c cX6_book s m args wsX6_book D cI cZ) (hml : c.maxLocals = 10) (hA : ∀ i, i < 44 → A (h + i)) (hR : 2 ≤ R.frames ∧ 43 ≤ R.locals) (hf : cells ≤ R.cells ∧ slots ≤ R.slots) (hP : va_P D vwCl (mW cI cZ h σ) H) (hS : va_S A s.heap H locs) (hl : lv_has ls 10 [(0, .ref h), (1, .int sailing), (2, .int kind), (3, .int length), (4, .int weight), (5, .int danger), (6, .int urgent), (7, .int lorry)]) (kr : ∀ (pc : Nat) (rv : Int32) (H1 : Heap) (locs1 : List Loc) (ls1 : Array Slot), decode cX6_book pc = .ok (.ireturn, 1) → rv = q_book σ sailing kind length weight danger urgent lorry → va_P D vwCl (mW cI cZ h (s_book σ sailing kind length weight danger urgent lorry)) H1 → va_S A s.heap H1 locs1 → W p l e R s m args below meth c H1 locs1 cells slots Q (F0 m pc ls1 [.int rv])) : W p l e R s m args below meth c H locs cells slots Q (F0 m 0 ls []) := by
  have hx := E.1.1
  have hb := E.1.2
  have hts := E.2.1
  have hq : q_book σ sailing kind length weight danger urgent lorry = if (q_refused σ (k105t0_book σ sailing kind length weight danger urgent lorry)) = 0 then (((σ 34 0) + (1 : Int32)) - (1 : Int32)) else (0 : Int32) := rfl
  have hs : s_book σ sailing kind length weight danger urgent lorry = if (q_refused σ (k105t0_book σ sailing kind length weight danger urgent lorry)) = 0 then (st (st (st (st (st (st (st (st (st (s_refused σ (k105t0_book σ sailing kind length weight danger urgent lorry)) 36 (σ 34 0).toNatClampNeg sailing) 37 (σ 34 0).toNatClampNeg kind) 38 (σ 34 0).toNatClampNeg length) 39 (σ 34 0).toNatClampNeg weight) 40 (σ 34 0).toNatClampNeg danger) 41 (σ 34 0).toNatClampNeg (vp_nar .boolean urgent)) 42 (σ 34 0).toNatClampNeg (vp_nar .boolean lorry)) 45 (σ 34 0).toNatClampNeg ((-1) : Int32)) 34 0 ((σ 34 0) + (1 : Int32))) else (s_refused σ (k105t0_book σ sailing kind length weight danger urgent lorry)) := rfl
  refine lv_aload_n hx hb dX6_book_0 rfl (lv_at hl 0 rfl) ?_
  refine lv_iload_n hx hb dX6_book_1 rfl (lv_at hl 1 rfl) ?_
  refine mcV_i E hml hP hS (c_isSailing l hA σ sailing) (cwV 1 hts gX6_book_X6_isSailing rfl rfl rfl (by decide +kernel) ⟨Nat.le_trans (Nat.le_of_ble_eq_true rfl) hR.1, Nat.le_trans (Nat.le_of_ble_eq_true rfl) hR.2⟩) rfl hl.1 rfl (Nat.le_of_ble_eq_true rfl) dX6_book_2 hf (fun H locs hP hS => ?_)
  have J_1 : ∀ (y1_t0 : Int32) (H : Heap) (locs : List Loc) (ls : Array Slot), y1_t0 = (if (q_isSailing σ sailing) = 0 then (0 : Int32) else (if (q_in kind (0 : Int32) (2 : Int32)) = 0 then (0 : Int32) else (1 : Int32))) → va_P D vwCl (mW cI cZ h σ) H → va_S A s.heap H locs → lv_has ls 10 [(0, .ref h), (1, .int sailing), (2, .int kind), (3, .int length), (4, .int weight), (5, .int danger), (6, .int urgent), (7, .int lorry)] → W p l e R s m args below meth c H locs cells slots Q (F0 m 22 ls [.int y1_t0]) := by
    intro y1_t0 H locs ls e_y1_t0 hP hS hl
    subst e_y1_t0
    refine lv_istore (lv' := [(8, .int (if (q_isSailing σ sailing) = 0 then (0 : Int32) else (if (q_in kind (0 : Int32) (2 : Int32)) = 0 then (0 : Int32) else (1 : Int32)))), (0, .ref h), (1, .int sailing), (2, .int kind), (3, .int length), (4, .int weight), (5, .int danger), (6, .int urgent), (7, .int lorry)]) hx hb dX6_book_22 hl (by decide) rfl (fun ls hl => ?_)
    refine lv_iload_n hx hb dX6_book_24 rfl (lv_at hl 4 rfl) ?_
    refine lv_iconst (v := 1) hx hb dX6_book_25 (by decide) ?_
    refine lv_bipush (v := 30) hx hb dX6_book_26 (by decide) ?_
    refine mcS_i E hml hP hS (c_in l hA σ length (1 : Int32) (30 : Int32)) (va_cwS 3 hts gX6_book_X6_in rfl rfl rfl (by decide +kernel) ⟨Nat.le_trans (Nat.le_of_ble_eq_true rfl) hR.1, Nat.le_trans (Nat.le_of_ble_eq_true rfl) hR.2⟩) rfl hl.1 rfl (Nat.le_of_ble_eq_true rfl) dX6_book_28 hf (fun H locs hP hS => ?_)
    have J_3 : ∀ (y3_t0 : Int32) (H : Heap) (locs : List Loc) (ls : Array Slot), y3_t0 = (k61t0_book σ sailing kind length weight danger urgent lorry) → va_P D vwCl (mW cI cZ h σ) H → va_S A s.heap H locs → lv_has ls 10 [(8, .int (if (q_isSailing σ sailing) = 0 then (0 : Int32) else (if (q_in kind (0 : Int32) (2 : Int32)) = 0 then (0 : Int32) else (1 : Int32)))), (0, .ref h), (1, .int sailing), (2, .int kind), (3, .int length), (4, .int weight), (5, .int danger), (6, .int urgent), (7, .int lorry)] → W p l e R s m args below meth c H locs cells slots Q (F0 m 61 ls [.int y3_t0]) := by
      intro y3_t0 H locs ls e_y3_t0 hP hS hl
      subst e_y3_t0
      refine lv_istore (lv' := [(9, .int (k61t0_book σ sailing kind length weight danger urgent lorry)), (8, .int (if (q_isSailing σ sailing) = 0 then (0 : Int32) else (if (q_in kind (0 : Int32) (2 : Int32)) = 0 then (0 : Int32) else (1 : Int32)))), (0, .ref h), (1, .int sailing), (2, .int kind), (3, .int length), (4, .int weight), (5, .int danger), (6, .int urgent), (7, .int lorry)]) hx hb dX6_book_61 hl (by decide) rfl (fun ls hl => ?_)
      refine lv_aload_n hx hb dX6_book_63 rfl (lv_at hl 2 rfl) ?_
      refine lv_iload hx hb dX6_book_64 (lv_at hl 1 rfl) ?_
      have J_6 : ∀ (y6_t0 : Int32) (H : Heap) (locs : List Loc) (ls : Array Slot), y6_t0 = (k105t0_book σ sailing kind length weight danger urgent lorry) → va_P D vwCl (mW cI cZ h σ) H → va_S A s.heap H locs → lv_has ls 10 [(9, .int (k61t0_book σ sailing kind length weight danger urgent lorry)), (8, .int (if (q_isSailing σ sailing) = 0 then (0 : Int32) else (if (q_in kind (0 : Int32) (2 : Int32)) = 0 then (0 : Int32) else (1 : Int32)))), (0, .ref h), (1, .int sailing), (2, .int kind), (3, .int length), (4, .int weight), (5, .int danger), (6, .int urgent), (7, .int lorry)] → W p l e R s m args below meth c H locs cells slots Q (F0 m 105 ls [.int y6_t0, .ref h]) := by
        intro y6_t0 H locs ls e_y6_t0 hP hS hl
        subst e_y6_t0
        refine mcV_i E hml hP hS (c_refused l hA σ (k105t0_book σ sailing kind length weight danger urgent lorry)) (cwV 1 hts gX6_book_X6_refused rfl rfl rfl (by decide +kernel) ⟨Nat.le_trans (Nat.le_of_ble_eq_true rfl) hR.1, Nat.le_trans (Nat.le_of_ble_eq_true rfl) hR.2⟩) rfl hl.1 rfl (Nat.le_of_ble_eq_true rfl) dX6_book_105 hf (fun H locs hP hS => ?_)
        refine lv_if_eq (tgt := 113) hx hb dX6_book_108 (by decide) (fun c_10 => ?_) (fun c_10 => ?_)
        · have hq := hq.trans (if_pos c_10)
          have hs := hs.trans (if_pos c_10)
          have h_cnt := book_in hI c_10
          refine lv_aload_n hx hb dX6_book_113 rfl (lv_at hl 2 rfl) ?_
          refine mg_on E hP (by decide +kernel) dX6_book_114 ?_
          refine lv_aload_n hx hb dX6_book_117 rfl (lv_at hl 2 rfl) ?_
          refine mgv_bookings E hP (v := σ 34 0) rfl (by decide +kernel) dX6_book_118 ?_
          refine lv_iload_n hx hb dX6_book_121 rfl (lv_at hl 3 rfl) ?_
          refine ms_on E hP hA hS h_cnt dX6_book_122 (fun H locs hP hS => ?_)
          refine lv_aload_n hx hb dX6_book_123 rfl (lv_at hl 2 rfl) ?_
          refine mg_kindOf E hP (by decide +kernel) dX6_book_124 ?_
          refine lv_aload_n hx hb dX6_book_127 rfl (lv_at hl 2 rfl) ?_
          refine mgv_bookings E hP (v := σ 34 0) rfl (by decide +kernel) dX6_book_128 ?_
          refine lv_iload_n hx hb dX6_book_131 rfl (lv_at hl 4 rfl) ?_
          refine ms_kindOf E hP hA hS h_cnt dX6_book_132 (fun H locs hP hS => ?_)
          refine lv_aload_n hx hb dX6_book_133 rfl (lv_at hl 2 rfl) ?_
          refine mg_length E hP (by decide +kernel) dX6_book_134 ?_
          refine lv_aload_n hx hb dX6_book_137 rfl (lv_at hl 2 rfl) ?_
          refine mgv_bookings E hP (v := σ 34 0) rfl (by decide +kernel) dX6_book_138 ?_
          refine lv_iload_n hx hb dX6_book_141 rfl (lv_at hl 5 rfl) ?_
          refine ms_length E hP hA hS h_cnt dX6_book_142 (fun H locs hP hS => ?_)
          refine lv_aload_n hx hb dX6_book_143 rfl (lv_at hl 2 rfl) ?_
          refine mg_weight E hP (by decide +kernel) dX6_book_144 ?_
          refine lv_aload_n hx hb dX6_book_147 rfl (lv_at hl 2 rfl) ?_
          refine mgv_bookings E hP (v := σ 34 0) rfl (by decide +kernel) dX6_book_148 ?_
          refine lv_iload hx hb dX6_book_151 (lv_at hl 6 rfl) ?_
          refine ms_weight E hP hA hS h_cnt dX6_book_153 (fun H locs hP hS => ?_)
          refine lv_aload_n hx hb dX6_book_154 rfl (lv_at hl 2 rfl) ?_
          refine mg_danger E hP (by decide +kernel) dX6_book_155 ?_
          refine lv_aload_n hx hb dX6_book_158 rfl (lv_at hl 2 rfl) ?_
          refine mgv_bookings E hP (v := σ 34 0) rfl (by decide +kernel) dX6_book_159 ?_
          refine lv_iload hx hb dX6_book_162 (lv_at hl 7 rfl) ?_
          refine ms_danger E hP hA hS h_cnt dX6_book_164 (fun H locs hP hS => ?_)
          refine lv_aload_n hx hb dX6_book_165 rfl (lv_at hl 2 rfl) ?_
          refine mg_isUrgent E hP (by decide +kernel) dX6_book_166 ?_
          refine lv_aload_n hx hb dX6_book_169 rfl (lv_at hl 2 rfl) ?_
          refine mgv_bookings E hP (v := σ 34 0) rfl (by decide +kernel) dX6_book_170 ?_
          refine lv_iload hx hb dX6_book_173 (lv_at hl 8 rfl) ?_
          refine ms_isUrgent E hP hA hS h_cnt dX6_book_175 (fun H locs hP hS => ?_)
          refine lv_aload_n hx hb dX6_book_176 rfl (lv_at hl 2 rfl) ?_
          refine mg_isLorry E hP (by decide +kernel) dX6_book_177 ?_
          refine lv_aload_n hx hb dX6_book_180 rfl (lv_at hl 2 rfl) ?_
          refine mgv_bookings E hP (v := σ 34 0) rfl (by decide +kernel) dX6_book_181 ?_
          refine lv_iload hx hb dX6_book_184 (lv_at hl 9 rfl) ?_
          refine ms_isLorry E hP hA hS h_cnt dX6_book_186 (fun H locs hP hS => ?_)
          refine lv_aload_n hx hb dX6_book_187 rfl (lv_at hl 2 rfl) ?_
          refine mg_side E hP (by decide +kernel) dX6_book_188 ?_
          refine lv_aload_n hx hb dX6_book_191 rfl (lv_at hl 2 rfl) ?_
          refine mgv_bookings E hP (v := σ 34 0) rfl (by decide +kernel) dX6_book_192 ?_
          refine lv_iconst (v := -1) hx hb dX6_book_195 (by decide) ?_
          refine ms_side E hP hA hS h_cnt dX6_book_196 (fun H locs hP hS => ?_)
          refine lv_aload_n hx hb dX6_book_197 rfl (lv_at hl 2 rfl) ?_
          refine lv_dup hx hb dX6_book_198 rfl ?_
          refine mgv_bookings E hP (v := σ 34 0) rfl (by decide +kernel) dX6_book_199 ?_
          refine lv_iconst (v := 1) hx hb dX6_book_202 (by decide) ?_
          refine lv_iadd hx hb dX6_book_203 ?_
          refine mp_bookings E hP hA hS (by decide +kernel) dX6_book_204 (fun H locs hP hS => ?_)
          refine lv_aload_n hx hb dX6_book_207 rfl (lv_at hl 2 rfl) ?_
          refine mgv_bookings E hP (v := ((σ 34 0) + (1 : Int32))) rfl (by decide +kernel) dX6_book_208 ?_
          refine lv_iconst (v := 1) hx hb dX6_book_211 (by decide) ?_
          refine lv_isub hx hb dX6_book_212 ?_
          exact kr _ (((σ 34 0) + (1 : Int32)) - (1 : Int32)) H locs ls dX6_book_213 hq.symm (by rw [hs]; exact hP) hS
        have hq := hq.trans (if_neg c_10)
        have hs := hs.trans (if_neg c_10)
        refine lv_iconst (v := 0) hx hb dX6_book_111 (by decide) ?_
        exact kr _ (0 : Int32) H locs ls dX6_book_112 hq.symm (by rw [hs]; exact hP) hS
      refine lv_if_ne (tgt := 73) hx hb dX6_book_66 (by decide) (fun c_6 => ?_) (fun c_6 => ?_)
      · refine lv_iload hx hb dX6_book_73 (lv_at hl 0 rfl) ?_
        refine lv_if_ne (tgt := 82) hx hb dX6_book_75 (by decide) (fun c_7 => ?_) (fun c_7 => ?_)
        · refine lv_aload_n hx hb dX6_book_82 rfl (lv_at hl 2 rfl) ?_
          refine mg_bookings E hP (by decide +kernel) dX6_book_83 ?_
          refine lv_bipush (v := 100) hx hb dX6_book_86 (by decide) ?_
          refine lv_icmp_eq (tgt := 100) hx hb dX6_book_88 (by decide) (fun c_8 => ?_) (fun c_8 => ?_)
          · refine lv_iconst (v := 3) hx hb dX6_book_100 (by decide) ?_
            refine lv_goto (tgt := 105) hx hb dX6_book_101 (by decide) ?_
            exact J_6 (3 : Int32) H locs ls ((if_pos c_8).symm.trans ((if_neg c_7).symm.trans (if_neg c_6).symm)) hP hS (lv_sub hl [0, 1, 2, 3, 4, 5, 6, 7, 8, 9] rfl)
          refine lv_aload_n hx hb dX6_book_91 rfl (lv_at hl 2 rfl) ?_
          refine mg_state E hP (by decide +kernel) dX6_book_92 ?_
          refine lv_iload_n hx hb dX6_book_95 rfl (lv_at hl 3 rfl) ?_
          refine ml_state E hP (isSailing_in hI (book_s (by assumption))) dX6_book_96 ?_
          refine lv_if_eq (tgt := 104) hx hb dX6_book_97 (by decide) (fun c_9 => ?_) (fun c_9 => ?_)
          · refine lv_iconst (v := 0) hx hb dX6_book_104 (by decide) ?_
            exact J_6 (0 : Int32) H locs ls ((if_pos c_9).symm.trans ((if_neg c_8).symm.trans ((if_neg c_7).symm.trans (if_neg c_6).symm))) hP hS (lv_sub hl [0, 1, 2, 3, 4, 5, 6, 7, 8, 9] rfl)
          refine lv_iconst (v := 3) hx hb dX6_book_100 (by decide) ?_
          refine lv_goto (tgt := 105) hx hb dX6_book_101 (by decide) ?_
          exact J_6 (3 : Int32) H locs ls ((if_neg c_9).symm.trans ((if_neg c_8).symm.trans ((if_neg c_7).symm.trans (if_neg c_6).symm))) hP hS (lv_sub hl [0, 1, 2, 3, 4, 5, 6, 7, 8, 9] rfl)
        refine lv_iconst (v := 2) hx hb dX6_book_78 (by decide) ?_
        refine lv_goto (tgt := 105) hx hb dX6_book_79 (by decide) ?_
        exact J_6 (2 : Int32) H locs ls ((if_pos c_7).symm.trans (if_neg c_6).symm) hP hS (lv_sub hl [0, 1, 2, 3, 4, 5, 6, 7, 8, 9] rfl)
      refine lv_iconst (v := 1) hx hb dX6_book_69 (by decide) ?_
      refine lv_goto (tgt := 105) hx hb dX6_book_70 (by decide) ?_
      exact J_6 (1 : Int32) H locs ls (if_pos c_6).symm hP hS (lv_sub hl [0, 1, 2, 3, 4, 5, 6, 7, 8, 9] rfl)
    refine lv_if_eq (tgt := 60) hx hb dX6_book_31 (by decide) (fun c_3 => ?_) (fun c_3 => ?_)
    · refine lv_iconst (v := 0) hx hb dX6_book_60 (by decide) ?_
      exact J_3 (0 : Int32) H locs ls (if_pos c_3).symm hP hS (lv_sub hl [0, 1, 2, 3, 4, 5, 6, 7, 8] rfl)
    refine lv_iload hx hb dX6_book_34 (lv_at hl 5 rfl) ?_
    refine lv_iconst (v := 1) hx hb dX6_book_36 (by decide) ?_
    refine lv_sipush (v := 1000) hx hb dX6_book_37 (by decide) ?_
    refine mcS_i E hml hP hS (c_in l hA σ weight (1 : Int32) (1000 : Int32)) (va_cwS 3 hts gX6_book_X6_in rfl rfl rfl (by decide +kernel) ⟨Nat.le_trans (Nat.le_of_ble_eq_true rfl) hR.1, Nat.le_trans (Nat.le_of_ble_eq_true rfl) hR.2⟩) rfl hl.1 rfl (Nat.le_of_ble_eq_true rfl) dX6_book_40 hf (fun H locs hP hS => ?_)
    refine lv_if_eq (tgt := 60) hx hb dX6_book_43 (by decide) (fun c_4 => ?_) (fun c_4 => ?_)
    · refine lv_iconst (v := 0) hx hb dX6_book_60 (by decide) ?_
      exact J_3 (0 : Int32) H locs ls ((if_pos c_4).symm.trans (if_neg c_3).symm) hP hS (lv_sub hl [0, 1, 2, 3, 4, 5, 6, 7, 8] rfl)
    refine lv_iload hx hb dX6_book_46 (lv_at hl 6 rfl) ?_
    refine lv_iconst (v := 0) hx hb dX6_book_48 (by decide) ?_
    refine lv_iconst (v := 3) hx hb dX6_book_49 (by decide) ?_
    refine mcS_i E hml hP hS (c_in l hA σ danger (0 : Int32) (3 : Int32)) (va_cwS 3 hts gX6_book_X6_in rfl rfl rfl (by decide +kernel) ⟨Nat.le_trans (Nat.le_of_ble_eq_true rfl) hR.1, Nat.le_trans (Nat.le_of_ble_eq_true rfl) hR.2⟩) rfl hl.1 rfl (Nat.le_of_ble_eq_true rfl) dX6_book_50 hf (fun H locs hP hS => ?_)
    refine lv_if_eq (tgt := 60) hx hb dX6_book_53 (by decide) (fun c_5 => ?_) (fun c_5 => ?_)
    · refine lv_iconst (v := 0) hx hb dX6_book_60 (by decide) ?_
      exact J_3 (0 : Int32) H locs ls ((if_pos c_5).symm.trans ((if_neg c_4).symm.trans (if_neg c_3).symm)) hP hS (lv_sub hl [0, 1, 2, 3, 4, 5, 6, 7, 8] rfl)
    refine lv_iconst (v := 1) hx hb dX6_book_56 (by decide) ?_
    refine lv_goto (tgt := 61) hx hb dX6_book_57 (by decide) ?_
    exact J_3 (1 : Int32) H locs ls ((if_neg c_5).symm.trans ((if_neg c_4).symm.trans (if_neg c_3).symm)) hP hS (lv_sub hl [0, 1, 2, 3, 4, 5, 6, 7, 8] rfl)
  refine lv_if_eq (tgt := 21) hx hb dX6_book_5 (by decide) (fun c_1 => ?_) (fun c_1 => ?_)
  · refine lv_iconst (v := 0) hx hb dX6_book_21 (by decide) ?_
    exact J_1 (0 : Int32) H locs ls (if_pos c_1).symm hP hS (lv_sub hl [0, 1, 2, 3, 4, 5, 6, 7] rfl)
  refine lv_iload_n hx hb dX6_book_8 rfl (lv_at hl 2 rfl) ?_
  refine lv_iconst (v := 0) hx hb dX6_book_9 (by decide) ?_
  refine lv_iconst (v := 2) hx hb dX6_book_10 (by decide) ?_
  refine mcS_i E hml hP hS (c_in l hA σ kind (0 : Int32) (2 : Int32)) (va_cwS 3 hts gX6_book_X6_in rfl rfl rfl (by decide +kernel) ⟨Nat.le_trans (Nat.le_of_ble_eq_true rfl) hR.1, Nat.le_trans (Nat.le_of_ble_eq_true rfl) hR.2⟩) rfl hl.1 rfl (Nat.le_of_ble_eq_true rfl) dX6_book_11 hf (fun H locs hP hS => ?_)
  refine lv_if_eq (tgt := 21) hx hb dX6_book_14 (by decide) (fun c_2 => ?_) (fun c_2 => ?_)
  · refine lv_iconst (v := 0) hx hb dX6_book_21 (by decide) ?_
    exact J_1 (0 : Int32) H locs ls ((if_pos c_2).symm.trans (if_neg c_1).symm) hP hS (lv_sub hl [0, 1, 2, 3, 4, 5, 6, 7] rfl)
  refine lv_iconst (v := 1) hx hb dX6_book_17 (by decide) ?_
  refine lv_goto (tgt := 22) hx hb dX6_book_18 (by decide) ?_
  exact J_1 (1 : Int32) H locs ls ((if_neg c_2).symm.trans (if_neg c_1).symm) hP hS (lv_sub hl [0, 1, 2, 3, 4, 5, 6, 7] rfl)
set_option maxHeartbeats 1000000 in
set_option maxRecDepth 100000 in
theorem c_book (l : Launch) {D : va_G} {A : Nat → Prop} {cI cZ : ClassId} {h : Nat} (hA : ∀ i, i < 44 → A (h + i)) (σ : St) (sailing : Int32) (kind : Int32) (length : Int32) (weight : Int32) (danger : Int32) (urgent : Int32) (lorry : Int32) (hI : MI σ) : Met l yX6_book wsX6_book ({ frames := 2, cells := 0, slots := 0, locals := 43 }) (va_Pc [.ref h, .int sailing, .int kind, .int length, .int weight, .int danger, .int urgent, .int lorry] (mU D cI cZ h σ)) (va_Qi (fun r (_ : Unit) => r = q_book σ sailing kind length weight danger urgent lorry) (fun _ t => mU D cI cZ h (s_book σ sailing kind length weight danger urgent lorry) t) A) 0 0 A := by
  refine Met.ofW (cc := cX6_book) (maxL := 10) (ret := (some .int)) (by decide) rfl ?_
  intro p e s m args below meth c s₁ B hml hv
  obtain ⟨rfl, hP, hK⟩ := hv
  have E : mE p c cX6_book s m ([.ref h, .int sailing, .int kind, .int length, .int weight, .int danger, .int urgent, .int lorry] : List Value).toArray wsX6_book D cI cZ := ⟨⟨B.exec, B.bytes⟩, atoms_spec (ws := wsX6_book) B.pre, (by decide +kernel), findClass_of_methodNamed B.named, hK⟩
  have hr := B.returns
  have hlocks := B.notSynchronized
  have hl := lv_entry ([.ref h, .int sailing, .int kind, .int length, .int weight, .int danger, .int urgent, .int lorry]) (n := 10) (Nat.le_of_ble_eq_true rfl)
  rw [lg_entry_eq]
  generalize (lg_sl ([.ref h, .int sailing, .int kind, .int length, .int weight, .int danger, .int urgent, .int lorry]) ++ List.replicate (10 - (lg_sl ([.ref h, .int sailing, .int kind, .int length, .int weight, .int danger, .int urgent, .int lorry])).length) Slot.unset).toArray = ls at hl ⊢
  refine w_book σ sailing kind length weight danger urgent lorry hI E hml hA ⟨Nat.le_of_ble_eq_true rfl, Nat.le_of_ble_eq_true rfl⟩ ⟨Nat.zero_le _, Nat.zero_le _⟩ hP va_S.rf hl (fun pc v H1 locs1 ls1 hd hv hP1 hS1 => ?_)
  exact W.iret (v := v) B.exec B.bytes hr (fun t ht hW => ⟨⟨v, (), rfl, hv, by rw [ht]; exact hP1, va_K.moved hW.alike hK⟩, hS1.F ht⟩) hS1.2.2 hd
theorem rate_in {x : Int32} (h : ¬ (q_in x (0 : Int32) (2 : Int32)) = 0) : vp_in x 3 := in_in (C := 3) (M := 3) (by omega) (by omega) rfl h
def k30t0_rate (σ : St) (kind : Int32) (cents : Int32) : Int32 := if (q_in kind (0 : Int32) (2 : Int32)) = 0 then (1 : Int32) else (if (q_in cents (0 : Int32) (10000 : Int32)) = 0 then (2 : Int32) else (0 : Int32))
def q_rate (σ : St) (kind : Int32) (cents : Int32) : Int32 := if (q_refused σ (k30t0_rate σ kind cents)) = 0 then (σ 48 kind.toNatClampNeg) else (0 : Int32)
def s_rate (σ : St) (kind : Int32) (cents : Int32) : St := if (q_refused σ (k30t0_rate σ kind cents)) = 0 then (st (s_refused σ (k30t0_rate σ kind cents)) 48 kind.toNatClampNeg cents) else (s_refused σ (k30t0_rate σ kind cents))
set_option maxHeartbeats 1000000 in
set_option maxRecDepth 100000 in
theorem w_rate {p : Program} {l : Launch} {e : Env} {R : Room} {s : State} {m : MethodId} {args : Array Value} {below : List Frame} {meth : Method} {c : Code} {H : Heap} {locs : List Loc} {cells slots : Nat} {Q : State → Prop} {D : va_G} {A : Nat → Prop} {cI cZ : ClassId} {h : Nat} {ls : Array Slot} (σ : St) (kind : Int32) (cents : Int32) (hI : MI σ) (E : mE p c cX6_rate s m args wsX6_rate D cI cZ) (hml : c.maxLocals = 4) (hA : ∀ i, i < 44 → A (h + i)) (hR : 1 ≤ R.frames ∧ 22 ≤ R.locals) (hf : cells ≤ R.cells ∧ slots ≤ R.slots) (hP : va_P D vwCl (mW cI cZ h σ) H) (hS : va_S A s.heap H locs) (hl : lv_has ls 4 [(0, .ref h), (1, .int kind), (2, .int cents)]) (kr : ∀ (pc : Nat) (rv : Int32) (H1 : Heap) (locs1 : List Loc) (ls1 : Array Slot), decode cX6_rate pc = .ok (.ireturn, 1) → rv = q_rate σ kind cents → va_P D vwCl (mW cI cZ h (s_rate σ kind cents)) H1 → va_S A s.heap H1 locs1 → W p l e R s m args below meth c H1 locs1 cells slots Q (F0 m pc ls1 [.int rv])) : W p l e R s m args below meth c H locs cells slots Q (F0 m 0 ls []) := by
  have hx := E.1.1
  have hb := E.1.2
  have hts := E.2.1
  have hq : q_rate σ kind cents = if (q_refused σ (k30t0_rate σ kind cents)) = 0 then (σ 48 kind.toNatClampNeg) else (0 : Int32) := rfl
  have hs : s_rate σ kind cents = if (q_refused σ (k30t0_rate σ kind cents)) = 0 then (st (s_refused σ (k30t0_rate σ kind cents)) 48 kind.toNatClampNeg cents) else (s_refused σ (k30t0_rate σ kind cents)) := rfl
  refine lv_aload_n hx hb dX6_rate_0 rfl (lv_at hl 0 rfl) ?_
  refine lv_iload_n hx hb dX6_rate_1 rfl (lv_at hl 1 rfl) ?_
  refine lv_iconst (v := 0) hx hb dX6_rate_2 (by decide) ?_
  refine lv_iconst (v := 2) hx hb dX6_rate_3 (by decide) ?_
  refine mcS_i E hml hP hS (c_in l hA σ kind (0 : Int32) (2 : Int32)) (va_cwS 3 hts gX6_rate_X6_in rfl rfl rfl (by decide +kernel) ⟨Nat.le_trans (Nat.le_of_ble_eq_true rfl) hR.1, Nat.le_trans (Nat.le_of_ble_eq_true rfl) hR.2⟩) rfl hl.1 rfl (Nat.le_of_ble_eq_true rfl) dX6_rate_4 hf (fun H locs hP hS => ?_)
  have J_1 : ∀ (y1_t0 : Int32) (H : Heap) (locs : List Loc) (ls : Array Slot), y1_t0 = (k30t0_rate σ kind cents) → va_P D vwCl (mW cI cZ h σ) H → va_S A s.heap H locs → lv_has ls 4 [(0, .ref h), (1, .int kind), (2, .int cents)] → W p l e R s m args below meth c H locs cells slots Q (F0 m 30 ls [.int y1_t0, .ref h]) := by
    intro y1_t0 H locs ls e_y1_t0 hP hS hl
    subst e_y1_t0
    refine mcV_i E hml hP hS (c_refused l hA σ (k30t0_rate σ kind cents)) (cwV 1 hts gX6_rate_X6_refused rfl rfl rfl (by decide +kernel) ⟨Nat.le_trans (Nat.le_of_ble_eq_true rfl) hR.1, Nat.le_trans (Nat.le_of_ble_eq_true rfl) hR.2⟩) rfl hl.1 rfl (Nat.le_of_ble_eq_true rfl) dX6_rate_30 hf (fun H locs hP hS => ?_)
    refine lv_if_eq (tgt := 38) hx hb dX6_rate_33 (by decide) (fun c_3 => ?_) (fun c_3 => ?_)
    · have hq := hq.trans (if_pos c_3)
      have hs := hs.trans (if_pos c_3)
      have h_kind := rate_in (rfp c_3)
      refine lv_aload_n hx hb dX6_rate_38 rfl (lv_at hl 0 rfl) ?_
      refine mg_rates E hP (by decide +kernel) dX6_rate_39 ?_
      refine lv_iload_n hx hb dX6_rate_42 rfl (lv_at hl 1 rfl) ?_
      refine mlv_rates E hP h_kind (v := σ 48 kind.toNatClampNeg) rfl dX6_rate_43 ?_
      refine lv_istore_n (lv' := [(3, .int (σ 48 kind.toNatClampNeg)), (0, .ref h), (1, .int kind), (2, .int cents)]) hx hb dX6_rate_44 rfl hl (by decide) rfl (fun ls hl => ?_)
      refine lv_aload_n hx hb dX6_rate_45 rfl (lv_at hl 1 rfl) ?_
      refine mg_rates E hP (by decide +kernel) dX6_rate_46 ?_
      refine lv_iload_n hx hb dX6_rate_49 rfl (lv_at hl 2 rfl) ?_
      refine lv_iload_n hx hb dX6_rate_50 rfl (lv_at hl 3 rfl) ?_
      refine ms_rates E hP hA hS h_kind dX6_rate_51 (fun H locs hP hS => ?_)
      refine lv_iload_n hx hb dX6_rate_52 rfl (lv_at hl 0 rfl) ?_
      exact kr _ (σ 48 kind.toNatClampNeg) H locs ls dX6_rate_53 hq.symm (by rw [hs]; exact hP) hS
    have hq := hq.trans (if_neg c_3)
    have hs := hs.trans (if_neg c_3)
    refine lv_iconst (v := 0) hx hb dX6_rate_36 (by decide) ?_
    exact kr _ (0 : Int32) H locs ls dX6_rate_37 hq.symm (by rw [hs]; exact hP) hS
  refine lv_if_ne (tgt := 14) hx hb dX6_rate_7 (by decide) (fun c_1 => ?_) (fun c_1 => ?_)
  · refine lv_iload_n hx hb dX6_rate_14 rfl (lv_at hl 2 rfl) ?_
    refine lv_iconst (v := 0) hx hb dX6_rate_15 (by decide) ?_
    refine lv_sipush (v := 10000) hx hb dX6_rate_16 (by decide) ?_
    refine mcS_i E hml hP hS (c_in l hA σ cents (0 : Int32) (10000 : Int32)) (va_cwS 3 hts gX6_rate_X6_in rfl rfl rfl (by decide +kernel) ⟨Nat.le_trans (Nat.le_of_ble_eq_true rfl) hR.1, Nat.le_trans (Nat.le_of_ble_eq_true rfl) hR.2⟩) rfl hl.1 rfl (Nat.le_of_ble_eq_true rfl) dX6_rate_19 hf (fun H locs hP hS => ?_)
    refine lv_if_ne (tgt := 29) hx hb dX6_rate_22 (by decide) (fun c_2 => ?_) (fun c_2 => ?_)
    · refine lv_iconst (v := 0) hx hb dX6_rate_29 (by decide) ?_
      exact J_1 (0 : Int32) H locs ls ((if_neg c_2).symm.trans (if_neg c_1).symm) hP hS (lv_sub hl [0, 1, 2] rfl)
    refine lv_iconst (v := 2) hx hb dX6_rate_25 (by decide) ?_
    refine lv_goto (tgt := 30) hx hb dX6_rate_26 (by decide) ?_
    exact J_1 (2 : Int32) H locs ls ((if_pos c_2).symm.trans (if_neg c_1).symm) hP hS (lv_sub hl [0, 1, 2] rfl)
  refine lv_iconst (v := 1) hx hb dX6_rate_10 (by decide) ?_
  refine lv_goto (tgt := 30) hx hb dX6_rate_11 (by decide) ?_
  exact J_1 (1 : Int32) H locs ls (if_pos c_1).symm hP hS (lv_sub hl [0, 1, 2] rfl)
set_option maxHeartbeats 1000000 in
set_option maxRecDepth 100000 in
theorem c_rate (l : Launch) {D : va_G} {A : Nat → Prop} {cI cZ : ClassId} {h : Nat} (hA : ∀ i, i < 44 → A (h + i)) (σ : St) (kind : Int32) (cents : Int32) (hI : MI σ) : Met l yX6_rate wsX6_rate ({ frames := 1, cells := 0, slots := 0, locals := 22 }) (va_Pc [.ref h, .int kind, .int cents] (mU D cI cZ h σ)) (va_Qi (fun r (_ : Unit) => r = q_rate σ kind cents) (fun _ t => mU D cI cZ h (s_rate σ kind cents) t) A) 0 0 A := by
  refine Met.ofW (cc := cX6_rate) (maxL := 4) (ret := (some .int)) (by decide) rfl ?_
  intro p e s m args below meth c s₁ B hml hv
  obtain ⟨rfl, hP, hK⟩ := hv
  have E : mE p c cX6_rate s m ([.ref h, .int kind, .int cents] : List Value).toArray wsX6_rate D cI cZ := ⟨⟨B.exec, B.bytes⟩, atoms_spec (ws := wsX6_rate) B.pre, (by decide +kernel), findClass_of_methodNamed B.named, hK⟩
  have hr := B.returns
  have hlocks := B.notSynchronized
  have hl := lv_entry ([.ref h, .int kind, .int cents]) (n := 4) (Nat.le_of_ble_eq_true rfl)
  rw [lg_entry_eq]
  generalize (lg_sl ([.ref h, .int kind, .int cents]) ++ List.replicate (4 - (lg_sl ([.ref h, .int kind, .int cents])).length) Slot.unset).toArray = ls at hl ⊢
  refine w_rate σ kind cents hI E hml hA ⟨Nat.le_of_ble_eq_true rfl, Nat.le_of_ble_eq_true rfl⟩ ⟨Nat.zero_le _, Nat.zero_le _⟩ hP va_S.rf hl (fun pc v H1 locs1 ls1 hd hv hP1 hS1 => ?_)
  exact W.iret (v := v) B.exec B.bytes hr (fun t ht hW => ⟨⟨v, (), rfl, hv, by rw [ht]; exact hP1, va_K.moved hW.alike hK⟩, hS1.F ht⟩) hS1.2.2 hd
