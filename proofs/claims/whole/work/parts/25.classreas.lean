def k25t0_X5_isNight (σ : St) (minute : Int32) : Int32 := if (minute - minute / (1440 : Int32) * (1440 : Int32)) < (360 : Int32) then (1 : Int32) else (if (minute - minute / (1440 : Int32) * (1440 : Int32)) < (1320 : Int32) then (0 : Int32) else (1 : Int32))
def q_X5_isNight (σ : St) (minute : Int32) : Int32 := k25t0_X5_isNight σ minute
set_option maxHeartbeats 1000000 in
set_option maxRecDepth 100000 in
theorem w_X5_isNight {p : Program} {l : Launch} {e : Env} {R : Room} {s : State} {m : MethodId} {args : Array Value} {below : List Frame} {meth : Method} {c : Code} {H : Heap} {locs : List Loc} {cells slots : Nat} {Q : State → Prop} {D : va_G} {A : Nat → Prop} {cI cO : ClassId} {g : Gh} {cap N : Nat → Nat} {ls : Array Slot} (σ : St) (minute : Int32) (hI : KI cap N σ) (E : kE p c cX5_isNight s m args wsX5_isNight RX5 D cI cO) (hml : c.maxLocals = 2) (hR : 0 ≤ R.frames ∧ 0 ≤ R.locals) (hf : cells ≤ R.cells ∧ slots ≤ R.slots) (hP : cP D cI cO A g cap N σ H) (hS : va_S A s.heap H locs) (hl : lv_has ls 2 [(0, .int minute)]) (kr : ∀ (pc : Nat) (rv : Int32) (H1 : Heap) (locs1 : List Loc) (ls1 : Array Slot), decode cX5_isNight pc = .ok (.ireturn, 1) → rv = q_X5_isNight σ minute → cP D cI cO A g cap N σ H1 → va_S A s.heap H1 locs1 → W p l e R s m args below meth c H1 locs1 cells slots Q (F0 m pc ls1 [.int rv])) : W p l e R s m args below meth c H locs cells slots Q (F0 m 0 ls []) := by
  have hx := E.1.1
  have hb := E.1.2
  have hts := E.2.1
  obtain ⟨n0, n4, n5, n6, n8, n7, n1, n2, n3⟩ := id hI.1
  have hq : q_X5_isNight σ minute = k25t0_X5_isNight σ minute := rfl
  refine lv_iload_n hx hb dX5_isNight_0 rfl (lv_at hl 0 rfl) ?_
  refine lv_sipush (v := 1440) hx hb dX5_isNight_1 (by decide) ?_
  refine lv_irem hx hb dX5_isNight_4 (by decide) ?_
  refine lv_istore_n (lv' := [(1, .int (minute - minute / (1440 : Int32) * (1440 : Int32))), (0, .int minute)]) hx hb dX5_isNight_5 rfl hl (by decide) rfl (fun ls hl => ?_)
  refine lv_iload_n hx hb dX5_isNight_6 rfl (lv_at hl 0 rfl) ?_
  refine lv_sipush (v := 360) hx hb dX5_isNight_7 (by decide) ?_
  have J_1 : ∀ (y1_t0 : Int32) (H : Heap) (locs : List Loc) (ls : Array Slot), y1_t0 = (k25t0_X5_isNight σ minute) → cP D cI cO A g cap N σ H → va_S A s.heap H locs → lv_has ls 2 [(1, .int (minute - minute / (1440 : Int32) * (1440 : Int32))), (0, .int minute)] → W p l e R s m args below meth c H locs cells slots Q (F0 m 25 ls [.int y1_t0]) := by
    intro y1_t0 H locs ls e_y1_t0 hP hS hl
    subst e_y1_t0
    exact kr _ (k25t0_X5_isNight σ minute) H locs ls dX5_isNight_25 hq.symm hP hS
  refine lv_icmp_lt (tgt := 20) hx hb dX5_isNight_10 (by decide) (fun c_1 => ?_) (fun c_1 => ?_)
  · refine lv_iconst (v := 1) hx hb dX5_isNight_20 (by decide) ?_
    refine lv_goto (tgt := 25) hx hb dX5_isNight_21 (by decide) ?_
    exact J_1 (1 : Int32) H locs ls (if_pos c_1).symm hP hS (lv_sub hl [0, 1] rfl)
  refine lv_iload_n hx hb dX5_isNight_13 rfl (lv_at hl 0 rfl) ?_
  refine lv_sipush (v := 1320) hx hb dX5_isNight_14 (by decide) ?_
  refine lv_icmp_lt (tgt := 24) hx hb dX5_isNight_17 (by decide) (fun c_2 => ?_) (fun c_2 => ?_)
  · refine lv_iconst (v := 0) hx hb dX5_isNight_24 (by decide) ?_
    exact J_1 (0 : Int32) H locs ls ((if_pos c_2).symm.trans (if_neg c_1).symm) hP hS (lv_sub hl [0, 1] rfl)
  refine lv_iconst (v := 1) hx hb dX5_isNight_20 (by decide) ?_
  refine lv_goto (tgt := 25) hx hb dX5_isNight_21 (by decide) ?_
  exact J_1 (1 : Int32) H locs ls ((if_neg c_2).symm.trans (if_neg c_1).symm) hP hS (lv_sub hl [0, 1] rfl)
theorem b_X5_isNight (σ : St) (minute : Int32) : isB (q_X5_isNight σ minute) := by
  unfold q_X5_isNight; (try unfold k25t0_X5_isNight); repeat (first | exact isB0 | exact isB1 | apply isB_if)
set_option maxHeartbeats 4000000 in
set_option maxRecDepth 100000 in
theorem c_X5_isNight (l : Launch) {D : va_G} {A : Nat → Prop} {cI cO : ClassId} {g : Gh} {cap N : Nat → Nat} (σ : St) (minute : Int32) (hI : KI cap N σ) : Met l yX5_isNight wsX5_isNight ({ frames := 0, cells := 0, slots := 0, locals := 0 }) (va_Pc [.int minute] (cU D cI cO A g cap N σ)) (va_Qi (fun r (_ : Unit) => r = q_X5_isNight σ minute) (fun _ t => cU D cI cO A g cap N (σ) t) A) 0 0 A := by
  refine Met.ofW (cc := cX5_isNight) (maxL := 2) (ret := (some .boolean)) (by decide) rfl ?_
  intro p e s m args below meth c s₁ B hml hv
  obtain ⟨rfl, hP, hK⟩ := hv
  have E : kE p c cX5_isNight s m ([.int minute] : List Value).toArray wsX5_isNight RX5 D cI cO := ⟨⟨B.exec, B.bytes⟩, atoms_spec (ws := wsX5_isNight) B.pre, findClass_of_methodNamed B.named, hK⟩
  have hr := B.returns
  have hlocks := B.notSynchronized
  have hl := lv_entry ([.int minute]) (n := 2) (Nat.le_of_ble_eq_true rfl)
  rw [lg_entry_eq]
  generalize (lg_sl ([.int minute]) ++ List.replicate (2 - (lg_sl ([.int minute])).length) Slot.unset).toArray = ls at hl ⊢
  refine w_X5_isNight σ minute hI E hml ⟨Nat.le_of_ble_eq_true rfl, Nat.le_of_ble_eq_true rfl⟩ ⟨Nat.zero_le _, Nat.zero_le _⟩ hP va_S.rf hl (fun pc v H1 locs1 ls1 hd hv hP1 hS1 => ?_)
  exact W.zret (v := v) B.exec B.bytes hr (by rw [hv]; exact isB_n (b_X5_isNight σ minute)) (fun t ht hW => ⟨⟨v, (), rfl, hv, by rw [ht]; exact hP1, va_K.moved hW.alike hK⟩, hS1.F ht⟩) hS1.2.2 hd
def q_X5_reasonOfNightOrSwell (σ : St) (sailing : Int32) (arr : Int32) : Int32 := if (σ 6 (σ 25 sailing.toNatClampNeg).toNatClampNeg) = 0 then (if (q_X5_isNight σ arr) = 0 then (if (σ 17 (σ 23 sailing.toNatClampNeg).toNatClampNeg) < (σ 7 (σ 24 sailing.toNatClampNeg).toNatClampNeg) then (5 : Int32) else (if (σ 7 (σ 25 sailing.toNatClampNeg).toNatClampNeg) ≤ (σ 17 (σ 23 sailing.toNatClampNeg).toNatClampNeg) then (0 : Int32) else (5 : Int32))) else (4 : Int32)) else (if (σ 17 (σ 23 sailing.toNatClampNeg).toNatClampNeg) < (σ 7 (σ 24 sailing.toNatClampNeg).toNatClampNeg) then (5 : Int32) else (if (σ 7 (σ 25 sailing.toNatClampNeg).toNatClampNeg) ≤ (σ 17 (σ 23 sailing.toNatClampNeg).toNatClampNeg) then (0 : Int32) else (5 : Int32)))
set_option maxHeartbeats 1000000 in
set_option maxRecDepth 100000 in
theorem w_X5_reasonOfNightOrSwell {p : Program} {l : Launch} {e : Env} {R : Room} {s : State} {m : MethodId} {args : Array Value} {below : List Frame} {meth : Method} {c : Code} {H : Heap} {locs : List Loc} {cells slots : Nat} {Q : State → Prop} {D : va_G} {A : Nat → Prop} {cI cO : ClassId} {g : Gh} {cap N : Nat → Nat} {ls : Array Slot} (σ : St) (sailing : Int32) (arr : Int32) (hI : KI cap N σ) (h_sailing : vp_in sailing (N 6)) (E : kE p c cX5_reasonOfNightOrSwell s m args wsX5_reasonOfNightOrSwell RX5 D cI cO) (hml : c.maxLocals = 3) (hR : 1 ≤ R.frames ∧ 21 ≤ R.locals) (hf : cells ≤ R.cells ∧ slots ≤ R.slots) (hP : cP D cI cO A g cap N σ H) (hS : va_S A s.heap H locs) (hl : lv_has ls 3 [(0, .ref (g 6 sailing.toNatClampNeg)), (1, .int arr)]) (kr : ∀ (pc : Nat) (rv : Int32) (H1 : Heap) (locs1 : List Loc) (ls1 : Array Slot), decode cX5_reasonOfNightOrSwell pc = .ok (.ireturn, 1) → rv = q_X5_reasonOfNightOrSwell σ sailing arr → cP D cI cO A g cap N σ H1 → va_S A s.heap H1 locs1 → W p l e R s m args below meth c H1 locs1 cells slots Q (F0 m pc ls1 [.int rv])) : W p l e R s m args below meth c H locs cells slots Q (F0 m 0 ls []) := by
  have hx := E.1.1
  have hb := E.1.2
  have hts := E.2.1
  obtain ⟨n0, n4, n5, n6, n8, n7, n1, n2, n3⟩ := id hI.1
  have i_X0 : ∀ w ∈ wsX00, w ∈ wsX5_reasonOfNightOrSwell := by decide +kernel
  have i_X2 : ∀ w ∈ wsX20, w ∈ wsX5_reasonOfNightOrSwell := by decide +kernel
  have i_X3 : ∀ w ∈ wsX30, w ∈ wsX5_reasonOfNightOrSwell := by decide +kernel
  have hq : q_X5_reasonOfNightOrSwell σ sailing arr = if (σ 6 (σ 25 sailing.toNatClampNeg).toNatClampNeg) = 0 then (if (q_X5_isNight σ arr) = 0 then (if (σ 17 (σ 23 sailing.toNatClampNeg).toNatClampNeg) < (σ 7 (σ 24 sailing.toNatClampNeg).toNatClampNeg) then (5 : Int32) else (if (σ 7 (σ 25 sailing.toNatClampNeg).toNatClampNeg) ≤ (σ 17 (σ 23 sailing.toNatClampNeg).toNatClampNeg) then (0 : Int32) else (5 : Int32))) else (4 : Int32)) else (if (σ 17 (σ 23 sailing.toNatClampNeg).toNatClampNeg) < (σ 7 (σ 24 sailing.toNatClampNeg).toNatClampNeg) then (5 : Int32) else (if (σ 7 (σ 25 sailing.toNatClampNeg).toNatClampNeg) ≤ (σ 17 (σ 23 sailing.toNatClampNeg).toNatClampNeg) then (0 : Int32) else (5 : Int32))) := rfl
  refine lv_aload_n hx hb dX5_reasonOfNightOrSwell_0 rfl (lv_at hl 0 rfl) ?_
  refine cg_X3_to E i_X3 hP h_sailing (by decide +kernel) dX5_reasonOfNightOrSwell_1 ?_
  refine cg_X2_isLit E i_X2 hP ((hI.2.2.1 _ (vp_lt h_sailing)).2.2) (by decide +kernel) dX5_reasonOfNightOrSwell_4 ?_
  refine lv_if_ne (tgt := 19) hx hb dX5_reasonOfNightOrSwell_7 (by decide) (fun c_1 => ?_) (fun c_1 => ?_)
  · have hq := hq.trans (if_neg c_1)
    refine lv_aload_n hx hb dX5_reasonOfNightOrSwell_19 rfl (lv_at hl 0 rfl) ?_
    refine cg_X3_boat E i_X3 hP h_sailing (by decide +kernel) dX5_reasonOfNightOrSwell_20 ?_
    refine cg_X0_swell E i_X0 hP ((hI.2.2.1 _ (vp_lt h_sailing)).1) (by decide +kernel) dX5_reasonOfNightOrSwell_23 ?_
    refine lv_istore_n (lv' := [(2, .int (σ 17 (σ 23 sailing.toNatClampNeg).toNatClampNeg)), (0, .ref (g 6 sailing.toNatClampNeg)), (1, .int arr)]) hx hb dX5_reasonOfNightOrSwell_26 rfl hl (by decide) rfl (fun ls hl => ?_)
    refine lv_aload_n hx hb dX5_reasonOfNightOrSwell_27 rfl (lv_at hl 1 rfl) ?_
    refine cg_X3_from E i_X3 hP h_sailing (by decide +kernel) dX5_reasonOfNightOrSwell_28 ?_
    refine cg_X2_swell E i_X2 hP ((hI.2.2.1 _ (vp_lt h_sailing)).2.1) (by decide +kernel) dX5_reasonOfNightOrSwell_31 ?_
    refine lv_iload_n hx hb dX5_reasonOfNightOrSwell_34 rfl (lv_at hl 0 rfl) ?_
    refine lv_icmp_gt (tgt := 49) hx hb dX5_reasonOfNightOrSwell_35 (by decide) (fun c_2 => ?_) (fun c_2 => ?_)
    · have hq := hq.trans (if_pos c_2)
      refine lv_iconst (v := 5) hx hb dX5_reasonOfNightOrSwell_49 (by decide) ?_
      exact kr _ (5 : Int32) H locs ls dX5_reasonOfNightOrSwell_50 hq.symm hP hS
    have hq := hq.trans (if_neg c_2)
    refine lv_aload_n hx hb dX5_reasonOfNightOrSwell_38 rfl (lv_at hl 1 rfl) ?_
    refine cg_X3_to E i_X3 hP h_sailing (by decide +kernel) dX5_reasonOfNightOrSwell_39 ?_
    refine cg_X2_swell E i_X2 hP ((hI.2.2.1 _ (vp_lt h_sailing)).2.2) (by decide +kernel) dX5_reasonOfNightOrSwell_42 ?_
    refine lv_iload_n hx hb dX5_reasonOfNightOrSwell_45 rfl (lv_at hl 0 rfl) ?_
    refine lv_icmp_le (tgt := 51) hx hb dX5_reasonOfNightOrSwell_46 (by decide) (fun c_3 => ?_) (fun c_3 => ?_)
    · have hq := hq.trans (if_pos c_3)
      refine lv_iconst (v := 0) hx hb dX5_reasonOfNightOrSwell_51 (by decide) ?_
      exact kr _ (0 : Int32) H locs ls dX5_reasonOfNightOrSwell_52 hq.symm hP hS
    have hq := hq.trans (if_neg c_3)
    refine lv_iconst (v := 5) hx hb dX5_reasonOfNightOrSwell_49 (by decide) ?_
    exact kr _ (5 : Int32) H locs ls dX5_reasonOfNightOrSwell_50 hq.symm hP hS
  have hq := hq.trans (if_pos c_1)
  refine lv_iload_n hx hb dX5_reasonOfNightOrSwell_10 rfl (lv_at hl 1 rfl) ?_
  refine kcS_i E hml hP hS (c_X5_isNight l σ arr hI) (va_cwS 1 hts gX5_reasonOfNightOrSwell_X5_isNight rfl rfl rfl (by decide +kernel) ⟨Nat.le_trans (Nat.le_of_ble_eq_true rfl) hR.1, Nat.le_trans (Nat.le_of_ble_eq_true rfl) hR.2⟩) rfl hl.1 rfl (Nat.le_of_ble_eq_true rfl) dX5_reasonOfNightOrSwell_11 hf (fun H locs hP hS => ?_)
  refine lv_if_eq (tgt := 19) hx hb dX5_reasonOfNightOrSwell_14 (by decide) (fun c_4 => ?_) (fun c_4 => ?_)
  · have hq := hq.trans (if_pos c_4)
    refine lv_aload_n hx hb dX5_reasonOfNightOrSwell_19 rfl (lv_at hl 0 rfl) ?_
    refine cg_X3_boat E i_X3 hP h_sailing (by decide +kernel) dX5_reasonOfNightOrSwell_20 ?_
    refine cg_X0_swell E i_X0 hP ((hI.2.2.1 _ (vp_lt h_sailing)).1) (by decide +kernel) dX5_reasonOfNightOrSwell_23 ?_
    refine lv_istore_n (lv' := [(2, .int (σ 17 (σ 23 sailing.toNatClampNeg).toNatClampNeg)), (0, .ref (g 6 sailing.toNatClampNeg)), (1, .int arr)]) hx hb dX5_reasonOfNightOrSwell_26 rfl hl (by decide) rfl (fun ls hl => ?_)
    refine lv_aload_n hx hb dX5_reasonOfNightOrSwell_27 rfl (lv_at hl 1 rfl) ?_
    refine cg_X3_from E i_X3 hP h_sailing (by decide +kernel) dX5_reasonOfNightOrSwell_28 ?_
    refine cg_X2_swell E i_X2 hP ((hI.2.2.1 _ (vp_lt h_sailing)).2.1) (by decide +kernel) dX5_reasonOfNightOrSwell_31 ?_
    refine lv_iload_n hx hb dX5_reasonOfNightOrSwell_34 rfl (lv_at hl 0 rfl) ?_
    refine lv_icmp_gt (tgt := 49) hx hb dX5_reasonOfNightOrSwell_35 (by decide) (fun c_5 => ?_) (fun c_5 => ?_)
    · have hq := hq.trans (if_pos c_5)
      refine lv_iconst (v := 5) hx hb dX5_reasonOfNightOrSwell_49 (by decide) ?_
      exact kr _ (5 : Int32) H locs ls dX5_reasonOfNightOrSwell_50 hq.symm hP hS
    have hq := hq.trans (if_neg c_5)
    refine lv_aload_n hx hb dX5_reasonOfNightOrSwell_38 rfl (lv_at hl 1 rfl) ?_
    refine cg_X3_to E i_X3 hP h_sailing (by decide +kernel) dX5_reasonOfNightOrSwell_39 ?_
    refine cg_X2_swell E i_X2 hP ((hI.2.2.1 _ (vp_lt h_sailing)).2.2) (by decide +kernel) dX5_reasonOfNightOrSwell_42 ?_
    refine lv_iload_n hx hb dX5_reasonOfNightOrSwell_45 rfl (lv_at hl 0 rfl) ?_
    refine lv_icmp_le (tgt := 51) hx hb dX5_reasonOfNightOrSwell_46 (by decide) (fun c_6 => ?_) (fun c_6 => ?_)
    · have hq := hq.trans (if_pos c_6)
      refine lv_iconst (v := 0) hx hb dX5_reasonOfNightOrSwell_51 (by decide) ?_
      exact kr _ (0 : Int32) H locs ls dX5_reasonOfNightOrSwell_52 hq.symm hP hS
    have hq := hq.trans (if_neg c_6)
    refine lv_iconst (v := 5) hx hb dX5_reasonOfNightOrSwell_49 (by decide) ?_
    exact kr _ (5 : Int32) H locs ls dX5_reasonOfNightOrSwell_50 hq.symm hP hS
  have hq := hq.trans (if_neg c_4)
  refine lv_iconst (v := 4) hx hb dX5_reasonOfNightOrSwell_17 (by decide) ?_
  exact kr _ (4 : Int32) H locs ls dX5_reasonOfNightOrSwell_18 hq.symm hP hS
set_option maxHeartbeats 4000000 in
set_option maxRecDepth 100000 in
theorem c_X5_reasonOfNightOrSwell (l : Launch) {D : va_G} {A : Nat → Prop} {cI cO : ClassId} {g : Gh} {cap N : Nat → Nat} (σ : St) (sailing : Int32) (arr : Int32) (hI : KI cap N σ) (h_sailing : vp_in sailing (N 6)) : Met l yX5_reasonOfNightOrSwell wsX5_reasonOfNightOrSwell ({ frames := 1, cells := 0, slots := 0, locals := 21 }) (va_Pc [.ref (g 6 sailing.toNatClampNeg), .int arr] (cU D cI cO A g cap N σ)) (va_Qi (fun r (_ : Unit) => r = q_X5_reasonOfNightOrSwell σ sailing arr) (fun _ t => cU D cI cO A g cap N (σ) t) A) 0 0 A := by
  refine Met.ofW (cc := cX5_reasonOfNightOrSwell) (maxL := 3) (ret := (some .int)) (by decide) rfl ?_
  intro p e s m args below meth c s₁ B hml hv
  obtain ⟨rfl, hP, hK⟩ := hv
  have E : kE p c cX5_reasonOfNightOrSwell s m ([.ref (g 6 sailing.toNatClampNeg), .int arr] : List Value).toArray wsX5_reasonOfNightOrSwell RX5 D cI cO := ⟨⟨B.exec, B.bytes⟩, atoms_spec (ws := wsX5_reasonOfNightOrSwell) B.pre, findClass_of_methodNamed B.named, hK⟩
  have hr := B.returns
  have hlocks := B.notSynchronized
  have hl := lv_entry ([.ref (g 6 sailing.toNatClampNeg), .int arr]) (n := 3) (Nat.le_of_ble_eq_true rfl)
  rw [lg_entry_eq]
  generalize (lg_sl ([.ref (g 6 sailing.toNatClampNeg), .int arr]) ++ List.replicate (3 - (lg_sl ([.ref (g 6 sailing.toNatClampNeg), .int arr])).length) Slot.unset).toArray = ls at hl ⊢
  refine w_X5_reasonOfNightOrSwell σ sailing arr hI h_sailing E hml ⟨Nat.le_of_ble_eq_true rfl, Nat.le_of_ble_eq_true rfl⟩ ⟨Nat.zero_le _, Nat.zero_le _⟩ hP va_S.rf hl (fun pc v H1 locs1 ls1 hd hv hP1 hS1 => ?_)
  exact W.iret (v := v) B.exec B.bytes hr (fun t ht hW => ⟨⟨v, (), rfl, hv, by rw [ht]; exact hP1, va_K.moved hW.alike hK⟩, hS1.F ht⟩) hS1.2.2 hd
def q_X5_reasonAtDecision (σ : St) (sailing : Int32) : Int32 := if (σ 20 (σ 23 sailing.toNatClampNeg).toNatClampNeg) = 0 then (q_X5_reasonOfNightOrSwell σ sailing (q_X3_arrival σ sailing)) else (1 : Int32)
set_option maxHeartbeats 1000000 in
set_option maxRecDepth 100000 in
theorem w_X5_reasonAtDecision {p : Program} {l : Launch} {e : Env} {R : Room} {s : State} {m : MethodId} {args : Array Value} {below : List Frame} {meth : Method} {c : Code} {H : Heap} {locs : List Loc} {cells slots : Nat} {Q : State → Prop} {D : va_G} {A : Nat → Prop} {cI cO : ClassId} {g : Gh} {cap N : Nat → Nat} {ls : Array Slot} (σ : St) (sailing : Int32) (hI : KI cap N σ) (h_sailing : vp_in sailing (N 6)) (E : kE p c cX5_reasonAtDecision s m args wsX5_reasonAtDecision RX5 D cI cO) (hml : c.maxLocals = 2) (hR : 2 ≤ R.frames ∧ 43 ≤ R.locals) (hf : cells ≤ R.cells ∧ slots ≤ R.slots) (hP : cP D cI cO A g cap N σ H) (hS : va_S A s.heap H locs) (hl : lv_has ls 2 [(0, .ref (g 0 0)), (1, .ref (g 6 sailing.toNatClampNeg))]) (kr : ∀ (pc : Nat) (rv : Int32) (H1 : Heap) (locs1 : List Loc) (ls1 : Array Slot), decode cX5_reasonAtDecision pc = .ok (.ireturn, 1) → rv = q_X5_reasonAtDecision σ sailing → cP D cI cO A g cap N σ H1 → va_S A s.heap H1 locs1 → W p l e R s m args below meth c H1 locs1 cells slots Q (F0 m pc ls1 [.int rv])) : W p l e R s m args below meth c H locs cells slots Q (F0 m 0 ls []) := by
  have hx := E.1.1
  have hb := E.1.2
  have hts := E.2.1
  obtain ⟨n0, n4, n5, n6, n8, n7, n1, n2, n3⟩ := id hI.1
  have i_X0 : ∀ w ∈ wsX00, w ∈ wsX5_reasonAtDecision := by decide +kernel
  have i_X3 : ∀ w ∈ wsX30, w ∈ wsX5_reasonAtDecision := by decide +kernel
  have hq : q_X5_reasonAtDecision σ sailing = if (σ 20 (σ 23 sailing.toNatClampNeg).toNatClampNeg) = 0 then (q_X5_reasonOfNightOrSwell σ sailing (q_X3_arrival σ sailing)) else (1 : Int32) := rfl
  refine lv_aload_n hx hb dX5_reasonAtDecision_0 rfl (lv_at hl 1 rfl) ?_
  refine cg_X3_boat E i_X3 hP h_sailing (by decide +kernel) dX5_reasonAtDecision_1 ?_
  refine cg_X0_isBroken E i_X0 hP ((hI.2.2.1 _ (vp_lt h_sailing)).1) (by decide +kernel) dX5_reasonAtDecision_4 ?_
  refine lv_if_eq (tgt := 12) hx hb dX5_reasonAtDecision_7 (by decide) (fun c_1 => ?_) (fun c_1 => ?_)
  · have hq := hq.trans (if_pos c_1)
    refine lv_aload_n hx hb dX5_reasonAtDecision_12 rfl (lv_at hl 1 rfl) ?_
    refine lv_aload_n hx hb dX5_reasonAtDecision_13 rfl (lv_at hl 1 rfl) ?_
    refine kcV_i E hml hP hS (kr_6 E.2.2.2 hP ⟨by decide, vp_lt h_sailing, fun z => absurd z (by decide)⟩) (c_X3_arrival l σ sailing hI h_sailing) (cwV 0 hts gX5_reasonAtDecision_X3_arrival rfl rfl rfl (by decide +kernel) ⟨Nat.le_trans (Nat.le_of_ble_eq_true rfl) hR.1, Nat.le_trans (Nat.le_of_ble_eq_true rfl) hR.2⟩) rfl hl.1 rfl (Nat.le_of_ble_eq_true rfl) dX5_reasonAtDecision_14 hf (fun H locs hP hS => ?_)
    refine kcS_i E hml hP hS (c_X5_reasonOfNightOrSwell l σ sailing (q_X3_arrival σ sailing) hI h_sailing) (va_cwS 2 hts gX5_reasonAtDecision_X5_reasonOfNightOrSwell rfl rfl rfl (by decide +kernel) ⟨Nat.le_trans (Nat.le_of_ble_eq_true rfl) hR.1, Nat.le_trans (Nat.le_of_ble_eq_true rfl) hR.2⟩) rfl hl.1 rfl (Nat.le_of_ble_eq_true rfl) dX5_reasonAtDecision_17 hf (fun H locs hP hS => ?_)
    exact kr _ (q_X5_reasonOfNightOrSwell σ sailing (q_X3_arrival σ sailing)) H locs ls dX5_reasonAtDecision_20 hq.symm hP hS
  have hq := hq.trans (if_neg c_1)
  refine lv_iconst (v := 1) hx hb dX5_reasonAtDecision_10 (by decide) ?_
  exact kr _ (1 : Int32) H locs ls dX5_reasonAtDecision_11 hq.symm hP hS
set_option maxHeartbeats 4000000 in
set_option maxRecDepth 100000 in
theorem c_X5_reasonAtDecision (l : Launch) {D : va_G} {A : Nat → Prop} {cI cO : ClassId} {g : Gh} {cap N : Nat → Nat} (σ : St) (sailing : Int32) (hI : KI cap N σ) (h_sailing : vp_in sailing (N 6)) : Met l yX5_reasonAtDecision wsX5_reasonAtDecision ({ frames := 2, cells := 0, slots := 0, locals := 43 }) (va_Pc [.ref (g 0 0), .ref (g 6 sailing.toNatClampNeg)] (cU D cI cO A g cap N σ)) (va_Qi (fun r (_ : Unit) => r = q_X5_reasonAtDecision σ sailing) (fun _ t => cU D cI cO A g cap N (σ) t) A) 0 0 A := by
  refine Met.ofW (cc := cX5_reasonAtDecision) (maxL := 2) (ret := (some .int)) (by decide) rfl ?_
  intro p e s m args below meth c s₁ B hml hv
  obtain ⟨rfl, hP, hK⟩ := hv
  have E : kE p c cX5_reasonAtDecision s m ([.ref (g 0 0), .ref (g 6 sailing.toNatClampNeg)] : List Value).toArray wsX5_reasonAtDecision RX5 D cI cO := ⟨⟨B.exec, B.bytes⟩, atoms_spec (ws := wsX5_reasonAtDecision) B.pre, findClass_of_methodNamed B.named, hK⟩
  have hr := B.returns
  have hlocks := B.notSynchronized
  have hl := lv_entry ([.ref (g 0 0), .ref (g 6 sailing.toNatClampNeg)]) (n := 2) (Nat.le_of_ble_eq_true rfl)
  rw [lg_entry_eq]
  generalize (lg_sl ([.ref (g 0 0), .ref (g 6 sailing.toNatClampNeg)]) ++ List.replicate (2 - (lg_sl ([.ref (g 0 0), .ref (g 6 sailing.toNatClampNeg)])).length) Slot.unset).toArray = ls at hl ⊢
  refine w_X5_reasonAtDecision σ sailing hI h_sailing E hml ⟨Nat.le_of_ble_eq_true rfl, Nat.le_of_ble_eq_true rfl⟩ ⟨Nat.zero_le _, Nat.zero_le _⟩ hP va_S.rf hl (fun pc v H1 locs1 ls1 hd hv hP1 hS1 => ?_)
  exact W.iret (v := v) B.exec B.bytes hr (fun t ht hW => ⟨⟨v, (), rfl, hv, by rw [ht]; exact hP1, va_K.moved hW.alike hK⟩, hS1.F ht⟩) hS1.2.2 hd
def lf_X5_crewMinutes_5 (σ : St) (boat : Int32) (day : Int32) : Nat → Nat → Int32 → Int32
  | 0, _, x3 => x3
  | n + 1, i, x3 => if (σ 54 2) ≤ (nI i) then x3 else (lf_X5_crewMinutes_5 σ boat day n (i + 1) (if (if (σ 22 (nI i).toNatClampNeg) = (1 : Int32) then (1 : Int32) else (if (σ 22 (nI i).toNatClampNeg) = (2 : Int32) then (1 : Int32) else (0 : Int32))) = 0 then x3 else (if (σ 23 (nI i).toNatClampNeg) = boat then (if ((σ 26 (nI i).toNatClampNeg) / (1440 : Int32)) = day then (x3 + (σ 27 (nI i).toNatClampNeg)) else x3) else x3)))
def q_X5_crewMinutes (σ : St) (boat : Int32) (day : Int32) : Int32 := (lf_X5_crewMinutes_5 σ boat day 61 0 (0 : Int32))
set_option maxHeartbeats 1000000 in
set_option maxRecDepth 100000 in
theorem w_X5_crewMinutes {p : Program} {l : Launch} {e : Env} {R : Room} {s : State} {m : MethodId} {args : Array Value} {below : List Frame} {meth : Method} {c : Code} {H : Heap} {locs : List Loc} {cells slots : Nat} {Q : State → Prop} {D : va_G} {A : Nat → Prop} {cI cO : ClassId} {g : Gh} {cap N : Nat → Nat} {ls : Array Slot} (σ : St) (boat : Int32) (day : Int32) (hI : KI cap N σ) (h_boat : vp_in boat (N 5)) (E : kE p c cX5_crewMinutes s m args wsX5_crewMinutes RX5 D cI cO) (hml : c.maxLocals = 7) (hR : 3 ≤ R.frames ∧ 64 ≤ R.locals) (hf : cells ≤ R.cells ∧ slots ≤ R.slots) (hP : cP D cI cO A g cap N σ H) (hS : va_S A s.heap H locs) (hl : lv_has ls 7 [(0, .ref (g 0 0)), (1, .ref (g 5 boat.toNatClampNeg)), (2, .int day)]) (kr : ∀ (pc : Nat) (rv : Int32) (H1 : Heap) (locs1 : List Loc) (ls1 : Array Slot), decode cX5_crewMinutes pc = .ok (.ireturn, 1) → rv = q_X5_crewMinutes σ boat day → cP D cI cO A g cap N σ H1 → va_S A s.heap H1 locs1 → W p l e R s m args below meth c H1 locs1 cells slots Q (F0 m pc ls1 [.int rv])) : W p l e R s m args below meth c H locs cells slots Q (F0 m 0 ls []) := by
  have hx := E.1.1
  have hb := E.1.2
  have hts := E.2.1
  obtain ⟨n0, n4, n5, n6, n8, n7, n1, n2, n3⟩ := id hI.1
  have i_X3 : ∀ w ∈ wsX30, w ∈ wsX5_crewMinutes := by decide +kernel
  have i_X5 : ∀ w ∈ wsX50, w ∈ wsX5_crewMinutes := by decide +kernel
  have hq : q_X5_crewMinutes σ boat day = (lf_X5_crewMinutes_5 σ boat day 61 0 (0 : Int32)) := rfl
  refine lv_iconst (v := 0) hx hb dX5_crewMinutes_0 (by decide) ?_
  refine lv_istore_n (lv' := [(3, .int (0 : Int32)), (0, .ref (g 0 0)), (1, .ref (g 5 boat.toNatClampNeg)), (2, .int day)]) hx hb dX5_crewMinutes_1 rfl hl (by decide) rfl (fun ls hl => ?_)
  refine lv_iconst (v := 0) hx hb dX5_crewMinutes_2 (by decide) ?_
  refine lv_istore (lv' := [(4, .int (0 : Int32)), (3, .int (0 : Int32)), (0, .ref (g 0 0)), (1, .ref (g 5 boat.toNatClampNeg)), (2, .int day)]) hx hb dX5_crewMinutes_3 hl (by decide) rfl (fun ls hl => ?_)
  obtain ⟨C, hC, eC⟩ : ∃ C : Nat, C = N 6 ∧ σ 54 2 = nI C := ⟨N 6, rfl, hI.2.1.2.2.1⟩
  have L_7 : ∀ (n : Nat) (i : Nat) (x3 : Int32) (H : Heap) (locs : List Loc) (ls : Array Slot), i + n = 61 → i ≤ C → lf_X5_crewMinutes_5 σ boat day n i x3 = lf_X5_crewMinutes_5 σ boat day 61 0 (0 : Int32) → cP D cI cO A g cap N σ H → va_S A s.heap H locs → lv_has ls 7 [(4, .int (nI i)), (3, .int x3), (0, .ref (g 0 0)), (1, .ref (g 5 boat.toNatClampNeg)), (2, .int day)] → W p l e R s m args below meth c H locs cells slots Q (F0 m 5 ls []) := by
    intro n
    induction n with
    | zero => intro i x3 H locs ls hin hiC; omega
    | succ n ih =>
      intro i x3 H locs ls hin hiC hfin hP hS hl
      have hfin : (if (σ 54 2) ≤ (nI i) then x3 else (lf_X5_crewMinutes_5 σ boat day n (i + 1) (if (if (σ 22 (nI i).toNatClampNeg) = (1 : Int32) then (1 : Int32) else (if (σ 22 (nI i).toNatClampNeg) = (2 : Int32) then (1 : Int32) else (0 : Int32))) = 0 then x3 else (if (σ 23 (nI i).toNatClampNeg) = boat then (if ((σ 26 (nI i).toNatClampNeg) / (1440 : Int32)) = day then (x3 + (σ 27 (nI i).toNatClampNeg)) else x3) else x3)))) = lf_X5_crewMinutes_5 σ boat day 61 0 (0 : Int32) := hfin
      refine lv_iload hx hb dX5_crewMinutes_5 (lv_at hl 0 rfl) ?_
      refine lv_aload_n hx hb dX5_crewMinutes_7 rfl (lv_at hl 2 rfl) ?_
      refine cg_X5_sailings E i_X5 hP (by omega) (by decide +kernel) dX5_crewMinutes_8 ?_
      refine kcV_i E hml hP hS (kr_1 E.2.2.2 hP ⟨by decide, by omega, fun z => absurd z (by decide)⟩) (c_AL_size l σ 2 ⟨by decide, by omega, fun z => absurd z (by decide)⟩) (cwV 0 hts gX5_crewMinutes_Jx4a65c_size_8abf5 rfl rfl rfl (by decide +kernel) ⟨Nat.le_trans (Nat.le_of_ble_eq_true rfl) hR.1, Nat.le_trans (Nat.le_of_ble_eq_true rfl) hR.2⟩) rfl hl.1 rfl (Nat.le_of_ble_eq_true rfl) dX5_crewMinutes_11 hf (fun H locs hP hS => ?_)
      refine lv_icmp_ge (tgt := 97) hx hb dX5_crewMinutes_14 (by decide) (fun c_1 => ?_) (fun c_1 => ?_)
      · have hfin := (if_pos c_1).symm.trans hfin
        subst hfin
        have hl := lv_sub hl [1, 2, 3, 4] rfl
        refine lv_iload_n hx hb dX5_crewMinutes_97 rfl (lv_at hl 0 rfl) ?_
        exact kr _ (lf_X5_crewMinutes_5 σ boat day 61 0 (0 : Int32)) H locs ls dX5_crewMinutes_98 hq.symm hP hS
      have hfin := (if_neg c_1).symm.trans hfin
      have hlt : i < C := m_lt eC c_1 (by omega) (by omega)
      refine lv_aload_n hx hb dX5_crewMinutes_17 rfl (lv_at hl 2 rfl) ?_
      refine cg_X5_sailings E i_X5 hP (by omega) (by decide +kernel) dX5_crewMinutes_18 ?_
      refine lv_iload hx hb dX5_crewMinutes_21 (lv_at hl 0 rfl) ?_
      refine kcV_r (v := g 6 (nI i).toNatClampNeg) E hml hP hS (kr_1 E.2.2.2 hP ⟨by decide, by omega, fun z => absurd z (by decide)⟩) (c_AL_get l σ 2 (nI i) ⟨by decide, by omega, fun z => absurd z (by decide)⟩ n2 (hI.2.2.2.2.2 _ (by omega)) (by rw [hI.2.1.2.2.1, nI_clamp (by omega)]; exact (vp_in_nI (n := i) (by omega) (by omega)))) (cwV 1 hts gX5_crewMinutes_Jx4a65c_get_915e3 rfl rfl rfl (by decide +kernel) ⟨Nat.le_trans (Nat.le_of_ble_eq_true rfl) hR.1, Nat.le_trans (Nat.le_of_ble_eq_true rfl) hR.2⟩) rfl hl.1 rfl (Nat.le_of_ble_eq_true rfl) dX5_crewMinutes_23 hf (fun H locs hP hS => ?_)
      refine kcast E (E.2.2.2.1 6 _ rfl).2 (kr_6 E.2.2.2 hP ⟨by decide, vp_lt (vp_in_nI (n := i) (by omega) (by omega)), fun z => absurd z (by decide)⟩) (by decide +kernel) dX5_crewMinutes_26 ?_
      refine lv_astore (lv' := [(5, .ref (g 6 (nI i).toNatClampNeg)), (4, .int (nI i)), (3, .int x3), (0, .ref (g 0 0)), (1, .ref (g 5 boat.toNatClampNeg)), (2, .int day)]) hx hb dX5_crewMinutes_29 hl (by decide) rfl (fun ls hl => ?_)
      refine lv_aload hx hb dX5_crewMinutes_31 (lv_at hl 0 rfl) ?_
      refine cg_X3_state E i_X3 hP (vp_in_nI (n := i) (by omega) (by omega)) (by decide +kernel) dX5_crewMinutes_33 ?_
      refine lv_iconst (v := 1) hx hb dX5_crewMinutes_36 (by decide) ?_
      have J_2 : ∀ (y2_t0 : Int32) (H : Heap) (locs : List Loc) (ls : Array Slot), y2_t0 = (if (σ 22 (nI i).toNatClampNeg) = (1 : Int32) then (1 : Int32) else (if (σ 22 (nI i).toNatClampNeg) = (2 : Int32) then (1 : Int32) else (0 : Int32))) → cP D cI cO A g cap N σ H → va_S A s.heap H locs → lv_has ls 7 [(5, .ref (g 6 (nI i).toNatClampNeg)), (4, .int (nI i)), (3, .int x3), (0, .ref (g 0 0)), (1, .ref (g 5 boat.toNatClampNeg)), (2, .int day)] → W p l e R s m args below meth c H locs cells slots Q (F0 m 54 ls [.int y2_t0]) := by
        intro y2_t0 H locs ls e_y2_t0 hP hS hl
        subst e_y2_t0
        refine lv_istore (lv' := [(6, .int (if (σ 22 (nI i).toNatClampNeg) = (1 : Int32) then (1 : Int32) else (if (σ 22 (nI i).toNatClampNeg) = (2 : Int32) then (1 : Int32) else (0 : Int32)))), (5, .ref (g 6 (nI i).toNatClampNeg)), (4, .int (nI i)), (3, .int x3), (0, .ref (g 0 0)), (1, .ref (g 5 boat.toNatClampNeg)), (2, .int day)]) hx hb dX5_crewMinutes_54 hl (by decide) rfl (fun ls hl => ?_)
        refine lv_iload hx hb dX5_crewMinutes_56 (lv_at hl 0 rfl) ?_
        have J_4 : ∀ (y4_l3 : Int32) (H : Heap) (locs : List Loc) (ls : Array Slot), y4_l3 = (if (if (σ 22 (nI i).toNatClampNeg) = (1 : Int32) then (1 : Int32) else (if (σ 22 (nI i).toNatClampNeg) = (2 : Int32) then (1 : Int32) else (0 : Int32))) = 0 then x3 else (if (σ 23 (nI i).toNatClampNeg) = boat then (if ((σ 26 (nI i).toNatClampNeg) / (1440 : Int32)) = day then (x3 + (σ 27 (nI i).toNatClampNeg)) else x3) else x3)) → cP D cI cO A g cap N σ H → va_S A s.heap H locs → lv_has ls 7 [(6, .int (if (σ 22 (nI i).toNatClampNeg) = (1 : Int32) then (1 : Int32) else (if (σ 22 (nI i).toNatClampNeg) = (2 : Int32) then (1 : Int32) else (0 : Int32)))), (5, .ref (g 6 (nI i).toNatClampNeg)), (4, .int (nI i)), (3, .int y4_l3), (0, .ref (g 0 0)), (1, .ref (g 5 boat.toNatClampNeg)), (2, .int day)] → W p l e R s m args below meth c H locs cells slots Q (F0 m 91 ls []) := by
          intro y4_l3 H locs ls e_y4_l3 hP hS hl
          subst e_y4_l3
          refine lv_iinc (v := nI (i + 1)) (lv' := [(4, .int (nI (i + 1))), (6, .int (if (σ 22 (nI i).toNatClampNeg) = (1 : Int32) then (1 : Int32) else (if (σ 22 (nI i).toNatClampNeg) = (2 : Int32) then (1 : Int32) else (0 : Int32)))), (5, .ref (g 6 (nI i).toNatClampNeg)), (3, .int (if (if (σ 22 (nI i).toNatClampNeg) = (1 : Int32) then (1 : Int32) else (if (σ 22 (nI i).toNatClampNeg) = (2 : Int32) then (1 : Int32) else (0 : Int32))) = 0 then x3 else (if (σ 23 (nI i).toNatClampNeg) = boat then (if ((σ 26 (nI i).toNatClampNeg) / (1440 : Int32)) = day then (x3 + (σ 27 (nI i).toNatClampNeg)) else x3) else x3))), (0, .ref (g 0 0)), (1, .ref (g 5 boat.toNatClampNeg)), (2, .int day)]) hx hb dX5_crewMinutes_91 hl (k := 2) rfl (by first | rfl | exact nI_1 _) (by decide) rfl (fun ls hl => ?_)
          refine lv_goto (tgt := 5) hx hb dX5_crewMinutes_94 (by decide) ?_
          exact ih (i + 1) (if (if (σ 22 (nI i).toNatClampNeg) = (1 : Int32) then (1 : Int32) else (if (σ 22 (nI i).toNatClampNeg) = (2 : Int32) then (1 : Int32) else (0 : Int32))) = 0 then x3 else (if (σ 23 (nI i).toNatClampNeg) = boat then (if ((σ 26 (nI i).toNatClampNeg) / (1440 : Int32)) = day then (x3 + (σ 27 (nI i).toNatClampNeg)) else x3) else x3)) H locs ls (by omega) (by omega) hfin hP hS (lv_sub hl [0, 3, 4, 5, 6] rfl)
        refine lv_if_eq (tgt := 91) hx hb dX5_crewMinutes_58 (by decide) (fun c_4 => ?_) (fun c_4 => ?_)
        · exact J_4 x3 H locs ls (if_pos c_4).symm hP hS (lv_sub hl [0, 1, 2, 3, 4, 5, 6] rfl)
        refine lv_aload hx hb dX5_crewMinutes_61 (lv_at hl 1 rfl) ?_
        refine cg_X3_boat E i_X3 hP (vp_in_nI (n := i) (by omega) (by omega)) (by decide +kernel) dX5_crewMinutes_63 ?_
        refine lv_aload_n hx hb dX5_crewMinutes_66 rfl (lv_at hl 5 rfl) ?_
        refine kacmp_ne (tgt := 91) E hP ⟨by decide, by decide⟩ ((hI.2.2.1 _ (vp_lt (vp_in_nI (n := i) (by omega) (by omega)))).1) h_boat (by omega) dX5_crewMinutes_67 (by decide) (fun c_5 => ?_) (fun c_5 => ?_)
        · exact J_4 x3 H locs ls ((if_neg c_5).symm.trans (if_neg c_4).symm) hP hS (lv_sub hl [0, 1, 2, 3, 4, 5, 6] rfl)
        refine lv_aload hx hb dX5_crewMinutes_70 (lv_at hl 1 rfl) ?_
        refine cg_X3_departure E i_X3 hP (vp_in_nI (n := i) (by omega) (by omega)) (by decide +kernel) dX5_crewMinutes_72 ?_
        refine lv_sipush (v := 1440) hx hb dX5_crewMinutes_75 (by decide) ?_
        refine lv_idiv hx hb dX5_crewMinutes_78 (by decide) ?_
        refine lv_iload_n hx hb dX5_crewMinutes_79 rfl (lv_at hl 6 rfl) ?_
        refine lv_icmp_ne (tgt := 91) hx hb dX5_crewMinutes_80 (by decide) (fun c_6 => ?_) (fun c_6 => ?_)
        · exact J_4 x3 H locs ls ((if_neg c_6).symm.trans ((if_pos c_5).symm.trans (if_neg c_4).symm)) hP hS (lv_sub hl [0, 1, 2, 3, 4, 5, 6] rfl)
        refine lv_iload_n hx hb dX5_crewMinutes_83 rfl (lv_at hl 3 rfl) ?_
        refine lv_aload hx hb dX5_crewMinutes_84 (lv_at hl 1 rfl) ?_
        refine cg_X3_duration E i_X3 hP (vp_in_nI (n := i) (by omega) (by omega)) (by decide +kernel) dX5_crewMinutes_86 ?_
        refine lv_iadd hx hb dX5_crewMinutes_89 ?_
        refine lv_istore_n (lv' := [(3, .int (x3 + (σ 27 (nI i).toNatClampNeg))), (6, .int (if (σ 22 (nI i).toNatClampNeg) = (1 : Int32) then (1 : Int32) else (if (σ 22 (nI i).toNatClampNeg) = (2 : Int32) then (1 : Int32) else (0 : Int32)))), (5, .ref (g 6 (nI i).toNatClampNeg)), (4, .int (nI i)), (0, .ref (g 0 0)), (1, .ref (g 5 boat.toNatClampNeg)), (2, .int day)]) hx hb dX5_crewMinutes_90 rfl hl (by decide) rfl (fun ls hl => ?_)
        exact J_4 (x3 + (σ 27 (nI i).toNatClampNeg)) H locs ls ((if_pos c_6).symm.trans ((if_pos c_5).symm.trans (if_neg c_4).symm)) hP hS (lv_sub hl [1, 2, 3, 0, 4, 5, 6] rfl)
      refine lv_icmp_eq (tgt := 49) hx hb dX5_crewMinutes_37 (by decide) (fun c_2 => ?_) (fun c_2 => ?_)
      · refine lv_iconst (v := 1) hx hb dX5_crewMinutes_49 (by decide) ?_
        refine lv_goto (tgt := 54) hx hb dX5_crewMinutes_50 (by decide) ?_
        exact J_2 (1 : Int32) H locs ls (if_pos c_2).symm hP hS (lv_sub hl [0, 1, 2, 3, 4, 5] rfl)
      refine lv_aload hx hb dX5_crewMinutes_40 (lv_at hl 0 rfl) ?_
      refine cg_X3_state E i_X3 hP (vp_in_nI (n := i) (by omega) (by omega)) (by decide +kernel) dX5_crewMinutes_42 ?_
      refine lv_iconst (v := 2) hx hb dX5_crewMinutes_45 (by decide) ?_
      refine lv_icmp_ne (tgt := 53) hx hb dX5_crewMinutes_46 (by decide) (fun c_3 => ?_) (fun c_3 => ?_)
      · refine lv_iconst (v := 0) hx hb dX5_crewMinutes_53 (by decide) ?_
        exact J_2 (0 : Int32) H locs ls ((if_neg c_3).symm.trans (if_neg c_2).symm) hP hS (lv_sub hl [0, 1, 2, 3, 4, 5] rfl)
      refine lv_iconst (v := 1) hx hb dX5_crewMinutes_49 (by decide) ?_
      refine lv_goto (tgt := 54) hx hb dX5_crewMinutes_50 (by decide) ?_
      exact J_2 (1 : Int32) H locs ls ((if_pos c_3).symm.trans (if_neg c_2).symm) hP hS (lv_sub hl [0, 1, 2, 3, 4, 5] rfl)
  exact L_7 61 0 (0 : Int32) H locs ls (by omega) (Nat.zero_le _) rfl hP hS (lv_sub hl [0, 1, 2, 3, 4] rfl)
set_option maxHeartbeats 4000000 in
set_option maxRecDepth 100000 in
theorem c_X5_crewMinutes (l : Launch) {D : va_G} {A : Nat → Prop} {cI cO : ClassId} {g : Gh} {cap N : Nat → Nat} (σ : St) (boat : Int32) (day : Int32) (hI : KI cap N σ) (h_boat : vp_in boat (N 5)) : Met l yX5_crewMinutes wsX5_crewMinutes ({ frames := 3, cells := 0, slots := 0, locals := 64 }) (va_Pc [.ref (g 0 0), .ref (g 5 boat.toNatClampNeg), .int day] (cU D cI cO A g cap N σ)) (va_Qi (fun r (_ : Unit) => r = q_X5_crewMinutes σ boat day) (fun _ t => cU D cI cO A g cap N (σ) t) A) 0 0 A := by
  refine Met.ofW (cc := cX5_crewMinutes) (maxL := 7) (ret := (some .int)) (by decide) rfl ?_
  intro p e s m args below meth c s₁ B hml hv
  obtain ⟨rfl, hP, hK⟩ := hv
  have E : kE p c cX5_crewMinutes s m ([.ref (g 0 0), .ref (g 5 boat.toNatClampNeg), .int day] : List Value).toArray wsX5_crewMinutes RX5 D cI cO := ⟨⟨B.exec, B.bytes⟩, atoms_spec (ws := wsX5_crewMinutes) B.pre, findClass_of_methodNamed B.named, hK⟩
  have hr := B.returns
  have hlocks := B.notSynchronized
  have hl := lv_entry ([.ref (g 0 0), .ref (g 5 boat.toNatClampNeg), .int day]) (n := 7) (Nat.le_of_ble_eq_true rfl)
  rw [lg_entry_eq]
  generalize (lg_sl ([.ref (g 0 0), .ref (g 5 boat.toNatClampNeg), .int day]) ++ List.replicate (7 - (lg_sl ([.ref (g 0 0), .ref (g 5 boat.toNatClampNeg), .int day])).length) Slot.unset).toArray = ls at hl ⊢
  refine w_X5_crewMinutes σ boat day hI h_boat E hml ⟨Nat.le_of_ble_eq_true rfl, Nat.le_of_ble_eq_true rfl⟩ ⟨Nat.zero_le _, Nat.zero_le _⟩ hP va_S.rf hl (fun pc v H1 locs1 ls1 hd hv hP1 hS1 => ?_)
  exact W.iret (v := v) B.exec B.bytes hr (fun t ht hW => ⟨⟨v, (), rfl, hv, by rw [ht]; exact hP1, va_K.moved hW.alike hK⟩, hS1.F ht⟩) hS1.2.2 hd
def q_X5_reasonAtDeparture (σ : St) (sailing : Int32) (departure : Int32) : Int32 := if (σ 20 (σ 23 sailing.toNatClampNeg).toNatClampNeg) = 0 then (if (σ 19 (σ 23 sailing.toNatClampNeg).toNatClampNeg) = (σ 24 sailing.toNatClampNeg) then (if (q_X0_fits σ (σ 23 sailing.toNatClampNeg) (σ 24 sailing.toNatClampNeg)) = 0 then (1 : Int32) else (if (q_X0_fits σ (σ 23 sailing.toNatClampNeg) (σ 25 sailing.toNatClampNeg)) = 0 then (1 : Int32) else (if ((q_X5_crewMinutes σ (σ 23 sailing.toNatClampNeg) (departure / (1440 : Int32))) + (σ 27 sailing.toNatClampNeg)) ≤ (720 : Int32) then (if (q_X2_waterAt σ (σ 24 sailing.toNatClampNeg) departure) < (σ 13 (σ 23 sailing.toNatClampNeg).toNatClampNeg) then (3 : Int32) else (if (σ 13 (σ 23 sailing.toNatClampNeg).toNatClampNeg) ≤ (q_X2_waterAt σ (σ 25 sailing.toNatClampNeg) (departure + (σ 27 sailing.toNatClampNeg))) then (q_X5_reasonOfNightOrSwell σ sailing (departure + (σ 27 sailing.toNatClampNeg))) else (3 : Int32))) else (2 : Int32)))) else (1 : Int32)) else (1 : Int32)
set_option maxHeartbeats 1000000 in
set_option maxRecDepth 100000 in
theorem w_X5_reasonAtDeparture {p : Program} {l : Launch} {e : Env} {R : Room} {s : State} {m : MethodId} {args : Array Value} {below : List Frame} {meth : Method} {c : Code} {H : Heap} {locs : List Loc} {cells slots : Nat} {Q : State → Prop} {D : va_G} {A : Nat → Prop} {cI cO : ClassId} {g : Gh} {cap N : Nat → Nat} {ls : Array Slot} (σ : St) (sailing : Int32) (departure : Int32) (hI : KI cap N σ) (h_sailing : vp_in sailing (N 6)) (E : kE p c cX5_reasonAtDeparture s m args wsX5_reasonAtDeparture RX5 D cI cO) (hml : c.maxLocals = 5) (hR : 4 ≤ R.frames ∧ 90 ≤ R.locals) (hf : cells ≤ R.cells ∧ slots ≤ R.slots) (hP : cP D cI cO A g cap N σ H) (hS : va_S A s.heap H locs) (hl : lv_has ls 5 [(0, .ref (g 0 0)), (1, .ref (g 6 sailing.toNatClampNeg)), (2, .int departure)]) (kr : ∀ (pc : Nat) (rv : Int32) (H1 : Heap) (locs1 : List Loc) (ls1 : Array Slot), decode cX5_reasonAtDeparture pc = .ok (.ireturn, 1) → rv = q_X5_reasonAtDeparture σ sailing departure → cP D cI cO A g cap N σ H1 → va_S A s.heap H1 locs1 → W p l e R s m args below meth c H1 locs1 cells slots Q (F0 m pc ls1 [.int rv])) : W p l e R s m args below meth c H locs cells slots Q (F0 m 0 ls []) := by
  have hx := E.1.1
  have hb := E.1.2
  have hts := E.2.1
  obtain ⟨n0, n4, n5, n6, n8, n7, n1, n2, n3⟩ := id hI.1
  have i_X0 : ∀ w ∈ wsX00, w ∈ wsX5_reasonAtDeparture := by decide +kernel
  have i_X2 : ∀ w ∈ wsX20, w ∈ wsX5_reasonAtDeparture := by decide +kernel
  have i_X3 : ∀ w ∈ wsX30, w ∈ wsX5_reasonAtDeparture := by decide +kernel
  have hq : q_X5_reasonAtDeparture σ sailing departure = if (σ 20 (σ 23 sailing.toNatClampNeg).toNatClampNeg) = 0 then (if (σ 19 (σ 23 sailing.toNatClampNeg).toNatClampNeg) = (σ 24 sailing.toNatClampNeg) then (if (q_X0_fits σ (σ 23 sailing.toNatClampNeg) (σ 24 sailing.toNatClampNeg)) = 0 then (1 : Int32) else (if (q_X0_fits σ (σ 23 sailing.toNatClampNeg) (σ 25 sailing.toNatClampNeg)) = 0 then (1 : Int32) else (if ((q_X5_crewMinutes σ (σ 23 sailing.toNatClampNeg) (departure / (1440 : Int32))) + (σ 27 sailing.toNatClampNeg)) ≤ (720 : Int32) then (if (q_X2_waterAt σ (σ 24 sailing.toNatClampNeg) departure) < (σ 13 (σ 23 sailing.toNatClampNeg).toNatClampNeg) then (3 : Int32) else (if (σ 13 (σ 23 sailing.toNatClampNeg).toNatClampNeg) ≤ (q_X2_waterAt σ (σ 25 sailing.toNatClampNeg) (departure + (σ 27 sailing.toNatClampNeg))) then (q_X5_reasonOfNightOrSwell σ sailing (departure + (σ 27 sailing.toNatClampNeg))) else (3 : Int32))) else (2 : Int32)))) else (1 : Int32)) else (1 : Int32) := rfl
  refine lv_aload_n hx hb dX5_reasonAtDeparture_0 rfl (lv_at hl 1 rfl) ?_
  refine cg_X3_boat E i_X3 hP h_sailing (by decide +kernel) dX5_reasonAtDeparture_1 ?_
  refine lv_astore_n (lv' := [(3, .ref (g 5 (σ 23 sailing.toNatClampNeg).toNatClampNeg)), (0, .ref (g 0 0)), (1, .ref (g 6 sailing.toNatClampNeg)), (2, .int departure)]) hx hb dX5_reasonAtDeparture_4 rfl hl (by decide) rfl (fun ls hl => ?_)
  refine lv_iload_n hx hb dX5_reasonAtDeparture_5 rfl (lv_at hl 3 rfl) ?_
  refine lv_aload_n hx hb dX5_reasonAtDeparture_6 rfl (lv_at hl 2 rfl) ?_
  refine cg_X3_duration E i_X3 hP h_sailing (by decide +kernel) dX5_reasonAtDeparture_7 ?_
  refine lv_iadd hx hb dX5_reasonAtDeparture_10 ?_
  refine lv_istore (lv' := [(4, .int (departure + (σ 27 sailing.toNatClampNeg))), (3, .ref (g 5 (σ 23 sailing.toNatClampNeg).toNatClampNeg)), (0, .ref (g 0 0)), (1, .ref (g 6 sailing.toNatClampNeg)), (2, .int departure)]) hx hb dX5_reasonAtDeparture_11 hl (by decide) rfl (fun ls hl => ?_)
  refine lv_aload_n hx hb dX5_reasonAtDeparture_13 rfl (lv_at hl 1 rfl) ?_
  refine cg_X0_isBroken E i_X0 hP ((hI.2.2.1 _ (vp_lt h_sailing)).1) (by decide +kernel) dX5_reasonAtDeparture_14 ?_
  refine lv_if_ne (tgt := 56) hx hb dX5_reasonAtDeparture_17 (by decide) (fun c_1 => ?_) (fun c_1 => ?_)
  · have hq := hq.trans (if_neg c_1)
    refine lv_iconst (v := 1) hx hb dX5_reasonAtDeparture_56 (by decide) ?_
    exact kr _ (1 : Int32) H locs ls dX5_reasonAtDeparture_57 hq.symm hP hS
  have hq := hq.trans (if_pos c_1)
  refine lv_aload_n hx hb dX5_reasonAtDeparture_20 rfl (lv_at hl 1 rfl) ?_
  refine cg_X0_pier E i_X0 hP ((hI.2.2.1 _ (vp_lt h_sailing)).1) (by decide +kernel) dX5_reasonAtDeparture_21 ?_
  refine lv_aload_n hx hb dX5_reasonAtDeparture_24 rfl (lv_at hl 3 rfl) ?_
  refine cg_X3_from E i_X3 hP h_sailing (by decide +kernel) dX5_reasonAtDeparture_25 ?_
  refine cg_X2_number E i_X2 hP ((hI.2.2.1 _ (vp_lt h_sailing)).2.1) (by omega) (by decide +kernel) dX5_reasonAtDeparture_28 ?_
  refine lv_icmp_ne (tgt := 56) hx hb dX5_reasonAtDeparture_31 (by decide) (fun c_2 => ?_) (fun c_2 => ?_)
  · have hq := hq.trans (if_neg c_2)
    refine lv_iconst (v := 1) hx hb dX5_reasonAtDeparture_56 (by decide) ?_
    exact kr _ (1 : Int32) H locs ls dX5_reasonAtDeparture_57 hq.symm hP hS
  have hq := hq.trans (if_pos c_2)
  refine lv_aload_n hx hb dX5_reasonAtDeparture_34 rfl (lv_at hl 1 rfl) ?_
  refine lv_aload_n hx hb dX5_reasonAtDeparture_35 rfl (lv_at hl 3 rfl) ?_
  refine cg_X3_from E i_X3 hP h_sailing (by decide +kernel) dX5_reasonAtDeparture_36 ?_
  refine kcV_i E hml hP hS (kr_5 E.2.2.2 hP ⟨by decide, vp_lt ((hI.2.2.1 _ (vp_lt h_sailing)).1), fun z => absurd z (by decide)⟩) (c_X0_fits l σ (σ 23 sailing.toNatClampNeg) (σ 24 sailing.toNatClampNeg) hI ((hI.2.2.1 _ (vp_lt h_sailing)).1) ((hI.2.2.1 _ (vp_lt h_sailing)).2.1)) (cwV 1 hts gX5_reasonAtDeparture_X0_fits rfl rfl rfl (by decide +kernel) ⟨Nat.le_trans (Nat.le_of_ble_eq_true rfl) hR.1, Nat.le_trans (Nat.le_of_ble_eq_true rfl) hR.2⟩) rfl hl.1 rfl (Nat.le_of_ble_eq_true rfl) dX5_reasonAtDeparture_39 hf (fun H locs hP hS => ?_)
  refine lv_if_eq (tgt := 56) hx hb dX5_reasonAtDeparture_42 (by decide) (fun c_3 => ?_) (fun c_3 => ?_)
  · have hq := hq.trans (if_pos c_3)
    refine lv_iconst (v := 1) hx hb dX5_reasonAtDeparture_56 (by decide) ?_
    exact kr _ (1 : Int32) H locs ls dX5_reasonAtDeparture_57 hq.symm hP hS
  have hq := hq.trans (if_neg c_3)
  refine lv_aload_n hx hb dX5_reasonAtDeparture_45 rfl (lv_at hl 1 rfl) ?_
  refine lv_aload_n hx hb dX5_reasonAtDeparture_46 rfl (lv_at hl 3 rfl) ?_
  refine cg_X3_to E i_X3 hP h_sailing (by decide +kernel) dX5_reasonAtDeparture_47 ?_
  refine kcV_i E hml hP hS (kr_5 E.2.2.2 hP ⟨by decide, vp_lt ((hI.2.2.1 _ (vp_lt h_sailing)).1), fun z => absurd z (by decide)⟩) (c_X0_fits l σ (σ 23 sailing.toNatClampNeg) (σ 25 sailing.toNatClampNeg) hI ((hI.2.2.1 _ (vp_lt h_sailing)).1) ((hI.2.2.1 _ (vp_lt h_sailing)).2.2)) (cwV 1 hts gX5_reasonAtDeparture_X0_fits rfl rfl rfl (by decide +kernel) ⟨Nat.le_trans (Nat.le_of_ble_eq_true rfl) hR.1, Nat.le_trans (Nat.le_of_ble_eq_true rfl) hR.2⟩) rfl hl.1 rfl (Nat.le_of_ble_eq_true rfl) dX5_reasonAtDeparture_50 hf (fun H locs hP hS => ?_)
  refine lv_if_ne (tgt := 58) hx hb dX5_reasonAtDeparture_53 (by decide) (fun c_4 => ?_) (fun c_4 => ?_)
  · have hq := hq.trans (if_neg c_4)
    refine lv_aload_n hx hb dX5_reasonAtDeparture_58 rfl (lv_at hl 2 rfl) ?_
    refine lv_aload_n hx hb dX5_reasonAtDeparture_59 rfl (lv_at hl 1 rfl) ?_
    refine lv_iload_n hx hb dX5_reasonAtDeparture_60 rfl (lv_at hl 4 rfl) ?_
    refine lv_sipush (v := 1440) hx hb dX5_reasonAtDeparture_61 (by decide) ?_
    refine lv_idiv hx hb dX5_reasonAtDeparture_64 (by decide) ?_
    refine kcV_i E hml hP hS (kr_0 E.2.2.2 hP ⟨by decide, by omega, fun z => absurd z (by decide)⟩) (c_X5_crewMinutes l σ (σ 23 sailing.toNatClampNeg) (departure / (1440 : Int32)) hI ((hI.2.2.1 _ (vp_lt h_sailing)).1)) (cwV 2 hts gX5_reasonAtDeparture_X5_crewMinutes rfl rfl rfl (by decide +kernel) ⟨Nat.le_trans (Nat.le_of_ble_eq_true rfl) hR.1, Nat.le_trans (Nat.le_of_ble_eq_true rfl) hR.2⟩) rfl hl.1 rfl (Nat.le_of_ble_eq_true rfl) dX5_reasonAtDeparture_65 hf (fun H locs hP hS => ?_)
    refine lv_aload_n hx hb dX5_reasonAtDeparture_68 rfl (lv_at hl 3 rfl) ?_
    refine cg_X3_duration E i_X3 hP h_sailing (by decide +kernel) dX5_reasonAtDeparture_69 ?_
    refine lv_iadd hx hb dX5_reasonAtDeparture_72 ?_
    refine lv_sipush (v := 720) hx hb dX5_reasonAtDeparture_73 (by decide) ?_
    refine lv_icmp_le (tgt := 81) hx hb dX5_reasonAtDeparture_76 (by decide) (fun c_5 => ?_) (fun c_5 => ?_)
    · have hq := hq.trans (if_pos c_5)
      refine lv_aload_n hx hb dX5_reasonAtDeparture_81 rfl (lv_at hl 3 rfl) ?_
      refine cg_X3_from E i_X3 hP h_sailing (by decide +kernel) dX5_reasonAtDeparture_82 ?_
      refine lv_iload_n hx hb dX5_reasonAtDeparture_85 rfl (lv_at hl 4 rfl) ?_
      refine kcV_i E hml hP hS (kr_4 E.2.2.2 hP ⟨by decide, vp_lt ((hI.2.2.1 _ (vp_lt h_sailing)).2.1), fun z => absurd z (by decide)⟩) (c_X2_waterAt l σ (σ 24 sailing.toNatClampNeg) departure hI ((hI.2.2.1 _ (vp_lt h_sailing)).2.1)) (cwV 1 hts gX5_reasonAtDeparture_X2_waterAt rfl rfl rfl (by decide +kernel) ⟨Nat.le_trans (Nat.le_of_ble_eq_true rfl) hR.1, Nat.le_trans (Nat.le_of_ble_eq_true rfl) hR.2⟩) rfl hl.1 rfl (Nat.le_of_ble_eq_true rfl) dX5_reasonAtDeparture_86 hf (fun H locs hP hS => ?_)
      refine lv_aload_n hx hb dX5_reasonAtDeparture_89 rfl (lv_at hl 1 rfl) ?_
      refine cg_X0_draught E i_X0 hP ((hI.2.2.1 _ (vp_lt h_sailing)).1) (by decide +kernel) dX5_reasonAtDeparture_90 ?_
      refine lv_icmp_lt (tgt := 112) hx hb dX5_reasonAtDeparture_93 (by decide) (fun c_6 => ?_) (fun c_6 => ?_)
      · have hq := hq.trans (if_pos c_6)
        refine lv_iconst (v := 3) hx hb dX5_reasonAtDeparture_112 (by decide) ?_
        exact kr _ (3 : Int32) H locs ls dX5_reasonAtDeparture_113 hq.symm hP hS
      have hq := hq.trans (if_neg c_6)
      refine lv_aload_n hx hb dX5_reasonAtDeparture_96 rfl (lv_at hl 3 rfl) ?_
      refine cg_X3_to E i_X3 hP h_sailing (by decide +kernel) dX5_reasonAtDeparture_97 ?_
      refine lv_iload hx hb dX5_reasonAtDeparture_100 (lv_at hl 0 rfl) ?_
      refine kcV_i E hml hP hS (kr_4 E.2.2.2 hP ⟨by decide, vp_lt ((hI.2.2.1 _ (vp_lt h_sailing)).2.2), fun z => absurd z (by decide)⟩) (c_X2_waterAt l σ (σ 25 sailing.toNatClampNeg) (departure + (σ 27 sailing.toNatClampNeg)) hI ((hI.2.2.1 _ (vp_lt h_sailing)).2.2)) (cwV 1 hts gX5_reasonAtDeparture_X2_waterAt rfl rfl rfl (by decide +kernel) ⟨Nat.le_trans (Nat.le_of_ble_eq_true rfl) hR.1, Nat.le_trans (Nat.le_of_ble_eq_true rfl) hR.2⟩) rfl hl.1 rfl (Nat.le_of_ble_eq_true rfl) dX5_reasonAtDeparture_102 hf (fun H locs hP hS => ?_)
      refine lv_aload_n hx hb dX5_reasonAtDeparture_105 rfl (lv_at hl 1 rfl) ?_
      refine cg_X0_draught E i_X0 hP ((hI.2.2.1 _ (vp_lt h_sailing)).1) (by decide +kernel) dX5_reasonAtDeparture_106 ?_
      refine lv_icmp_ge (tgt := 114) hx hb dX5_reasonAtDeparture_109 (by decide) (fun c_7 => ?_) (fun c_7 => ?_)
      · have hq := hq.trans (if_pos c_7)
        refine lv_aload_n hx hb dX5_reasonAtDeparture_114 rfl (lv_at hl 3 rfl) ?_
        refine lv_iload hx hb dX5_reasonAtDeparture_115 (lv_at hl 0 rfl) ?_
        refine kcS_i E hml hP hS (c_X5_reasonOfNightOrSwell l σ sailing (departure + (σ 27 sailing.toNatClampNeg)) hI h_sailing) (va_cwS 2 hts gX5_reasonAtDeparture_X5_reasonOfNightOrSwell rfl rfl rfl (by decide +kernel) ⟨Nat.le_trans (Nat.le_of_ble_eq_true rfl) hR.1, Nat.le_trans (Nat.le_of_ble_eq_true rfl) hR.2⟩) rfl hl.1 rfl (Nat.le_of_ble_eq_true rfl) dX5_reasonAtDeparture_117 hf (fun H locs hP hS => ?_)
        exact kr _ (q_X5_reasonOfNightOrSwell σ sailing (departure + (σ 27 sailing.toNatClampNeg))) H locs ls dX5_reasonAtDeparture_120 hq.symm hP hS
      have hq := hq.trans (if_neg c_7)
      refine lv_iconst (v := 3) hx hb dX5_reasonAtDeparture_112 (by decide) ?_
      exact kr _ (3 : Int32) H locs ls dX5_reasonAtDeparture_113 hq.symm hP hS
    have hq := hq.trans (if_neg c_5)
    refine lv_iconst (v := 2) hx hb dX5_reasonAtDeparture_79 (by decide) ?_
    exact kr _ (2 : Int32) H locs ls dX5_reasonAtDeparture_80 hq.symm hP hS
  have hq := hq.trans (if_pos c_4)
  refine lv_iconst (v := 1) hx hb dX5_reasonAtDeparture_56 (by decide) ?_
  exact kr _ (1 : Int32) H locs ls dX5_reasonAtDeparture_57 hq.symm hP hS
set_option maxHeartbeats 4000000 in
set_option maxRecDepth 100000 in
theorem c_X5_reasonAtDeparture (l : Launch) {D : va_G} {A : Nat → Prop} {cI cO : ClassId} {g : Gh} {cap N : Nat → Nat} (σ : St) (sailing : Int32) (departure : Int32) (hI : KI cap N σ) (h_sailing : vp_in sailing (N 6)) : Met l yX5_reasonAtDeparture wsX5_reasonAtDeparture ({ frames := 4, cells := 0, slots := 0, locals := 90 }) (va_Pc [.ref (g 0 0), .ref (g 6 sailing.toNatClampNeg), .int departure] (cU D cI cO A g cap N σ)) (va_Qi (fun r (_ : Unit) => r = q_X5_reasonAtDeparture σ sailing departure) (fun _ t => cU D cI cO A g cap N (σ) t) A) 0 0 A := by
  refine Met.ofW (cc := cX5_reasonAtDeparture) (maxL := 5) (ret := (some .int)) (by decide) rfl ?_
  intro p e s m args below meth c s₁ B hml hv
  obtain ⟨rfl, hP, hK⟩ := hv
  have E : kE p c cX5_reasonAtDeparture s m ([.ref (g 0 0), .ref (g 6 sailing.toNatClampNeg), .int departure] : List Value).toArray wsX5_reasonAtDeparture RX5 D cI cO := ⟨⟨B.exec, B.bytes⟩, atoms_spec (ws := wsX5_reasonAtDeparture) B.pre, findClass_of_methodNamed B.named, hK⟩
  have hr := B.returns
  have hlocks := B.notSynchronized
  have hl := lv_entry ([.ref (g 0 0), .ref (g 6 sailing.toNatClampNeg), .int departure]) (n := 5) (Nat.le_of_ble_eq_true rfl)
  rw [lg_entry_eq]
  generalize (lg_sl ([.ref (g 0 0), .ref (g 6 sailing.toNatClampNeg), .int departure]) ++ List.replicate (5 - (lg_sl ([.ref (g 0 0), .ref (g 6 sailing.toNatClampNeg), .int departure])).length) Slot.unset).toArray = ls at hl ⊢
  refine w_X5_reasonAtDeparture σ sailing departure hI h_sailing E hml ⟨Nat.le_of_ble_eq_true rfl, Nat.le_of_ble_eq_true rfl⟩ ⟨Nat.zero_le _, Nat.zero_le _⟩ hP va_S.rf hl (fun pc v H1 locs1 ls1 hd hv hP1 hS1 => ?_)
  exact W.iret (v := v) B.exec B.bytes hr (fun t ht hW => ⟨⟨v, (), rfl, hv, by rw [ht]; exact hP1, va_K.moved hW.alike hK⟩, hS1.F ht⟩) hS1.2.2 hd
