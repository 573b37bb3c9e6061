def q_X3_arrival (σ : St) (own : Int32) : Int32 := (σ 26 own.toNatClampNeg) + (σ 27 own.toNatClampNeg)
set_option maxHeartbeats 1000000 in
set_option maxRecDepth 100000 in
theorem w_X3_arrival {p : Program} {l : Launch} {e : Env} {R : Room} {s : State} {m : MethodId} {args : Array Value} {below : List Frame} {meth : Method} {c : Code} {H : Heap} {locs : List Loc} {cells slots : Nat} {Q : State → Prop} {D : va_G} {A : Nat → Prop} {cI cO : ClassId} {g : Gh} {cap N : Nat → Nat} {ls : Array Slot} (σ : St) (own : Int32) (hI : KI cap N σ) (h_own : vp_in own (N 6)) (E : kE p c cX3_arrival s m args wsX3_arrival RX3 D cI cO) (hml : c.maxLocals = 1) (hR : 0 ≤ R.frames ∧ 0 ≤ R.locals) (hf : cells ≤ R.cells ∧ slots ≤ R.slots) (hP : cP D cI cO A g cap N σ H) (hS : va_S A s.heap H locs) (hl : lv_has ls 1 [(0, .ref (g 6 own.toNatClampNeg))]) (kr : ∀ (pc : Nat) (rv : Int32) (H1 : Heap) (locs1 : List Loc) (ls1 : Array Slot), decode cX3_arrival pc = .ok (.ireturn, 1) → rv = q_X3_arrival σ own → cP D cI cO A g cap N σ H1 → va_S A s.heap H1 locs1 → W p l e R s m args below meth c H1 locs1 cells slots Q (F0 m pc ls1 [.int rv])) : W p l e R s m args below meth c H locs cells slots Q (F0 m 0 ls []) := by
  have hx := E.1.1
  have hb := E.1.2
  have hts := E.2.1
  obtain ⟨n0, n4, n5, n6, n8, n7, n1, n2, n3⟩ := id hI.1
  have i_X3 : ∀ w ∈ wsX30, w ∈ wsX3_arrival := by decide +kernel
  have hq : q_X3_arrival σ own = (σ 26 own.toNatClampNeg) + (σ 27 own.toNatClampNeg) := rfl
  refine lv_aload_n hx hb dX3_arrival_0 rfl (lv_at hl 0 rfl) ?_
  refine cg_X3_departure E i_X3 hP h_own (by decide +kernel) dX3_arrival_1 ?_
  refine lv_aload_n hx hb dX3_arrival_4 rfl (lv_at hl 0 rfl) ?_
  refine cg_X3_duration E i_X3 hP h_own (by decide +kernel) dX3_arrival_5 ?_
  refine lv_iadd hx hb dX3_arrival_8 ?_
  exact kr _ ((σ 26 own.toNatClampNeg) + (σ 27 own.toNatClampNeg)) H locs ls dX3_arrival_9 hq.symm hP hS
set_option maxHeartbeats 4000000 in
set_option maxRecDepth 100000 in
theorem c_X3_arrival (l : Launch) {D : va_G} {A : Nat → Prop} {cI cO : ClassId} {g : Gh} {cap N : Nat → Nat} (σ : St) (own : Int32) (hI : KI cap N σ) (h_own : vp_in own (N 6)) : Met l yX3_arrival wsX3_arrival ({ frames := 0, cells := 0, slots := 0, locals := 0 }) (va_Pc [.ref (g 6 own.toNatClampNeg)] (cU D cI cO A g cap N σ)) (va_Qi (fun r (_ : Unit) => r = q_X3_arrival σ own) (fun _ t => cU D cI cO A g cap N (σ) t) A) 0 0 A := by
  refine Met.ofW (cc := cX3_arrival) (maxL := 1) (ret := (some .int)) (by decide) rfl ?_
  intro p e s m args below meth c s₁ B hml hv
  obtain ⟨rfl, hP, hK⟩ := hv
  have E : kE p c cX3_arrival s m ([.ref (g 6 own.toNatClampNeg)] : List Value).toArray wsX3_arrival RX3 D cI cO := ⟨⟨B.exec, B.bytes⟩, atoms_spec (ws := wsX3_arrival) B.pre, findClass_of_methodNamed B.named, hK⟩
  have hr := B.returns
  have hlocks := B.notSynchronized
  have hl := lv_entry ([.ref (g 6 own.toNatClampNeg)]) (n := 1) (Nat.le_of_ble_eq_true rfl)
  rw [lg_entry_eq]
  generalize (lg_sl ([.ref (g 6 own.toNatClampNeg)]) ++ List.replicate (1 - (lg_sl ([.ref (g 6 own.toNatClampNeg)])).length) Slot.unset).toArray = ls at hl ⊢
  refine w_X3_arrival σ own hI h_own E hml ⟨Nat.le_of_ble_eq_true rfl, Nat.le_of_ble_eq_true rfl⟩ ⟨Nat.zero_le _, Nat.zero_le _⟩ hP va_S.rf hl (fun pc v H1 locs1 ls1 hd hv hP1 hS1 => ?_)
  exact W.iret (v := v) B.exec B.bytes hr (fun t ht hW => ⟨⟨v, (), rfl, hv, by rw [ht]; exact hP1, va_K.moved hW.alike hK⟩, hS1.F ht⟩) hS1.2.2 hd
def q_X3_opposite (σ : St) (own : Int32) (side : Int32) : Int32 := if side = ((2 : Int32) * own) then (((2 : Int32) * own) + (1 : Int32)) else ((2 : Int32) * own)
set_option maxHeartbeats 1000000 in
set_option maxRecDepth 100000 in
theorem w_X3_opposite {p : Program} {l : Launch} {e : Env} {R : Room} {s : State} {m : MethodId} {args : Array Value} {below : List Frame} {meth : Method} {c : Code} {H : Heap} {locs : List Loc} {cells slots : Nat} {Q : State → Prop} {D : va_G} {A : Nat → Prop} {cI cO : ClassId} {g : Gh} {cap N : Nat → Nat} {ls : Array Slot} (σ : St) (own : Int32) (side : Int32) (hI : KI cap N σ) (h_own : vp_in own (N 6)) (h_side : vp_in side (N 7)) (E : kE p c cX3_opposite s m args wsX3_opposite RX3 D cI cO) (hml : c.maxLocals = 2) (hR : 0 ≤ R.frames ∧ 0 ≤ R.locals) (hf : cells ≤ R.cells ∧ slots ≤ R.slots) (hP : cP D cI cO A g cap N σ H) (hS : va_S A s.heap H locs) (hl : lv_has ls 2 [(0, .ref (g 6 own.toNatClampNeg)), (1, .ref (g 7 side.toNatClampNeg))]) (kr : ∀ (pc : Nat) (rv : Int32) (H1 : Heap) (locs1 : List Loc) (ls1 : Array Slot), decode cX3_opposite pc = .ok (.areturn, 1) → rv = q_X3_opposite σ own side → cP D cI cO A g cap N σ H1 → va_S A s.heap H1 locs1 → W p l e R s m args below meth c H1 locs1 cells slots Q (F0 m pc ls1 [.ref (g 7 rv.toNatClampNeg)])) : W p l e R s m args below meth c H locs cells slots Q (F0 m 0 ls []) := by
  have hx := E.1.1
  have hb := E.1.2
  have hts := E.2.1
  obtain ⟨n0, n4, n5, n6, n8, n7, n1, n2, n3⟩ := id hI.1
  have i_X3 : ∀ w ∈ wsX30, w ∈ wsX3_opposite := by decide +kernel
  have hq : q_X3_opposite σ own side = if side = ((2 : Int32) * own) then (((2 : Int32) * own) + (1 : Int32)) else ((2 : Int32) * own) := rfl
  refine lv_aload_n hx hb dX3_opposite_0 rfl (lv_at hl 1 rfl) ?_
  refine lv_aload_n hx hb dX3_opposite_1 rfl (lv_at hl 0 rfl) ?_
  refine cg_X3_firstSide E i_X3 hP h_own (by omega) (by decide +kernel) dX3_opposite_2 ?_
  have J_1 : ∀ (y1_t0 : Int32) (H : Heap) (locs : List Loc) (ls : Array Slot), y1_t0 = (if side = ((2 : Int32) * own) then (((2 : Int32) * own) + (1 : Int32)) else ((2 : Int32) * own)) → cP D cI cO A g cap N σ H → va_S A s.heap H locs → lv_has ls 2 [(0, .ref (g 6 own.toNatClampNeg)), (1, .ref (g 7 side.toNatClampNeg))] → W p l e R s m args below meth c H locs cells slots Q (F0 m 19 ls [.ref (g 7 y1_t0.toNatClampNeg)]) := by
    intro y1_t0 H locs ls e_y1_t0 hP hS hl
    subst e_y1_t0
    exact kr _ (if side = ((2 : Int32) * own) then (((2 : Int32) * own) + (1 : Int32)) else ((2 : Int32) * own)) H locs ls dX3_opposite_19 hq.symm hP hS
  refine kacmp_ne (tgt := 15) E hP ⟨by decide, by decide⟩ h_side (s7a hI.1 h_own) (by omega) dX3_opposite_5 (by decide) (fun c_1 => ?_) (fun c_1 => ?_)
  · refine lv_aload_n hx hb dX3_opposite_15 rfl (lv_at hl 0 rfl) ?_
    refine cg_X3_firstSide E i_X3 hP h_own (by omega) (by decide +kernel) dX3_opposite_16 ?_
    exact J_1 ((2 : Int32) * own) H locs ls (if_neg c_1).symm hP hS (lv_sub hl [0, 1] rfl)
  refine lv_aload_n hx hb dX3_opposite_8 rfl (lv_at hl 0 rfl) ?_
  refine cg_X3_secondSide E i_X3 hP h_own (by omega) (by decide +kernel) dX3_opposite_9 ?_
  refine lv_goto (tgt := 19) hx hb dX3_opposite_12 (by decide) ?_
  exact J_1 (((2 : Int32) * own) + (1 : Int32)) H locs ls (if_pos c_1).symm hP hS (lv_sub hl [0, 1] rfl)
set_option maxHeartbeats 4000000 in
set_option maxRecDepth 100000 in
theorem c_X3_opposite (l : Launch) {D : va_G} {A : Nat → Prop} {cI cO : ClassId} {g : Gh} {cap N : Nat → Nat} (σ : St) (own : Int32) (side : Int32) (hI : KI cap N σ) (h_own : vp_in own (N 6)) (h_side : vp_in side (N 7)) : Met l yX3_opposite wsX3_opposite ({ frames := 0, cells := 0, slots := 0, locals := 0 }) (va_Pc [.ref (g 6 own.toNatClampNeg), .ref (g 7 side.toNatClampNeg)] (cU D cI cO A g cap N σ)) (va_Qr (fun (_ : Unit) => True) (fun _ ra t => ra = g 7 (q_X3_opposite σ own side).toNatClampNeg ∧ cU D cI cO A g cap N (σ) t) A) 0 0 A := by
  refine Met.ofW (cc := cX3_opposite) (maxL := 2) (ret := (some (.object "IsleBoats$Side"))) (by decide) rfl ?_
  intro p e s m args below meth c s₁ B hml hv
  obtain ⟨rfl, hP, hK⟩ := hv
  have E : kE p c cX3_opposite s m ([.ref (g 6 own.toNatClampNeg), .ref (g 7 side.toNatClampNeg)] : List Value).toArray wsX3_opposite RX3 D cI cO := ⟨⟨B.exec, B.bytes⟩, atoms_spec (ws := wsX3_opposite) B.pre, findClass_of_methodNamed B.named, hK⟩
  have hr := B.returns
  have hlocks := B.notSynchronized
  have hl := lv_entry ([.ref (g 6 own.toNatClampNeg), .ref (g 7 side.toNatClampNeg)]) (n := 2) (Nat.le_of_ble_eq_true rfl)
  rw [lg_entry_eq]
  generalize (lg_sl ([.ref (g 6 own.toNatClampNeg), .ref (g 7 side.toNatClampNeg)]) ++ List.replicate (2 - (lg_sl ([.ref (g 6 own.toNatClampNeg), .ref (g 7 side.toNatClampNeg)])).length) Slot.unset).toArray = ls at hl ⊢
  refine w_X3_opposite σ own side hI h_own h_side E hml ⟨Nat.le_of_ble_eq_true rfl, Nat.le_of_ble_eq_true rfl⟩ ⟨Nat.zero_le _, Nat.zero_le _⟩ hP va_S.rf hl (fun pc v H1 locs1 ls1 hd hv hP1 hS1 => ?_)
  exact W.aret (v := .ref (g 7 v.toNatClampNeg)) B.exec B.bytes hr (Or.inl ⟨_, rfl⟩) (Or.inr ⟨_, rfl⟩) (fun t ht hW => ⟨⟨(), _, rfl, trivial, by rw [hv], by rw [ht]; exact hP1, va_K.moved hW.alike hK⟩, hS1.F ht⟩) hS1.2.2 hd
theorem opp_in {cap N : Nat → Nat} {σ : St} {own side : Int32} (hI : KI cap N σ) (h_own : vp_in own (N 6)) : vp_in (q_X3_opposite σ own side) (N 7) := in_if (s7b hI.1 h_own) (s7a hI.1 h_own)
def q_X3_hasLength (σ : St) (own : Int32) (side : Int32) (b_ : Int32) : Int32 := if (σ 14 (σ 23 own.toNatClampNeg).toNatClampNeg) < ((σ 33 side.toNatClampNeg) + (σ 38 b_.toNatClampNeg)) then (0 : Int32) else (1 : Int32)
set_option maxHeartbeats 1000000 in
set_option maxRecDepth 100000 in
theorem w_X3_hasLength {p : Program} {l : Launch} {e : Env} {R : Room} {s : State} {m : MethodId} {args : Array Value} {below : List Frame} {meth : Method} {c : Code} {H : Heap} {locs : List Loc} {cells slots : Nat} {Q : State → Prop} {D : va_G} {A : Nat → Prop} {cI cO : ClassId} {g : Gh} {cap N : Nat → Nat} {ls : Array Slot} (σ : St) (own : Int32) (side : Int32) (b_ : Int32) (hI : KI cap N σ) (h_own : vp_in own (N 6)) (h_side : vp_in side (N 7)) (h_b_ : vp_in b_ (N 8)) (E : kE p c cX3_hasLength s m args wsX3_hasLength RX3 D cI cO) (hml : c.maxLocals = 3) (hR : 0 ≤ R.frames ∧ 0 ≤ R.locals) (hf : cells ≤ R.cells ∧ slots ≤ R.slots) (hP : cP D cI cO A g cap N σ H) (hS : va_S A s.heap H locs) (hl : lv_has ls 3 [(0, .ref (g 6 own.toNatClampNeg)), (1, .ref (g 7 side.toNatClampNeg)), (2, .ref (g 8 b_.toNatClampNeg))]) (kr : ∀ (pc : Nat) (rv : Int32) (H1 : Heap) (locs1 : List Loc) (ls1 : Array Slot), decode cX3_hasLength pc = .ok (.ireturn, 1) → rv = q_X3_hasLength σ own side b_ → cP D cI cO A g cap N σ H1 → va_S A s.heap H1 locs1 → W p l e R s m args below meth c H1 locs1 cells slots Q (F0 m pc ls1 [.int rv])) : W p l e R s m args below meth c H locs cells slots Q (F0 m 0 ls []) := by
  have hx := E.1.1
  have hb := E.1.2
  have hts := E.2.1
  obtain ⟨n0, n4, n5, n6, n8, n7, n1, n2, n3⟩ := id hI.1
  have i_X0 : ∀ w ∈ wsX00, w ∈ wsX3_hasLength := by decide +kernel
  have i_X1 : ∀ w ∈ wsX10, w ∈ wsX3_hasLength := by decide +kernel
  have i_X3 : ∀ w ∈ wsX30, w ∈ wsX3_hasLength := by decide +kernel
  have i_X4 : ∀ w ∈ wsX40, w ∈ wsX3_hasLength := by decide +kernel
  have hq : q_X3_hasLength σ own side b_ = if (σ 14 (σ 23 own.toNatClampNeg).toNatClampNeg) < ((σ 33 side.toNatClampNeg) + (σ 38 b_.toNatClampNeg)) then (0 : Int32) else (1 : Int32) := rfl
  refine lv_aload_n hx hb dX3_hasLength_0 rfl (lv_at hl 1 rfl) ?_
  refine cg_X4_length E i_X4 hP h_side (by decide +kernel) dX3_hasLength_1 ?_
  refine lv_aload_n hx hb dX3_hasLength_4 rfl (lv_at hl 2 rfl) ?_
  refine cg_X1_length E i_X1 hP h_b_ (by decide +kernel) dX3_hasLength_5 ?_
  refine lv_iadd hx hb dX3_hasLength_8 ?_
  refine lv_aload_n hx hb dX3_hasLength_9 rfl (lv_at hl 0 rfl) ?_
  refine cg_X3_boat E i_X3 hP h_own (by decide +kernel) dX3_hasLength_10 ?_
  refine cg_X0_length E i_X0 hP ((hI.2.2.1 _ (vp_lt h_own)).1) (by decide +kernel) dX3_hasLength_13 ?_
  have J_1 : ∀ (y1_t0 : Int32) (H : Heap) (locs : List Loc) (ls : Array Slot), y1_t0 = (if (σ 14 (σ 23 own.toNatClampNeg).toNatClampNeg) < ((σ 33 side.toNatClampNeg) + (σ 38 b_.toNatClampNeg)) then (0 : Int32) else (1 : Int32)) → cP D cI cO A g cap N σ H → va_S A s.heap H locs → lv_has ls 3 [(0, .ref (g 6 own.toNatClampNeg)), (1, .ref (g 7 side.toNatClampNeg)), (2, .ref (g 8 b_.toNatClampNeg))] → W p l e R s m args below meth c H locs cells slots Q (F0 m 24 ls [.int y1_t0]) := by
    intro y1_t0 H locs ls e_y1_t0 hP hS hl
    subst e_y1_t0
    exact kr _ (if (σ 14 (σ 23 own.toNatClampNeg).toNatClampNeg) < ((σ 33 side.toNatClampNeg) + (σ 38 b_.toNatClampNeg)) then (0 : Int32) else (1 : Int32)) H locs ls dX3_hasLength_24 hq.symm hP hS
  refine lv_icmp_gt (tgt := 23) hx hb dX3_hasLength_16 (by decide) (fun c_1 => ?_) (fun c_1 => ?_)
  · refine lv_iconst (v := 0) hx hb dX3_hasLength_23 (by decide) ?_
    exact J_1 (0 : Int32) H locs ls (if_pos c_1).symm hP hS (lv_sub hl [0, 1, 2] rfl)
  refine lv_iconst (v := 1) hx hb dX3_hasLength_19 (by decide) ?_
  refine lv_goto (tgt := 24) hx hb dX3_hasLength_20 (by decide) ?_
  exact J_1 (1 : Int32) H locs ls (if_neg c_1).symm hP hS (lv_sub hl [0, 1, 2] rfl)
theorem b_X3_hasLength (σ : St) (own : Int32) (side : Int32) (b_ : Int32) : isB (q_X3_hasLength σ own side b_) := by
  unfold q_X3_hasLength; repeat (first | exact isB0 | exact isB1 | apply isB_if)
set_option maxHeartbeats 4000000 in
set_option maxRecDepth 100000 in
theorem c_X3_hasLength (l : Launch) {D : va_G} {A : Nat → Prop} {cI cO : ClassId} {g : Gh} {cap N : Nat → Nat} (σ : St) (own : Int32) (side : Int32) (b_ : Int32) (hI : KI cap N σ) (h_own : vp_in own (N 6)) (h_side : vp_in side (N 7)) (h_b_ : vp_in b_ (N 8)) : Met l yX3_hasLength wsX3_hasLength ({ frames := 0, cells := 0, slots := 0, locals := 0 }) (va_Pc [.ref (g 6 own.toNatClampNeg), .ref (g 7 side.toNatClampNeg), .ref (g 8 b_.toNatClampNeg)] (cU D cI cO A g cap N σ)) (va_Qi (fun r (_ : Unit) => r = q_X3_hasLength σ own side b_) (fun _ t => cU D cI cO A g cap N (σ) t) A) 0 0 A := by
  refine Met.ofW (cc := cX3_hasLength) (maxL := 3) (ret := (some .boolean)) (by decide) rfl ?_
  intro p e s m args below meth c s₁ B hml hv
  obtain ⟨rfl, hP, hK⟩ := hv
  have E : kE p c cX3_hasLength s m ([.ref (g 6 own.toNatClampNeg), .ref (g 7 side.toNatClampNeg), .ref (g 8 b_.toNatClampNeg)] : List Value).toArray wsX3_hasLength RX3 D cI cO := ⟨⟨B.exec, B.bytes⟩, atoms_spec (ws := wsX3_hasLength) B.pre, findClass_of_methodNamed B.named, hK⟩
  have hr := B.returns
  have hlocks := B.notSynchronized
  have hl := lv_entry ([.ref (g 6 own.toNatClampNeg), .ref (g 7 side.toNatClampNeg), .ref (g 8 b_.toNatClampNeg)]) (n := 3) (Nat.le_of_ble_eq_true rfl)
  rw [lg_entry_eq]
  generalize (lg_sl ([.ref (g 6 own.toNatClampNeg), .ref (g 7 side.toNatClampNeg), .ref (g 8 b_.toNatClampNeg)]) ++ List.replicate (3 - (lg_sl ([.ref (g 6 own.toNatClampNeg), .ref (g 7 side.toNatClampNeg), .ref (g 8 b_.toNatClampNeg)])).length) Slot.unset).toArray = ls at hl ⊢
  refine w_X3_hasLength σ own side b_ hI h_own h_side h_b_ E hml ⟨Nat.le_of_ble_eq_true rfl, Nat.le_of_ble_eq_true rfl⟩ ⟨Nat.zero_le _, Nat.zero_le _⟩ hP va_S.rf hl (fun pc v H1 locs1 ls1 hd hv hP1 hS1 => ?_)
  exact W.zret (v := v) B.exec B.bytes hr (by rw [hv]; exact isB_n (b_X3_hasLength σ own side b_)) (fun t ht hW => ⟨⟨v, (), rfl, hv, by rw [ht]; exact hP1, va_K.moved hW.alike hK⟩, hS1.F ht⟩) hS1.2.2 hd
def k47t0_X3_canTake (σ : St) (own : Int32) (side : Int32) (b_ : Int32) : Int32 := if (q_X3_hasLength σ own side b_) = 0 then (0 : Int32) else (if (σ 16 (σ 23 own.toNatClampNeg).toNatClampNeg) < (if 0 ≤ (((σ 32 side.toNatClampNeg) + (σ 39 b_.toNatClampNeg)) - (σ 32 (q_X3_opposite σ own side).toNatClampNeg)) then (((σ 32 side.toNatClampNeg) + (σ 39 b_.toNatClampNeg)) - (σ 32 (q_X3_opposite σ own side).toNatClampNeg)) else (0 - (((σ 32 side.toNatClampNeg) + (σ 39 b_.toNatClampNeg)) - (σ 32 (q_X3_opposite σ own side).toNatClampNeg)))) then (0 : Int32) else (1 : Int32))
def q_X3_canTake (σ : St) (own : Int32) (side : Int32) (b_ : Int32) : Int32 := k47t0_X3_canTake σ own side b_
set_option maxHeartbeats 1000000 in
set_option maxRecDepth 100000 in
theorem w_X3_canTake {p : Program} {l : Launch} {e : Env} {R : Room} {s : State} {m : MethodId} {args : Array Value} {below : List Frame} {meth : Method} {c : Code} {H : Heap} {locs : List Loc} {cells slots : Nat} {Q : State → Prop} {D : va_G} {A : Nat → Prop} {cI cO : ClassId} {g : Gh} {cap N : Nat → Nat} {ls : Array Slot} (σ : St) (own : Int32) (side : Int32) (b_ : Int32) (hI : KI cap N σ) (h_own : vp_in own (N 6)) (h_side : vp_in side (N 7)) (h_b_ : vp_in b_ (N 8)) (E : kE p c cX3_canTake s m args wsX3_canTake RX3 D cI cO) (hml : c.maxLocals = 4) (hR : 1 ≤ R.frames ∧ 22 ≤ R.locals) (hf : cells ≤ R.cells ∧ slots ≤ R.slots) (hP : cP D cI cO A g cap N σ H) (hS : va_S A s.heap H locs) (hl : lv_has ls 4 [(0, .ref (g 6 own.toNatClampNeg)), (1, .ref (g 7 side.toNatClampNeg)), (2, .ref (g 8 b_.toNatClampNeg))]) (kr : ∀ (pc : Nat) (rv : Int32) (H1 : Heap) (locs1 : List Loc) (ls1 : Array Slot), decode cX3_canTake pc = .ok (.ireturn, 1) → rv = q_X3_canTake σ own side b_ → cP D cI cO A g cap N σ H1 → va_S A s.heap H1 locs1 → W p l e R s m args below meth c H1 locs1 cells slots Q (F0 m pc ls1 [.int rv])) : W p l e R s m args below meth c H locs cells slots Q (F0 m 0 ls []) := by
  have hx := E.1.1
  have hb := E.1.2
  have hts := E.2.1
  obtain ⟨n0, n4, n5, n6, n8, n7, n1, n2, n3⟩ := id hI.1
  have i_X0 : ∀ w ∈ wsX00, w ∈ wsX3_canTake := by decide +kernel
  have i_X1 : ∀ w ∈ wsX10, w ∈ wsX3_canTake := by decide +kernel
  have i_X3 : ∀ w ∈ wsX30, w ∈ wsX3_canTake := by decide +kernel
  have i_X4 : ∀ w ∈ wsX40, w ∈ wsX3_canTake := by decide +kernel
  have hq : q_X3_canTake σ own side b_ = k47t0_X3_canTake σ own side b_ := rfl
  refine lv_aload_n hx hb dX3_canTake_0 rfl (lv_at hl 1 rfl) ?_
  refine cg_X4_weight E i_X4 hP h_side (by decide +kernel) dX3_canTake_1 ?_
  refine lv_aload_n hx hb dX3_canTake_4 rfl (lv_at hl 2 rfl) ?_
  refine cg_X1_weight E i_X1 hP h_b_ (by decide +kernel) dX3_canTake_5 ?_
  refine lv_iadd hx hb dX3_canTake_8 ?_
  refine lv_aload_n hx hb dX3_canTake_9 rfl (lv_at hl 0 rfl) ?_
  refine lv_aload_n hx hb dX3_canTake_10 rfl (lv_at hl 1 rfl) ?_
  refine kcV_r E hml hP hS (kr_6 E.2.2.2 hP ⟨by decide, vp_lt h_own, fun z => absurd z (by decide)⟩) (c_X3_opposite l σ own side hI h_own h_side) (cwV 1 hts gX3_canTake_X3_opposite rfl rfl rfl (by decide +kernel) ⟨Nat.le_trans (Nat.le_of_ble_eq_true rfl) hR.1, Nat.le_trans (Nat.le_of_ble_eq_true rfl) hR.2⟩) rfl hl.1 rfl (Nat.le_of_ble_eq_true rfl) dX3_canTake_11 hf (fun H locs hP hS => ?_)
  refine cg_X4_weight E i_X4 hP (opp_in hI h_own) (by decide +kernel) dX3_canTake_14 ?_
  refine lv_isub hx hb dX3_canTake_17 ?_
  refine kmabs E hml hl.1 ⟨by decide +kernel, by decide +kernel, by decide +kernel, by decide +kernel⟩ (Nat.le_trans (Nat.le_of_ble_eq_true rfl) hR.1) (Nat.le_trans (Nat.le_of_ble_eq_true rfl) hR.2) hf dX3_canTake_18 ?_
  refine lv_istore_n (lv' := [(3, .int (if 0 ≤ (((σ 32 side.toNatClampNeg) + (σ 39 b_.toNatClampNeg)) - (σ 32 (q_X3_opposite σ own side).toNatClampNeg)) then (((σ 32 side.toNatClampNeg) + (σ 39 b_.toNatClampNeg)) - (σ 32 (q_X3_opposite σ own side).toNatClampNeg)) else (0 - (((σ 32 side.toNatClampNeg) + (σ 39 b_.toNatClampNeg)) - (σ 32 (q_X3_opposite σ own side).toNatClampNeg))))), (0, .ref (g 6 own.toNatClampNeg)), (1, .ref (g 7 side.toNatClampNeg)), (2, .ref (g 8 b_.toNatClampNeg))]) hx hb dX3_canTake_21 rfl hl (by decide) rfl (fun ls hl => ?_)
  refine lv_aload_n hx hb dX3_canTake_22 rfl (lv_at hl 1 rfl) ?_
  refine lv_aload_n hx hb dX3_canTake_23 rfl (lv_at hl 2 rfl) ?_
  refine lv_aload_n hx hb dX3_canTake_24 rfl (lv_at hl 3 rfl) ?_
  refine kcV_i E hml hP hS (kr_6 E.2.2.2 hP ⟨by decide, vp_lt h_own, fun z => absurd z (by decide)⟩) (c_X3_hasLength l σ own side b_ hI h_own h_side h_b_) (cwV 2 hts gX3_canTake_X3_hasLength rfl rfl rfl (by decide +kernel) ⟨Nat.le_trans (Nat.le_of_ble_eq_true rfl) hR.1, Nat.le_trans (Nat.le_of_ble_eq_true rfl) hR.2⟩) rfl hl.1 rfl (Nat.le_of_ble_eq_true rfl) dX3_canTake_25 hf (fun H locs hP hS => ?_)
  have J_1 : ∀ (y1_t0 : Int32) (H : Heap) (locs : List Loc) (ls : Array Slot), y1_t0 = (k47t0_X3_canTake σ own side b_) → cP D cI cO A g cap N σ H → va_S A s.heap H locs → lv_has ls 4 [(3, .int (if 0 ≤ (((σ 32 side.toNatClampNeg) + (σ 39 b_.toNatClampNeg)) - (σ 32 (q_X3_opposite σ own side).toNatClampNeg)) then (((σ 32 side.toNatClampNeg) + (σ 39 b_.toNatClampNeg)) - (σ 32 (q_X3_opposite σ own side).toNatClampNeg)) else (0 - (((σ 32 side.toNatClampNeg) + (σ 39 b_.toNatClampNeg)) - (σ 32 (q_X3_opposite σ own side).toNatClampNeg))))), (0, .ref (g 6 own.toNatClampNeg)), (1, .ref (g 7 side.toNatClampNeg)), (2, .ref (g 8 b_.toNatClampNeg))] → W p l e R s m args below meth c H locs cells slots Q (F0 m 47 ls [.int y1_t0]) := by
    intro y1_t0 H locs ls e_y1_t0 hP hS hl
    subst e_y1_t0
    exact kr _ (k47t0_X3_canTake σ own side b_) H locs ls dX3_canTake_47 hq.symm hP hS
  refine lv_if_eq (tgt := 46) hx hb dX3_canTake_28 (by decide) (fun c_1 => ?_) (fun c_1 => ?_)
  · refine lv_iconst (v := 0) hx hb dX3_canTake_46 (by decide) ?_
    exact J_1 (0 : Int32) H locs ls (if_pos c_1).symm hP hS (lv_sub hl [0, 1, 2, 3] rfl)
  refine lv_iload_n hx hb dX3_canTake_31 rfl (lv_at hl 0 rfl) ?_
  refine lv_aload_n hx hb dX3_canTake_32 rfl (lv_at hl 1 rfl) ?_
  refine cg_X3_boat E i_X3 hP h_own (by decide +kernel) dX3_canTake_33 ?_
  refine cg_X0_trim E i_X0 hP ((hI.2.2.1 _ (vp_lt h_own)).1) (by decide +kernel) dX3_canTake_36 ?_
  refine lv_icmp_gt (tgt := 46) hx hb dX3_canTake_39 (by decide) (fun c_2 => ?_) (fun c_2 => ?_)
  · refine lv_iconst (v := 0) hx hb dX3_canTake_46 (by decide) ?_
    exact J_1 (0 : Int32) H locs ls ((if_pos c_2).symm.trans (if_neg c_1).symm) hP hS (lv_sub hl [0, 1, 2, 3] rfl)
  refine lv_iconst (v := 1) hx hb dX3_canTake_42 (by decide) ?_
  refine lv_goto (tgt := 47) hx hb dX3_canTake_43 (by decide) ?_
  exact J_1 (1 : Int32) H locs ls ((if_neg c_2).symm.trans (if_neg c_1).symm) hP hS (lv_sub hl [0, 1, 2, 3] rfl)
theorem b_X3_canTake (σ : St) (own : Int32) (side : Int32) (b_ : Int32) : isB (q_X3_canTake σ own side b_) := by
  unfold q_X3_canTake; (try unfold k47t0_X3_canTake); repeat (first | exact isB0 | exact isB1 | apply isB_if)
set_option maxHeartbeats 4000000 in
set_option maxRecDepth 100000 in
theorem c_X3_canTake (l : Launch) {D : va_G} {A : Nat → Prop} {cI cO : ClassId} {g : Gh} {cap N : Nat → Nat} (σ : St) (own : Int32) (side : Int32) (b_ : Int32) (hI : KI cap N σ) (h_own : vp_in own (N 6)) (h_side : vp_in side (N 7)) (h_b_ : vp_in b_ (N 8)) : Met l yX3_canTake wsX3_canTake ({ frames := 1, cells := 0, slots := 0, locals := 22 }) (va_Pc [.ref (g 6 own.toNatClampNeg), .ref (g 7 side.toNatClampNeg), .ref (g 8 b_.toNatClampNeg)] (cU D cI cO A g cap N σ)) (va_Qi (fun r (_ : Unit) => r = q_X3_canTake σ own side b_) (fun _ t => cU D cI cO A g cap N (σ) t) A) 0 0 A := by
  refine Met.ofW (cc := cX3_canTake) (maxL := 4) (ret := (some .boolean)) (by decide) rfl ?_
  intro p e s m args below meth c s₁ B hml hv
  obtain ⟨rfl, hP, hK⟩ := hv
  have E : kE p c cX3_canTake s m ([.ref (g 6 own.toNatClampNeg), .ref (g 7 side.toNatClampNeg), .ref (g 8 b_.toNatClampNeg)] : List Value).toArray wsX3_canTake RX3 D cI cO := ⟨⟨B.exec, B.bytes⟩, atoms_spec (ws := wsX3_canTake) B.pre, findClass_of_methodNamed B.named, hK⟩
  have hr := B.returns
  have hlocks := B.notSynchronized
  have hl := lv_entry ([.ref (g 6 own.toNatClampNeg), .ref (g 7 side.toNatClampNeg), .ref (g 8 b_.toNatClampNeg)]) (n := 4) (Nat.le_of_ble_eq_true rfl)
  rw [lg_entry_eq]
  generalize (lg_sl ([.ref (g 6 own.toNatClampNeg), .ref (g 7 side.toNatClampNeg), .ref (g 8 b_.toNatClampNeg)]) ++ List.replicate (4 - (lg_sl ([.ref (g 6 own.toNatClampNeg), .ref (g 7 side.toNatClampNeg), .ref (g 8 b_.toNatClampNeg)])).length) Slot.unset).toArray = ls at hl ⊢
  refine w_X3_canTake σ own side b_ hI h_own h_side h_b_ E hml ⟨Nat.le_of_ble_eq_true rfl, Nat.le_of_ble_eq_true rfl⟩ ⟨Nat.zero_le _, Nat.zero_le _⟩ hP va_S.rf hl (fun pc v H1 locs1 ls1 hd hv hP1 hS1 => ?_)
  exact W.zret (v := v) B.exec B.bytes hr (by rw [hv]; exact isB_n (b_X3_canTake σ own side b_)) (fun t ht hW => ⟨⟨v, (), rfl, hv, by rw [ht]; exact hP1, va_K.moved hW.alike hK⟩, hS1.F ht⟩) hS1.2.2 hd
def q_X3_refusal (σ : St) (own : Int32) (b_ : Int32) : Int32 := if (σ 40 b_.toNatClampNeg) = 0 then (if (((σ 32 ((2 : Int32) * own).toNatClampNeg) + (σ 32 (((2 : Int32) * own) + (1 : Int32)).toNatClampNeg)) + (σ 39 b_.toNatClampNeg)) ≤ (σ 15 (σ 23 own.toNatClampNeg).toNatClampNeg) then (if (q_X3_hasLength σ own ((2 : Int32) * own) b_) = 0 then (if (q_X3_hasLength σ own (((2 : Int32) * own) + (1 : Int32)) b_) = 0 then (3 : Int32) else (if (q_X3_canTake σ own ((2 : Int32) * own) b_) = 0 then (if (q_X3_canTake σ own (((2 : Int32) * own) + (1 : Int32)) b_) = 0 then (4 : Int32) else (0 : Int32)) else (0 : Int32))) else (if (q_X3_canTake σ own ((2 : Int32) * own) b_) = 0 then (if (q_X3_canTake σ own (((2 : Int32) * own) + (1 : Int32)) b_) = 0 then (4 : Int32) else (0 : Int32)) else (0 : Int32))) else (2 : Int32)) else (if (σ 51 own.toNatClampNeg) = 0 then (if (((σ 32 ((2 : Int32) * own).toNatClampNeg) + (σ 32 (((2 : Int32) * own) + (1 : Int32)).toNatClampNeg)) + (σ 39 b_.toNatClampNeg)) ≤ (σ 15 (σ 23 own.toNatClampNeg).toNatClampNeg) then (if (q_X3_hasLength σ own ((2 : Int32) * own) b_) = 0 then (if (q_X3_hasLength σ own (((2 : Int32) * own) + (1 : Int32)) b_) = 0 then (3 : Int32) else (if (q_X3_canTake σ own ((2 : Int32) * own) b_) = 0 then (if (q_X3_canTake σ own (((2 : Int32) * own) + (1 : Int32)) b_) = 0 then (4 : Int32) else (0 : Int32)) else (0 : Int32))) else (if (q_X3_canTake σ own ((2 : Int32) * own) b_) = 0 then (if (q_X3_canTake σ own (((2 : Int32) * own) + (1 : Int32)) b_) = 0 then (4 : Int32) else (0 : Int32)) else (0 : Int32))) else (2 : Int32)) else (if (σ 51 own.toNatClampNeg) = (σ 40 b_.toNatClampNeg) then (if (((σ 32 ((2 : Int32) * own).toNatClampNeg) + (σ 32 (((2 : Int32) * own) + (1 : Int32)).toNatClampNeg)) + (σ 39 b_.toNatClampNeg)) ≤ (σ 15 (σ 23 own.toNatClampNeg).toNatClampNeg) then (if (q_X3_hasLength σ own ((2 : Int32) * own) b_) = 0 then (if (q_X3_hasLength σ own (((2 : Int32) * own) + (1 : Int32)) b_) = 0 then (3 : Int32) else (if (q_X3_canTake σ own ((2 : Int32) * own) b_) = 0 then (if (q_X3_canTake σ own (((2 : Int32) * own) + (1 : Int32)) b_) = 0 then (4 : Int32) else (0 : Int32)) else (0 : Int32))) else (if (q_X3_canTake σ own ((2 : Int32) * own) b_) = 0 then (if (q_X3_canTake σ own (((2 : Int32) * own) + (1 : Int32)) b_) = 0 then (4 : Int32) else (0 : Int32)) else (0 : Int32))) else (2 : Int32)) else (1 : Int32)))
set_option maxHeartbeats 1000000 in
set_option maxRecDepth 100000 in
theorem w_X3_refusal {p : Program} {l : Launch} {e : Env} {R : Room} {s : State} {m : MethodId} {args : Array Value} {below : List Frame} {meth : Method} {c : Code} {H : Heap} {locs : List Loc} {cells slots : Nat} {Q : State → Prop} {D : va_G} {A : Nat → Prop} {cI cO : ClassId} {g : Gh} {cap N : Nat → Nat} {ls : Array Slot} (σ : St) (own : Int32) (b_ : Int32) (hI : KI cap N σ) (h_own : vp_in own (N 6)) (h_b_ : vp_in b_ (N 8)) (E : kE p c cX3_refusal s m args wsX3_refusal RX3 D cI cO) (hml : c.maxLocals = 2) (hR : 2 ≤ R.frames ∧ 45 ≤ R.locals) (hf : cells ≤ R.cells ∧ slots ≤ R.slots) (hP : cP D cI cO A g cap N σ H) (hS : va_S A s.heap H locs) (hl : lv_has ls 2 [(0, .ref (g 6 own.toNatClampNeg)), (1, .ref (g 8 b_.toNatClampNeg))]) (kr : ∀ (pc : Nat) (rv : Int32) (H1 : Heap) (locs1 : List Loc) (ls1 : Array Slot), decode cX3_refusal pc = .ok (.ireturn, 1) → rv = q_X3_refusal σ own b_ → cP D cI cO A g cap N σ H1 → va_S A s.heap H1 locs1 → W p l e R s m args below meth c H1 locs1 cells slots Q (F0 m pc ls1 [.int rv])) : W p l e R s m args below meth c H locs cells slots Q (F0 m 0 ls []) := by
  have hx := E.1.1
  have hb := E.1.2
  have hts := E.2.1
  obtain ⟨n0, n4, n5, n6, n8, n7, n1, n2, n3⟩ := id hI.1
  have i_X0 : ∀ w ∈ wsX00, w ∈ wsX3_refusal := by decide +kernel
  have i_X1 : ∀ w ∈ wsX10, w ∈ wsX3_refusal := by decide +kernel
  have i_X3 : ∀ w ∈ wsX30, w ∈ wsX3_refusal := by decide +kernel
  have i_X4 : ∀ w ∈ wsX40, w ∈ wsX3_refusal := by decide +kernel
  have hq : q_X3_refusal σ own b_ = if (σ 40 b_.toNatClampNeg) = 0 then (if (((σ 32 ((2 : Int32) * own).toNatClampNeg) + (σ 32 (((2 : Int32) * own) + (1 : Int32)).toNatClampNeg)) + (σ 39 b_.toNatClampNeg)) ≤ (σ 15 (σ 23 own.toNatClampNeg).toNatClampNeg) then (if (q_X3_hasLength σ own ((2 : Int32) * own) b_) = 0 then (if (q_X3_hasLength σ own (((2 : Int32) * own) + (1 : Int32)) b_) = 0 then (3 : Int32) else (if (q_X3_canTake σ own ((2 : Int32) * own) b_) = 0 then (if (q_X3_canTake σ own (((2 : Int32) * own) + (1 : Int32)) b_) = 0 then (4 : Int32) else (0 : Int32)) else (0 : Int32))) else (if (q_X3_canTake σ own ((2 : Int32) * own) b_) = 0 then (if (q_X3_canTake σ own (((2 : Int32) * own) + (1 : Int32)) b_) = 0 then (4 : Int32) else (0 : Int32)) else (0 : Int32))) else (2 : Int32)) else (if (σ 51 own.toNatClampNeg) = 0 then (if (((σ 32 ((2 : Int32) * own).toNatClampNeg) + (σ 32 (((2 : Int32) * own) + (1 : Int32)).toNatClampNeg)) + (σ 39 b_.toNatClampNeg)) ≤ (σ 15 (σ 23 own.toNatClampNeg).toNatClampNeg) then (if (q_X3_hasLength σ own ((2 : Int32) * own) b_) = 0 then (if (q_X3_hasLength σ own (((2 : Int32) * own) + (1 : Int32)) b_) = 0 then (3 : Int32) else (if (q_X3_canTake σ own ((2 : Int32) * own) b_) = 0 then (if (q_X3_canTake σ own (((2 : Int32) * own) + (1 : Int32)) b_) = 0 then (4 : Int32) else (0 : Int32)) else (0 : Int32))) else (if (q_X3_canTake σ own ((2 : Int32) * own) b_) = 0 then (if (q_X3_canTake σ own (((2 : Int32) * own) + (1 : Int32)) b_) = 0 then (4 : Int32) else (0 : Int32)) else (0 : Int32))) else (2 : Int32)) else (if (σ 51 own.toNatClampNeg) = (σ 40 b_.toNatClampNeg) then (if (((σ 32 ((2 : Int32) * own).toNatClampNeg) + (σ 32 (((2 : Int32) * own) + (1 : Int32)).toNatClampNeg)) + (σ 39 b_.toNatClampNeg)) ≤ (σ 15 (σ 23 own.toNatClampNeg).toNatClampNeg) then (if (q_X3_hasLength σ own ((2 : Int32) * own) b_) = 0 then (if (q_X3_hasLength σ own (((2 : Int32) * own) + (1 : Int32)) b_) = 0 then (3 : Int32) else (if (q_X3_canTake σ own ((2 : Int32) * own) b_) = 0 then (if (q_X3_canTake σ own (((2 : Int32) * own) + (1 : Int32)) b_) = 0 then (4 : Int32) else (0 : Int32)) else (0 : Int32))) else (if (q_X3_canTake σ own ((2 : Int32) * own) b_) = 0 then (if (q_X3_canTake σ own (((2 : Int32) * own) + (1 : Int32)) b_) = 0 then (4 : Int32) else (0 : Int32)) else (0 : Int32))) else (2 : Int32)) else (1 : Int32))) := rfl
  refine lv_aload_n hx hb dX3_refusal_0 rfl (lv_at hl 1 rfl) ?_
  refine cg_X1_danger E i_X1 hP h_b_ (by decide +kernel) dX3_refusal_1 ?_
  refine lv_if_eq (tgt := 27) hx hb dX3_refusal_4 (by decide) (fun c_1 => ?_) (fun c_1 => ?_)
  · have hq := hq.trans (if_pos c_1)
    refine lv_aload_n hx hb dX3_refusal_27 rfl (lv_at hl 0 rfl) ?_
    refine cg_X3_firstSide E i_X3 hP h_own (by omega) (by decide +kernel) dX3_refusal_28 ?_
    refine cg_X4_weight E i_X4 hP (s7a hI.1 h_own) (by decide +kernel) dX3_refusal_31 ?_
    refine lv_aload_n hx hb dX3_refusal_34 rfl (lv_at hl 0 rfl) ?_
    refine cg_X3_secondSide E i_X3 hP h_own (by omega) (by decide +kernel) dX3_refusal_35 ?_
    refine cg_X4_weight E i_X4 hP (s7b hI.1 h_own) (by decide +kernel) dX3_refusal_38 ?_
    refine lv_iadd hx hb dX3_refusal_41 ?_
    refine lv_aload_n hx hb dX3_refusal_42 rfl (lv_at hl 1 rfl) ?_
    refine cg_X1_weight E i_X1 hP h_b_ (by decide +kernel) dX3_refusal_43 ?_
    refine lv_iadd hx hb dX3_refusal_46 ?_
    refine lv_aload_n hx hb dX3_refusal_47 rfl (lv_at hl 0 rfl) ?_
    refine cg_X3_boat E i_X3 hP h_own (by decide +kernel) dX3_refusal_48 ?_
    refine cg_X0_weight E i_X0 hP ((hI.2.2.1 _ (vp_lt h_own)).1) (by decide +kernel) dX3_refusal_51 ?_
    refine lv_icmp_le (tgt := 59) hx hb dX3_refusal_54 (by decide) (fun c_2 => ?_) (fun c_2 => ?_)
    · have hq := hq.trans (if_pos c_2)
      refine lv_aload_n hx hb dX3_refusal_59 rfl (lv_at hl 0 rfl) ?_
      refine lv_aload_n hx hb dX3_refusal_60 rfl (lv_at hl 0 rfl) ?_
      refine cg_X3_firstSide E i_X3 hP h_own (by omega) (by decide +kernel) dX3_refusal_61 ?_
      refine lv_aload_n hx hb dX3_refusal_64 rfl (lv_at hl 1 rfl) ?_
      refine kcV_i E hml hP hS (kr_6 E.2.2.2 hP ⟨by decide, vp_lt h_own, fun z => absurd z (by decide)⟩) (c_X3_hasLength l σ own ((2 : Int32) * own) b_ hI h_own (s7a hI.1 h_own) h_b_) (cwV 2 hts gX3_refusal_X3_hasLength rfl rfl rfl (by decide +kernel) ⟨Nat.le_trans (Nat.le_of_ble_eq_true rfl) hR.1, Nat.le_trans (Nat.le_of_ble_eq_true rfl) hR.2⟩) rfl hl.1 rfl (Nat.le_of_ble_eq_true rfl) dX3_refusal_65 hf (fun H locs hP hS => ?_)
      refine lv_if_ne (tgt := 85) hx hb dX3_refusal_68 (by decide) (fun c_3 => ?_) (fun c_3 => ?_)
      · have hq := hq.trans (if_neg c_3)
        refine lv_aload_n hx hb dX3_refusal_85 rfl (lv_at hl 0 rfl) ?_
        refine lv_aload_n hx hb dX3_refusal_86 rfl (lv_at hl 0 rfl) ?_
        refine cg_X3_firstSide E i_X3 hP h_own (by omega) (by decide +kernel) dX3_refusal_87 ?_
        refine lv_aload_n hx hb dX3_refusal_90 rfl (lv_at hl 1 rfl) ?_
        refine kcV_i E hml hP hS (kr_6 E.2.2.2 hP ⟨by decide, vp_lt h_own, fun z => absurd z (by decide)⟩) (c_X3_canTake l σ own ((2 : Int32) * own) b_ hI h_own (s7a hI.1 h_own) h_b_) (cwV 2 hts gX3_refusal_X3_canTake rfl rfl rfl (by decide +kernel) ⟨Nat.le_trans (Nat.le_of_ble_eq_true rfl) hR.1, Nat.le_trans (Nat.le_of_ble_eq_true rfl) hR.2⟩) rfl hl.1 rfl (Nat.le_of_ble_eq_true rfl) dX3_refusal_91 hf (fun H locs hP hS => ?_)
        refine lv_if_ne (tgt := 111) hx hb dX3_refusal_94 (by decide) (fun c_4 => ?_) (fun c_4 => ?_)
        · have hq := hq.trans (if_neg c_4)
          refine lv_iconst (v := 0) hx hb dX3_refusal_111 (by decide) ?_
          exact kr _ (0 : Int32) H locs ls dX3_refusal_112 hq.symm hP hS
        have hq := hq.trans (if_pos c_4)
        refine lv_aload_n hx hb dX3_refusal_97 rfl (lv_at hl 0 rfl) ?_
        refine lv_aload_n hx hb dX3_refusal_98 rfl (lv_at hl 0 rfl) ?_
        refine cg_X3_secondSide E i_X3 hP h_own (by omega) (by decide +kernel) dX3_refusal_99 ?_
        refine lv_aload_n hx hb dX3_refusal_102 rfl (lv_at hl 1 rfl) ?_
        refine kcV_i E hml hP hS (kr_6 E.2.2.2 hP ⟨by decide, vp_lt h_own, fun z => absurd z (by decide)⟩) (c_X3_canTake l σ own (((2 : Int32) * own) + (1 : Int32)) b_ hI h_own (s7b hI.1 h_own) h_b_) (cwV 2 hts gX3_refusal_X3_canTake rfl rfl rfl (by decide +kernel) ⟨Nat.le_trans (Nat.le_of_ble_eq_true rfl) hR.1, Nat.le_trans (Nat.le_of_ble_eq_true rfl) hR.2⟩) rfl hl.1 rfl (Nat.le_of_ble_eq_true rfl) dX3_refusal_103 hf (fun H locs hP hS => ?_)
        refine lv_if_ne (tgt := 111) hx hb dX3_refusal_106 (by decide) (fun c_5 => ?_) (fun c_5 => ?_)
        · have hq := hq.trans (if_neg c_5)
          refine lv_iconst (v := 0) hx hb dX3_refusal_111 (by decide) ?_
          exact kr _ (0 : Int32) H locs ls dX3_refusal_112 hq.symm hP hS
        have hq := hq.trans (if_pos c_5)
        refine lv_iconst (v := 4) hx hb dX3_refusal_109 (by decide) ?_
        exact kr _ (4 : Int32) H locs ls dX3_refusal_110 hq.symm hP hS
      have hq := hq.trans (if_pos c_3)
      refine lv_aload_n hx hb dX3_refusal_71 rfl (lv_at hl 0 rfl) ?_
      refine lv_aload_n hx hb dX3_refusal_72 rfl (lv_at hl 0 rfl) ?_
      refine cg_X3_secondSide E i_X3 hP h_own (by omega) (by decide +kernel) dX3_refusal_73 ?_
      refine lv_aload_n hx hb dX3_refusal_76 rfl (lv_at hl 1 rfl) ?_
      refine kcV_i E hml hP hS (kr_6 E.2.2.2 hP ⟨by decide, vp_lt h_own, fun z => absurd z (by decide)⟩) (c_X3_hasLength l σ own (((2 : Int32) * own) + (1 : Int32)) b_ hI h_own (s7b hI.1 h_own) h_b_) (cwV 2 hts gX3_refusal_X3_hasLength rfl rfl rfl (by decide +kernel) ⟨Nat.le_trans (Nat.le_of_ble_eq_true rfl) hR.1, Nat.le_trans (Nat.le_of_ble_eq_true rfl) hR.2⟩) rfl hl.1 rfl (Nat.le_of_ble_eq_true rfl) dX3_refusal_77 hf (fun H locs hP hS => ?_)
      refine lv_if_ne (tgt := 85) hx hb dX3_refusal_80 (by decide) (fun c_6 => ?_) (fun c_6 => ?_)
      · have hq := hq.trans (if_neg c_6)
        refine lv_aload_n hx hb dX3_refusal_85 rfl (lv_at hl 0 rfl) ?_
        refine lv_aload_n hx hb dX3_refusal_86 rfl (lv_at hl 0 rfl) ?_
        refine cg_X3_firstSide E i_X3 hP h_own (by omega) (by decide +kernel) dX3_refusal_87 ?_
        refine lv_aload_n hx hb dX3_refusal_90 rfl (lv_at hl 1 rfl) ?_
        refine kcV_i E hml hP hS (kr_6 E.2.2.2 hP ⟨by decide, vp_lt h_own, fun z => absurd z (by decide)⟩) (c_X3_canTake l σ own ((2 : Int32) * own) b_ hI h_own (s7a hI.1 h_own) h_b_) (cwV 2 hts gX3_refusal_X3_canTake rfl rfl rfl (by decide +kernel) ⟨Nat.le_trans (Nat.le_of_ble_eq_true rfl) hR.1, Nat.le_trans (Nat.le_of_ble_eq_true rfl) hR.2⟩) rfl hl.1 rfl (Nat.le_of_ble_eq_true rfl) dX3_refusal_91 hf (fun H locs hP hS => ?_)
        refine lv_if_ne (tgt := 111) hx hb dX3_refusal_94 (by decide) (fun c_7 => ?_) (fun c_7 => ?_)
        · have hq := hq.trans (if_neg c_7)
          refine lv_iconst (v := 0) hx hb dX3_refusal_111 (by decide) ?_
          exact kr _ (0 : Int32) H locs ls dX3_refusal_112 hq.symm hP hS
        have hq := hq.trans (if_pos c_7)
        refine lv_aload_n hx hb dX3_refusal_97 rfl (lv_at hl 0 rfl) ?_
        refine lv_aload_n hx hb dX3_refusal_98 rfl (lv_at hl 0 rfl) ?_
        refine cg_X3_secondSide E i_X3 hP h_own (by omega) (by decide +kernel) dX3_refusal_99 ?_
        refine lv_aload_n hx hb dX3_refusal_102 rfl (lv_at hl 1 rfl) ?_
        refine kcV_i E hml hP hS (kr_6 E.2.2.2 hP ⟨by decide, vp_lt h_own, fun z => absurd z (by decide)⟩) (c_X3_canTake l σ own (((2 : Int32) * own) + (1 : Int32)) b_ hI h_own (s7b hI.1 h_own) h_b_) (cwV 2 hts gX3_refusal_X3_canTake rfl rfl rfl (by decide +kernel) ⟨Nat.le_trans (Nat.le_of_ble_eq_true rfl) hR.1, Nat.le_trans (Nat.le_of_ble_eq_true rfl) hR.2⟩) rfl hl.1 rfl (Nat.le_of_ble_eq_true rfl) dX3_refusal_103 hf (fun H locs hP hS => ?_)
        refine lv_if_ne (tgt := 111) hx hb dX3_refusal_106 (by decide) (fun c_8 => ?_) (fun c_8 => ?_)
        · have hq := hq.trans (if_neg c_8)
          refine lv_iconst (v := 0) hx hb dX3_refusal_111 (by decide) ?_
          exact kr _ (0 : Int32) H locs ls dX3_refusal_112 hq.symm hP hS
        have hq := hq.trans (if_pos c_8)
        refine lv_iconst (v := 4) hx hb dX3_refusal_109 (by decide) ?_
        exact kr _ (4 : Int32) H locs ls dX3_refusal_110 hq.symm hP hS
      have hq := hq.trans (if_pos c_6)
      refine lv_iconst (v := 3) hx hb dX3_refusal_83 (by decide) ?_
      exact kr _ (3 : Int32) H locs ls dX3_refusal_84 hq.symm hP hS
    have hq := hq.trans (if_neg c_2)
    refine lv_iconst (v := 2) hx hb dX3_refusal_57 (by decide) ?_
    exact kr _ (2 : Int32) H locs ls dX3_refusal_58 hq.symm hP hS
  have hq := hq.trans (if_neg c_1)
  refine lv_aload_n hx hb dX3_refusal_7 rfl (lv_at hl 0 rfl) ?_
  refine cg_X3_danger E i_X3 hP h_own (by decide +kernel) dX3_refusal_8 ?_
  refine lv_if_eq (tgt := 27) hx hb dX3_refusal_11 (by decide) (fun c_9 => ?_) (fun c_9 => ?_)
  · have hq := hq.trans (if_pos c_9)
    refine lv_aload_n hx hb dX3_refusal_27 rfl (lv_at hl 0 rfl) ?_
    refine cg_X3_firstSide E i_X3 hP h_own (by omega) (by decide +kernel) dX3_refusal_28 ?_
    refine cg_X4_weight E i_X4 hP (s7a hI.1 h_own) (by decide +kernel) dX3_refusal_31 ?_
    refine lv_aload_n hx hb dX3_refusal_34 rfl (lv_at hl 0 rfl) ?_
    refine cg_X3_secondSide E i_X3 hP h_own (by omega) (by decide +kernel) dX3_refusal_35 ?_
    refine cg_X4_weight E i_X4 hP (s7b hI.1 h_own) (by decide +kernel) dX3_refusal_38 ?_
    refine lv_iadd hx hb dX3_refusal_41 ?_
    refine lv_aload_n hx hb dX3_refusal_42 rfl (lv_at hl 1 rfl) ?_
    refine cg_X1_weight E i_X1 hP h_b_ (by decide +kernel) dX3_refusal_43 ?_
    refine lv_iadd hx hb dX3_refusal_46 ?_
    refine lv_aload_n hx hb dX3_refusal_47 rfl (lv_at hl 0 rfl) ?_
    refine cg_X3_boat E i_X3 hP h_own (by decide +kernel) dX3_refusal_48 ?_
    refine cg_X0_weight E i_X0 hP ((hI.2.2.1 _ (vp_lt h_own)).1) (by decide +kernel) dX3_refusal_51 ?_
    refine lv_icmp_le (tgt := 59) hx hb dX3_refusal_54 (by decide) (fun c_10 => ?_) (fun c_10 => ?_)
    · have hq := hq.trans (if_pos c_10)
      refine lv_aload_n hx hb dX3_refusal_59 rfl (lv_at hl 0 rfl) ?_
      refine lv_aload_n hx hb dX3_refusal_60 rfl (lv_at hl 0 rfl) ?_
      refine cg_X3_firstSide E i_X3 hP h_own (by omega) (by decide +kernel) dX3_refusal_61 ?_
      refine lv_aload_n hx hb dX3_refusal_64 rfl (lv_at hl 1 rfl) ?_
      refine kcV_i E hml hP hS (kr_6 E.2.2.2 hP ⟨by decide, vp_lt h_own, fun z => absurd z (by decide)⟩) (c_X3_hasLength l σ own ((2 : Int32) * own) b_ hI h_own (s7a hI.1 h_own) h_b_) (cwV 2 hts gX3_refusal_X3_hasLength rfl rfl rfl (by decide +kernel) ⟨Nat.le_trans (Nat.le_of_ble_eq_true rfl) hR.1, Nat.le_trans (Nat.le_of_ble_eq_true rfl) hR.2⟩) rfl hl.1 rfl (Nat.le_of_ble_eq_true rfl) dX3_refusal_65 hf (fun H locs hP hS => ?_)
      refine lv_if_ne (tgt := 85) hx hb dX3_refusal_68 (by decide) (fun c_11 => ?_) (fun c_11 => ?_)
      · have hq := hq.trans (if_neg c_11)
        refine lv_aload_n hx hb dX3_refusal_85 rfl (lv_at hl 0 rfl) ?_
        refine lv_aload_n hx hb dX3_refusal_86 rfl (lv_at hl 0 rfl) ?_
        refine cg_X3_firstSide E i_X3 hP h_own (by omega) (by decide +kernel) dX3_refusal_87 ?_
        refine lv_aload_n hx hb dX3_refusal_90 rfl (lv_at hl 1 rfl) ?_
        refine kcV_i E hml hP hS (kr_6 E.2.2.2 hP ⟨by decide, vp_lt h_own, fun z => absurd z (by decide)⟩) (c_X3_canTake l σ own ((2 : Int32) * own) b_ hI h_own (s7a hI.1 h_own) h_b_) (cwV 2 hts gX3_refusal_X3_canTake rfl rfl rfl (by decide +kernel) ⟨Nat.le_trans (Nat.le_of_ble_eq_true rfl) hR.1, Nat.le_trans (Nat.le_of_ble_eq_true rfl) hR.2⟩) rfl hl.1 rfl (Nat.le_of_ble_eq_true rfl) dX3_refusal_91 hf (fun H locs hP hS => ?_)
        refine lv_if_ne (tgt := 111) hx hb dX3_refusal_94 (by decide) (fun c_12 => ?_) (fun c_12 => ?_)
        · have hq := hq.trans (if_neg c_12)
          refine lv_iconst (v := 0) hx hb dX3_refusal_111 (by decide) ?_
          exact kr _ (0 : Int32) H locs ls dX3_refusal_112 hq.symm hP hS
        have hq := hq.trans (if_pos c_12)
        refine lv_aload_n hx hb dX3_refusal_97 rfl (lv_at hl 0 rfl) ?_
        refine lv_aload_n hx hb dX3_refusal_98 rfl (lv_at hl 0 rfl) ?_
        refine cg_X3_secondSide E i_X3 hP h_own (by omega) (by decide +kernel) dX3_refusal_99 ?_
        refine lv_aload_n hx hb dX3_refusal_102 rfl (lv_at hl 1 rfl) ?_
        refine kcV_i E hml hP hS (kr_6 E.2.2.2 hP ⟨by decide, vp_lt h_own, fun z => absurd z (by decide)⟩) (c_X3_canTake l σ own (((2 : Int32) * own) + (1 : Int32)) b_ hI h_own (s7b hI.1 h_own) h_b_) (cwV 2 hts gX3_refusal_X3_canTake rfl rfl rfl (by decide +kernel) ⟨Nat.le_trans (Nat.le_of_ble_eq_true rfl) hR.1, Nat.le_trans (Nat.le_of_ble_eq_true rfl) hR.2⟩) rfl hl.1 rfl (Nat.le_of_ble_eq_true rfl) dX3_refusal_103 hf (fun H locs hP hS => ?_)
        refine lv_if_ne (tgt := 111) hx hb dX3_refusal_106 (by decide) (fun c_13 => ?_) (fun c_13 => ?_)
        · have hq := hq.trans (if_neg c_13)
          refine lv_iconst (v := 0) hx hb dX3_refusal_111 (by decide) ?_
          exact kr _ (0 : Int32) H locs ls dX3_refusal_112 hq.symm hP hS
        have hq := hq.trans (if_pos c_13)
        refine lv_iconst (v := 4) hx hb dX3_refusal_109 (by decide) ?_
        exact kr _ (4 : Int32) H locs ls dX3_refusal_110 hq.symm hP hS
      have hq := hq.trans (if_pos c_11)
      refine lv_aload_n hx hb dX3_refusal_71 rfl (lv_at hl 0 rfl) ?_
      refine lv_aload_n hx hb dX3_refusal_72 rfl (lv_at hl 0 rfl) ?_
      refine cg_X3_secondSide E i_X3 hP h_own (by omega) (by decide +kernel) dX3_refusal_73 ?_
      refine lv_aload_n hx hb dX3_refusal_76 rfl (lv_at hl 1 rfl) ?_
      refine kcV_i E hml hP hS (kr_6 E.2.2.2 hP ⟨by decide, vp_lt h_own, fun z => absurd z (by decide)⟩) (c_X3_hasLength l σ own (((2 : Int32) * own) + (1 : Int32)) b_ hI h_own (s7b hI.1 h_own) h_b_) (cwV 2 hts gX3_refusal_X3_hasLength rfl rfl rfl (by decide +kernel) ⟨Nat.le_trans (Nat.le_of_ble_eq_true rfl) hR.1, Nat.le_trans (Nat.le_of_ble_eq_true rfl) hR.2⟩) rfl hl.1 rfl (Nat.le_of_ble_eq_true rfl) dX3_refusal_77 hf (fun H locs hP hS => ?_)
      refine lv_if_ne (tgt := 85) hx hb dX3_refusal_80 (by decide) (fun c_14 => ?_) (fun c_14 => ?_)
      · have hq := hq.trans (if_neg c_14)
        refine lv_aload_n hx hb dX3_refusal_85 rfl (lv_at hl 0 rfl) ?_
        refine lv_aload_n hx hb dX3_refusal_86 rfl (lv_at hl 0 rfl) ?_
        refine cg_X3_firstSide E i_X3 hP h_own (by omega) (by decide +kernel) dX3_refusal_87 ?_
        refine lv_aload_n hx hb dX3_refusal_90 rfl (lv_at hl 1 rfl) ?_
        refine kcV_i E hml hP hS (kr_6 E.2.2.2 hP ⟨by decide, vp_lt h_own, fun z => absurd z (by decide)⟩) (c_X3_canTake l σ own ((2 : Int32) * own) b_ hI h_own (s7a hI.1 h_own) h_b_) (cwV 2 hts gX3_refusal_X3_canTake rfl rfl rfl (by decide +kernel) ⟨Nat.le_trans (Nat.le_of_ble_eq_true rfl) hR.1, Nat.le_trans (Nat.le_of_ble_eq_true rfl) hR.2⟩) rfl hl.1 rfl (Nat.le_of_ble_eq_true rfl) dX3_refusal_91 hf (fun H locs hP hS => ?_)
        refine lv_if_ne (tgt := 111) hx hb dX3_refusal_94 (by decide) (fun c_15 => ?_) (fun c_15 => ?_)
        · have hq := hq.trans (if_neg c_15)
          refine lv_iconst (v := 0) hx hb dX3_refusal_111 (by decide) ?_
          exact kr _ (0 : Int32) H locs ls dX3_refusal_112 hq.symm hP hS
        have hq := hq.trans (if_pos c_15)
        refine lv_aload_n hx hb dX3_refusal_97 rfl (lv_at hl 0 rfl) ?_
        refine lv_aload_n hx hb dX3_refusal_98 rfl (lv_at hl 0 rfl) ?_
        refine cg_X3_secondSide E i_X3 hP h_own (by omega) (by decide +kernel) dX3_refusal_99 ?_
        refine lv_aload_n hx hb dX3_refusal_102 rfl (lv_at hl 1 rfl) ?_
        refine kcV_i E hml hP hS (kr_6 E.2.2.2 hP ⟨by decide, vp_lt h_own, fun z => absurd z (by decide)⟩) (c_X3_canTake l σ own (((2 : Int32) * own) + (1 : Int32)) b_ hI h_own (s7b hI.1 h_own) h_b_) (cwV 2 hts gX3_refusal_X3_canTake rfl rfl rfl (by decide +kernel) ⟨Nat.le_trans (Nat.le_of_ble_eq_true rfl) hR.1, Nat.le_trans (Nat.le_of_ble_eq_true rfl) hR.2⟩) rfl hl.1 rfl (Nat.le_of_ble_eq_true rfl) dX3_refusal_103 hf (fun H locs hP hS => ?_)
        refine lv_if_ne (tgt := 111) hx hb dX3_refusal_106 (by decide) (fun c_16 => ?_) (fun c_16 => ?_)
        · have hq := hq.trans (if_neg c_16)
          refine lv_iconst (v := 0) hx hb dX3_refusal_111 (by decide) ?_
          exact kr _ (0 : Int32) H locs ls dX3_refusal_112 hq.symm hP hS
        have hq := hq.trans (if_pos c_16)
        refine lv_iconst (v := 4) hx hb dX3_refusal_109 (by decide) ?_
        exact kr _ (4 : Int32) H locs ls dX3_refusal_110 hq.symm hP hS
      have hq := hq.trans (if_pos c_14)
      refine lv_iconst (v := 3) hx hb dX3_refusal_83 (by decide) ?_
      exact kr _ (3 : Int32) H locs ls dX3_refusal_84 hq.symm hP hS
    have hq := hq.trans (if_neg c_10)
    refine lv_iconst (v := 2) hx hb dX3_refusal_57 (by decide) ?_
    exact kr _ (2 : Int32) H locs ls dX3_refusal_58 hq.symm hP hS
  have hq := hq.trans (if_neg c_9)
  refine lv_aload_n hx hb dX3_refusal_14 rfl (lv_at hl 0 rfl) ?_
  refine cg_X3_danger E i_X3 hP h_own (by decide +kernel) dX3_refusal_15 ?_
  refine lv_aload_n hx hb dX3_refusal_18 rfl (lv_at hl 1 rfl) ?_
  refine cg_X1_danger E i_X1 hP h_b_ (by decide +kernel) dX3_refusal_19 ?_
  refine lv_icmp_eq (tgt := 27) hx hb dX3_refusal_22 (by decide) (fun c_17 => ?_) (fun c_17 => ?_)
  · have hq := hq.trans (if_pos c_17)
    refine lv_aload_n hx hb dX3_refusal_27 rfl (lv_at hl 0 rfl) ?_
    refine cg_X3_firstSide E i_X3 hP h_own (by omega) (by decide +kernel) dX3_refusal_28 ?_
    refine cg_X4_weight E i_X4 hP (s7a hI.1 h_own) (by decide +kernel) dX3_refusal_31 ?_
    refine lv_aload_n hx hb dX3_refusal_34 rfl (lv_at hl 0 rfl) ?_
    refine cg_X3_secondSide E i_X3 hP h_own (by omega) (by decide +kernel) dX3_refusal_35 ?_
    refine cg_X4_weight E i_X4 hP (s7b hI.1 h_own) (by decide +kernel) dX3_refusal_38 ?_
    refine lv_iadd hx hb dX3_refusal_41 ?_
    refine lv_aload_n hx hb dX3_refusal_42 rfl (lv_at hl 1 rfl) ?_
    refine cg_X1_weight E i_X1 hP h_b_ (by decide +kernel) dX3_refusal_43 ?_
    refine lv_iadd hx hb dX3_refusal_46 ?_
    refine lv_aload_n hx hb dX3_refusal_47 rfl (lv_at hl 0 rfl) ?_
    refine cg_X3_boat E i_X3 hP h_own (by decide +kernel) dX3_refusal_48 ?_
    refine cg_X0_weight E i_X0 hP ((hI.2.2.1 _ (vp_lt h_own)).1) (by decide +kernel) dX3_refusal_51 ?_
    refine lv_icmp_le (tgt := 59) hx hb dX3_refusal_54 (by decide) (fun c_18 => ?_) (fun c_18 => ?_)
    · have hq := hq.trans (if_pos c_18)
      refine lv_aload_n hx hb dX3_refusal_59 rfl (lv_at hl 0 rfl) ?_
      refine lv_aload_n hx hb dX3_refusal_60 rfl (lv_at hl 0 rfl) ?_
      refine cg_X3_firstSide E i_X3 hP h_own (by omega) (by decide +kernel) dX3_refusal_61 ?_
      refine lv_aload_n hx hb dX3_refusal_64 rfl (lv_at hl 1 rfl) ?_
      refine kcV_i E hml hP hS (kr_6 E.2.2.2 hP ⟨by decide, vp_lt h_own, fun z => absurd z (by decide)⟩) (c_X3_hasLength l σ own ((2 : Int32) * own) b_ hI h_own (s7a hI.1 h_own) h_b_) (cwV 2 hts gX3_refusal_X3_hasLength rfl rfl rfl (by decide +kernel) ⟨Nat.le_trans (Nat.le_of_ble_eq_true rfl) hR.1, Nat.le_trans (Nat.le_of_ble_eq_true rfl) hR.2⟩) rfl hl.1 rfl (Nat.le_of_ble_eq_true rfl) dX3_refusal_65 hf (fun H locs hP hS => ?_)
      refine lv_if_ne (tgt := 85) hx hb dX3_refusal_68 (by decide) (fun c_19 => ?_) (fun c_19 => ?_)
      · have hq := hq.trans (if_neg c_19)
        refine lv_aload_n hx hb dX3_refusal_85 rfl (lv_at hl 0 rfl) ?_
        refine lv_aload_n hx hb dX3_refusal_86 rfl (lv_at hl 0 rfl) ?_
        refine cg_X3_firstSide E i_X3 hP h_own (by omega) (by decide +kernel) dX3_refusal_87 ?_
        refine lv_aload_n hx hb dX3_refusal_90 rfl (lv_at hl 1 rfl) ?_
        refine kcV_i E hml hP hS (kr_6 E.2.2.2 hP ⟨by decide, vp_lt h_own, fun z => absurd z (by decide)⟩) (c_X3_canTake l σ own ((2 : Int32) * own) b_ hI h_own (s7a hI.1 h_own) h_b_) (cwV 2 hts gX3_refusal_X3_canTake rfl rfl rfl (by decide +kernel) ⟨Nat.le_trans (Nat.le_of_ble_eq_true rfl) hR.1, Nat.le_trans (Nat.le_of_ble_eq_true rfl) hR.2⟩) rfl hl.1 rfl (Nat.le_of_ble_eq_true rfl) dX3_refusal_91 hf (fun H locs hP hS => ?_)
        refine lv_if_ne (tgt := 111) hx hb dX3_refusal_94 (by decide) (fun c_20 => ?_) (fun c_20 => ?_)
        · have hq := hq.trans (if_neg c_20)
          refine lv_iconst (v := 0) hx hb dX3_refusal_111 (by decide) ?_
          exact kr _ (0 : Int32) H locs ls dX3_refusal_112 hq.symm hP hS
        have hq := hq.trans (if_pos c_20)
        refine lv_aload_n hx hb dX3_refusal_97 rfl (lv_at hl 0 rfl) ?_
        refine lv_aload_n hx hb dX3_refusal_98 rfl (lv_at hl 0 rfl) ?_
        refine cg_X3_secondSide E i_X3 hP h_own (by omega) (by decide +kernel) dX3_refusal_99 ?_
        refine lv_aload_n hx hb dX3_refusal_102 rfl (lv_at hl 1 rfl) ?_
        refine kcV_i E hml hP hS (kr_6 E.2.2.2 hP ⟨by decide, vp_lt h_own, fun z => absurd z (by decide)⟩) (c_X3_canTake l σ own (((2 : Int32) * own) + (1 : Int32)) b_ hI h_own (s7b hI.1 h_own) h_b_) (cwV 2 hts gX3_refusal_X3_canTake rfl rfl rfl (by decide +kernel) ⟨Nat.le_trans (Nat.le_of_ble_eq_true rfl) hR.1, Nat.le_trans (Nat.le_of_ble_eq_true rfl) hR.2⟩) rfl hl.1 rfl (Nat.le_of_ble_eq_true rfl) dX3_refusal_103 hf (fun H locs hP hS => ?_)
        refine lv_if_ne (tgt := 111) hx hb dX3_refusal_106 (by decide) (fun c_21 => ?_) (fun c_21 => ?_)
        · have hq := hq.trans (if_neg c_21)
          refine lv_iconst (v := 0) hx hb dX3_refusal_111 (by decide) ?_
          exact kr _ (0 : Int32) H locs ls dX3_refusal_112 hq.symm hP hS
        have hq := hq.trans (if_pos c_21)
        refine lv_iconst (v := 4) hx hb dX3_refusal_109 (by decide) ?_
        exact kr _ (4 : Int32) H locs ls dX3_refusal_110 hq.symm hP hS
      have hq := hq.trans (if_pos c_19)
      refine lv_aload_n hx hb dX3_refusal_71 rfl (lv_at hl 0 rfl) ?_
      refine lv_aload_n hx hb dX3_refusal_72 rfl (lv_at hl 0 rfl) ?_
      refine cg_X3_secondSide E i_X3 hP h_own (by omega) (by decide +kernel) dX3_refusal_73 ?_
      refine lv_aload_n hx hb dX3_refusal_76 rfl (lv_at hl 1 rfl) ?_
      refine kcV_i E hml hP hS (kr_6 E.2.2.2 hP ⟨by decide, vp_lt h_own, fun z => absurd z (by decide)⟩) (c_X3_hasLength l σ own (((2 : Int32) * own) + (1 : Int32)) b_ hI h_own (s7b hI.1 h_own) h_b_) (cwV 2 hts gX3_refusal_X3_hasLength rfl rfl rfl (by decide +kernel) ⟨Nat.le_trans (Nat.le_of_ble_eq_true rfl) hR.1, Nat.le_trans (Nat.le_of_ble_eq_true rfl) hR.2⟩) rfl hl.1 rfl (Nat.le_of_ble_eq_true rfl) dX3_refusal_77 hf (fun H locs hP hS => ?_)
      refine lv_if_ne (tgt := 85) hx hb dX3_refusal_80 (by decide) (fun c_22 => ?_) (fun c_22 => ?_)
      · have hq := hq.trans (if_neg c_22)
        refine lv_aload_n hx hb dX3_refusal_85 rfl (lv_at hl 0 rfl) ?_
        refine lv_aload_n hx hb dX3_refusal_86 rfl (lv_at hl 0 rfl) ?_
        refine cg_X3_firstSide E i_X3 hP h_own (by omega) (by decide +kernel) dX3_refusal_87 ?_
        refine lv_aload_n hx hb dX3_refusal_90 rfl (lv_at hl 1 rfl) ?_
        refine kcV_i E hml hP hS (kr_6 E.2.2.2 hP ⟨by decide, vp_lt h_own, fun z => absurd z (by decide)⟩) (c_X3_canTake l σ own ((2 : Int32) * own) b_ hI h_own (s7a hI.1 h_own) h_b_) (cwV 2 hts gX3_refusal_X3_canTake rfl rfl rfl (by decide +kernel) ⟨Nat.le_trans (Nat.le_of_ble_eq_true rfl) hR.1, Nat.le_trans (Nat.le_of_ble_eq_true rfl) hR.2⟩) rfl hl.1 rfl (Nat.le_of_ble_eq_true rfl) dX3_refusal_91 hf (fun H locs hP hS => ?_)
        refine lv_if_ne (tgt := 111) hx hb dX3_refusal_94 (by decide) (fun c_23 => ?_) (fun c_23 => ?_)
        · have hq := hq.trans (if_neg c_23)
          refine lv_iconst (v := 0) hx hb dX3_refusal_111 (by decide) ?_
          exact kr _ (0 : Int32) H locs ls dX3_refusal_112 hq.symm hP hS
        have hq := hq.trans (if_pos c_23)
        refine lv_aload_n hx hb dX3_refusal_97 rfl (lv_at hl 0 rfl) ?_
        refine lv_aload_n hx hb dX3_refusal_98 rfl (lv_at hl 0 rfl) ?_
        refine cg_X3_secondSide E i_X3 hP h_own (by omega) (by decide +kernel) dX3_refusal_99 ?_
        refine lv_aload_n hx hb dX3_refusal_102 rfl (lv_at hl 1 rfl) ?_
        refine kcV_i E hml hP hS (kr_6 E.2.2.2 hP ⟨by decide, vp_lt h_own, fun z => absurd z (by decide)⟩) (c_X3_canTake l σ own (((2 : Int32) * own) + (1 : Int32)) b_ hI h_own (s7b hI.1 h_own) h_b_) (cwV 2 hts gX3_refusal_X3_canTake rfl rfl rfl (by decide +kernel) ⟨Nat.le_trans (Nat.le_of_ble_eq_true rfl) hR.1, Nat.le_trans (Nat.le_of_ble_eq_true rfl) hR.2⟩) rfl hl.1 rfl (Nat.le_of_ble_eq_true rfl) dX3_refusal_103 hf (fun H locs hP hS => ?_)
        refine lv_if_ne (tgt := 111) hx hb dX3_refusal_106 (by decide) (fun c_24 => ?_) (fun c_24 => ?_)
        · have hq := hq.trans (if_neg c_24)
          refine lv_iconst (v := 0) hx hb dX3_refusal_111 (by decide) ?_
          exact kr _ (0 : Int32) H locs ls dX3_refusal_112 hq.symm hP hS
        have hq := hq.trans (if_pos c_24)
        refine lv_iconst (v := 4) hx hb dX3_refusal_109 (by decide) ?_
        exact kr _ (4 : Int32) H locs ls dX3_refusal_110 hq.symm hP hS
      have hq := hq.trans (if_pos c_22)
      refine lv_iconst (v := 3) hx hb dX3_refusal_83 (by decide) ?_
      exact kr _ (3 : Int32) H locs ls dX3_refusal_84 hq.symm hP hS
    have hq := hq.trans (if_neg c_18)
    refine lv_iconst (v := 2) hx hb dX3_refusal_57 (by decide) ?_
    exact kr _ (2 : Int32) H locs ls dX3_refusal_58 hq.symm hP hS
  have hq := hq.trans (if_neg c_17)
  refine lv_iconst (v := 1) hx hb dX3_refusal_25 (by decide) ?_
  exact kr _ (1 : Int32) H locs ls dX3_refusal_26 hq.symm hP hS
set_option maxHeartbeats 4000000 in
set_option maxRecDepth 100000 in
theorem c_X3_refusal (l : Launch) {D : va_G} {A : Nat → Prop} {cI cO : ClassId} {g : Gh} {cap N : Nat → Nat} (σ : St) (own : Int32) (b_ : Int32) (hI : KI cap N σ) (h_own : vp_in own (N 6)) (h_b_ : vp_in b_ (N 8)) : Met l yX3_refusal wsX3_refusal ({ frames := 2, cells := 0, slots := 0, locals := 45 }) (va_Pc [.ref (g 6 own.toNatClampNeg), .ref (g 8 b_.toNatClampNeg)] (cU D cI cO A g cap N σ)) (va_Qi (fun r (_ : Unit) => r = q_X3_refusal σ own b_) (fun _ t => cU D cI cO A g cap N (σ) t) A) 0 0 A := by
  refine Met.ofW (cc := cX3_refusal) (maxL := 2) (ret := (some .int)) (by decide) rfl ?_
  intro p e s m args below meth c s₁ B hml hv
  obtain ⟨rfl, hP, hK⟩ := hv
  have E : kE p c cX3_refusal s m ([.ref (g 6 own.toNatClampNeg), .ref (g 8 b_.toNatClampNeg)] : List Value).toArray wsX3_refusal RX3 D cI cO := ⟨⟨B.exec, B.bytes⟩, atoms_spec (ws := wsX3_refusal) B.pre, findClass_of_methodNamed B.named, hK⟩
  have hr := B.returns
  have hlocks := B.notSynchronized
  have hl := lv_entry ([.ref (g 6 own.toNatClampNeg), .ref (g 8 b_.toNatClampNeg)]) (n := 2) (Nat.le_of_ble_eq_true rfl)
  rw [lg_entry_eq]
  generalize (lg_sl ([.ref (g 6 own.toNatClampNeg), .ref (g 8 b_.toNatClampNeg)]) ++ List.replicate (2 - (lg_sl ([.ref (g 6 own.toNatClampNeg), .ref (g 8 b_.toNatClampNeg)])).length) Slot.unset).toArray = ls at hl ⊢
  refine w_X3_refusal σ own b_ hI h_own h_b_ E hml ⟨Nat.le_of_ble_eq_true rfl, Nat.le_of_ble_eq_true rfl⟩ ⟨Nat.zero_le _, Nat.zero_le _⟩ hP va_S.rf hl (fun pc v H1 locs1 ls1 hd hv hP1 hS1 => ?_)
  exact W.iret (v := v) B.exec B.bytes hr (fun t ht hW => ⟨⟨v, (), rfl, hv, by rw [ht]; exact hP1, va_K.moved hW.alike hK⟩, hS1.F ht⟩) hS1.2.2 hd
