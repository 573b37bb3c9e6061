/-! plain facts of the class's state -/
theorem isB_f {x : Int32} (hx : isB x) : fits .boolean (.int x) = true := by rcases hx with rfl | rfl <;> rfl
theorem KI_o {cap N : Nat → Nat} {σ : St} (h : KI cap N σ) {f j : Nat} {v : Int32} (hf : f ∉ [54, 23, 24, 25, 36, 20, 41] ∧ f < 100) : KI cap N (st σ f j v) := by
  obtain ⟨hf, h100⟩ := hf
  simp only [List.mem_cons, List.not_mem_nil, or_false, not_or] at hf
  have e : ∀ g, g ≠ f → st σ f j v g = σ g := fun g hg => st_nf σ j v hg
  obtain ⟨h1, h2, h3, h4, h5, h6⟩ := h
  unfold KI
  rw [e 54 (by omega), e 23 (by omega), e 24 (by omega), e 25 (by omega), e 36 (by omega), e 20 (by omega), e 41 (by omega)]
  refine ⟨h1, h2, h3, h4, h5, fun q hq => ?_⟩
  obtain ⟨C, a, b, c, d⟩ := h6 q hq
  unfold KL
  rw [e 54 (by omega), e (100 + q) (by omega)]
  exact ⟨C, a, b, c, d⟩
theorem nx_in {a : Int32} {n : Nat} (h : vp_in a n) : nx a n := Or.inr h
theorem va_cat (r : Option Nat) : (va_rf r).category = 1 := by cases r <;> rfl
theorem s7 {N : Nat → Nat} (h : KN N) {x : Int32} (hx : vp_in x (N 6)) : ∃ j : Nat, j < N 6 ∧ j < 60 ∧ x = nI j := by
  obtain ⟨j, hj, e⟩ := vp_in_of hx (by have := h.2.2.2.1; omega)
  exact ⟨j, hj, by have := h.2.2.2.1; omega, e⟩
theorem s7a {N : Nat → Nat} (h : KN N) {x : Int32} (hx : vp_in x (N 6)) : vp_in ((2 : Int32) * x) (N 7) := by
  obtain ⟨j, hj, h60, rfl⟩ := s7 h hx
  rw [show (2 : Int32) = nI 2 from rfl, pk_mul]
  have := h.2.2.2.2.2.1; have := h.2.2.2.1
  exact vp_in_nI (by omega) (by omega)
theorem s7b {N : Nat → Nat} (h : KN N) {x : Int32} (hx : vp_in x (N 6)) : vp_in (((2 : Int32) * x) + (1 : Int32)) (N 7) := by
  obtain ⟨j, hj, h60, rfl⟩ := s7 h hx
  rw [show (2 : Int32) = nI 2 from rfl, pk_mul, nI_1]
  have := h.2.2.2.2.2.1; have := h.2.2.2.1
  exact vp_in_nI (by omega) (by omega)
section KQ
variable {p : Program} {l : Launch} {e : Env} {R : Room} {s : State} {m : MethodId} {args : Array Value} {below : List Frame} {meth : Method} {c : Code} {H : Heap} {locs : List Loc} {cells slots : Nat} {Q : State → Prop}
variable {cc : ByteArray} {pc : Nat} {ls : Array Slot} {rest : List Value}
theorem lv_astoreQ (hexec : p.tables.exec = Jvm.exec) (hb : c.code = cc) {i nL : Nat} {r : Option Nat} {lv lv' : List (Nat × Value)} (hdg : decode cc pc = .ok (.astore i, 2)) (h : lv_has ls nL lv) (hn : i < nL) (hl : (i, va_rf r) :: lv.filter (fun q => !(q.1 == i) && !(q.1 + 1 == i && q.2.category == 2)) = lv') (kk : ∀ ls' : Array Slot, lv_has ls' nL lv' → W p l e R s m args below meth c H locs cells slots Q (F0 m (pc + 2) ls' rest)) : W p l e R s m args below meth c H locs cells slots Q (F0 m pc ls (va_rf r :: rest)) := by
  cases r with
  | none => exact lv_astoreN hexec hb hdg h hn hl kk
  | some x => exact lv_astore hexec hb hdg h hn hl kk
theorem lv_astore_nQ (hexec : p.tables.exec = Jvm.exec) (hb : c.code = cc) {k : Fin 4} {i nL : Nat} {r : Option Nat} {lv lv' : List (Nat × Value)} (hdg : decode cc pc = .ok (.astore_n k, 1)) (hi : (k : Nat) = i) (h : lv_has ls nL lv) (hn : i < nL) (hl : (i, va_rf r) :: lv.filter (fun q => !(q.1 == i) && !(q.1 + 1 == i && q.2.category == 2)) = lv') (kk : ∀ ls' : Array Slot, lv_has ls' nL lv' → W p l e R s m args below meth c H locs cells slots Q (F0 m (pc + 1) ls' rest)) : W p l e R s m args below meth c H locs cells slots Q (F0 m pc ls (va_rf r :: rest)) := by
  cases r with
  | none => exact lv_astore_nN hexec hb hdg hi h hn hl kk
  | some x => exact lv_astore_n hexec hb hdg hi h hn hl kk
end KQ
def q_X0_fits (σ : St) (own : Int32) (pier : Int32) : Int32 := if (((σ 18 own.toNatClampNeg) >>> (pier &&& 31)) &&& (1 : Int32)) = (1 : Int32) then (1 : Int32) else (0 : Int32)
set_option maxHeartbeats 1000000 in
set_option maxRecDepth 100000 in
theorem w_X0_fits {p : Program} {l : Launch} {e : Env} {R : Room} {s : State} {m : MethodId} {args : Array Value} {below : List Frame} {meth : Method} {c : Code} {H : Heap} {locs : List Loc} {cells slots : Nat} {Q : State → Prop} {D : va_G} {A : Nat → Prop} {cI cO : ClassId} {g : Gh} {cap N : Nat → Nat} {ls : Array Slot} (σ : St) (own : Int32) (pier : Int32) (hI : KI cap N σ) (h_own : vp_in own (N 5)) (h_pier : vp_in pier (N 4)) (E : kE p c cX0_fits s m args wsX0_fits RX0 D cI cO) (hml : c.maxLocals = 2) (hR : 0 ≤ R.frames ∧ 0 ≤ R.locals) (hf : cells ≤ R.cells ∧ slots ≤ R.slots) (hP : cP D cI cO A g cap N σ H) (hS : va_S A s.heap H locs) (hl : lv_has ls 2 [(0, .ref (g 5 own.toNatClampNeg)), (1, .ref (g 4 pier.toNatClampNeg))]) (kr : ∀ (pc : Nat) (rv : Int32) (H1 : Heap) (locs1 : List Loc) (ls1 : Array Slot), decode cX0_fits pc = .ok (.ireturn, 1) → rv = q_X0_fits σ own pier → cP D cI cO A g cap N σ H1 → va_S A s.heap H1 locs1 → W p l e R s m args below meth c H1 locs1 cells slots Q (F0 m pc ls1 [.int rv])) : W p l e R s m args below meth c H locs cells slots Q (F0 m 0 ls []) := by
  have hx := E.1.1
  have hb := E.1.2
  have hts := E.2.1
  obtain ⟨n0, n4, n5, n6, n8, n7, n1, n2, n3⟩ := id hI.1
  have i_X0 : ∀ w ∈ wsX00, w ∈ wsX0_fits := by decide +kernel
  have i_X2 : ∀ w ∈ wsX20, w ∈ wsX0_fits := by decide +kernel
  have hq : q_X0_fits σ own pier = if (((σ 18 own.toNatClampNeg) >>> (pier &&& 31)) &&& (1 : Int32)) = (1 : Int32) then (1 : Int32) else (0 : Int32) := rfl
  refine lv_aload_n hx hb dX0_fits_0 rfl (lv_at hl 0 rfl) ?_
  refine cg_X0_piers E i_X0 hP h_own (by decide +kernel) dX0_fits_1 ?_
  refine lv_aload_n hx hb dX0_fits_4 rfl (lv_at hl 1 rfl) ?_
  refine cg_X2_number E i_X2 hP h_pier (by omega) (by decide +kernel) dX0_fits_5 ?_
  refine lv_ishr hx hb dX0_fits_8 ?_
  refine lv_iconst (v := 1) hx hb dX0_fits_9 (by decide) ?_
  refine lv_iand hx hb dX0_fits_10 ?_
  refine lv_iconst (v := 1) hx hb dX0_fits_11 (by decide) ?_
  have J_1 : ∀ (y1_t0 : Int32) (H : Heap) (locs : List Loc) (ls : Array Slot), y1_t0 = (if (((σ 18 own.toNatClampNeg) >>> (pier &&& 31)) &&& (1 : Int32)) = (1 : Int32) then (1 : Int32) else (0 : Int32)) → cP D cI cO A g cap N σ H → va_S A s.heap H locs → lv_has ls 2 [(0, .ref (g 5 own.toNatClampNeg)), (1, .ref (g 4 pier.toNatClampNeg))] → W p l e R s m args below meth c H locs cells slots Q (F0 m 20 ls [.int y1_t0]) := by
    intro y1_t0 H locs ls e_y1_t0 hP hS hl
    subst e_y1_t0
    exact kr _ (if (((σ 18 own.toNatClampNeg) >>> (pier &&& 31)) &&& (1 : Int32)) = (1 : Int32) then (1 : Int32) else (0 : Int32)) H locs ls dX0_fits_20 hq.symm hP hS
  refine lv_icmp_ne (tgt := 19) hx hb dX0_fits_12 (by decide) (fun c_1 => ?_) (fun c_1 => ?_)
  · refine lv_iconst (v := 0) hx hb dX0_fits_19 (by decide) ?_
    exact J_1 (0 : Int32) H locs ls (if_neg c_1).symm hP hS (lv_sub hl [0, 1] rfl)
  refine lv_iconst (v := 1) hx hb dX0_fits_15 (by decide) ?_
  refine lv_goto (tgt := 20) hx hb dX0_fits_16 (by decide) ?_
  exact J_1 (1 : Int32) H locs ls (if_pos c_1).symm hP hS (lv_sub hl [0, 1] rfl)
theorem b_X0_fits (σ : St) (own : Int32) (pier : Int32) : isB (q_X0_fits σ own pier) := by
  unfold q_X0_fits; repeat (first | exact isB0 | exact isB1 | apply isB_if)
set_option maxHeartbeats 4000000 in
set_option maxRecDepth 100000 in
theorem c_X0_fits (l : Launch) {D : va_G} {A : Nat → Prop} {cI cO : ClassId} {g : Gh} {cap N : Nat → Nat} (σ : St) (own : Int32) (pier : Int32) (hI : KI cap N σ) (h_own : vp_in own (N 5)) (h_pier : vp_in pier (N 4)) : Met l yX0_fits wsX0_fits ({ frames := 0, cells := 0, slots := 0, locals := 0 }) (va_Pc [.ref (g 5 own.toNatClampNeg), .ref (g 4 pier.toNatClampNeg)] (cU D cI cO A g cap N σ)) (va_Qi (fun r (_ : Unit) => r = q_X0_fits σ own pier) (fun _ t => cU D cI cO A g cap N (σ) t) A) 0 0 A := by
  refine Met.ofW (cc := cX0_fits) (maxL := 2) (ret := (some .boolean)) (by decide) rfl ?_
  intro p e s m args below meth c s₁ B hml hv
  obtain ⟨rfl, hP, hK⟩ := hv
  have E : kE p c cX0_fits s m ([.ref (g 5 own.toNatClampNeg), .ref (g 4 pier.toNatClampNeg)] : List Value).toArray wsX0_fits RX0 D cI cO := ⟨⟨B.exec, B.bytes⟩, atoms_spec (ws := wsX0_fits) B.pre, findClass_of_methodNamed B.named, hK⟩
  have hr := B.returns
  have hlocks := B.notSynchronized
  have hl := lv_entry ([.ref (g 5 own.toNatClampNeg), .ref (g 4 pier.toNatClampNeg)]) (n := 2) (Nat.le_of_ble_eq_true rfl)
  rw [lg_entry_eq]
  generalize (lg_sl ([.ref (g 5 own.toNatClampNeg), .ref (g 4 pier.toNatClampNeg)]) ++ List.replicate (2 - (lg_sl ([.ref (g 5 own.toNatClampNeg), .ref (g 4 pier.toNatClampNeg)])).length) Slot.unset).toArray = ls at hl ⊢
  refine w_X0_fits σ own pier hI h_own h_pier E hml ⟨Nat.le_of_ble_eq_true rfl, Nat.le_of_ble_eq_true rfl⟩ ⟨Nat.zero_le _, Nat.zero_le _⟩ hP va_S.rf hl (fun pc v H1 locs1 ls1 hd hv hP1 hS1 => ?_)
  exact W.zret (v := v) B.exec B.bytes hr (by rw [hv]; exact isB_n (b_X0_fits σ own pier)) (fun t ht hW => ⟨⟨v, (), rfl, hv, by rw [ht]; exact hP1, va_K.moved hW.alike hK⟩, hS1.F ht⟩) hS1.2.2 hd
def q_X1_waitsFor (σ : St) (own : Int32) (asked : Int32) : Int32 := if (σ 35 own.toNatClampNeg) = 0 then (if (σ 36 own.toNatClampNeg) = asked then (1 : Int32) else (0 : Int32)) else (0 : Int32)
set_option maxHeartbeats 1000000 in
set_option maxRecDepth 100000 in
theorem w_X1_waitsFor {p : Program} {l : Launch} {e : Env} {R : Room} {s : State} {m : MethodId} {args : Array Value} {below : List Frame} {meth : Method} {c : Code} {H : Heap} {locs : List Loc} {cells slots : Nat} {Q : State → Prop} {D : va_G} {A : Nat → Prop} {cI cO : ClassId} {g : Gh} {cap N : Nat → Nat} {ls : Array Slot} (σ : St) (own : Int32) (asked : Int32) (hI : KI cap N σ) (h_own : vp_in own (N 8)) (h_asked : vp_in asked (N 6)) (E : kE p c cX1_waitsFor s m args wsX1_waitsFor RX1 D cI cO) (hml : c.maxLocals = 2) (hR : 0 ≤ R.frames ∧ 0 ≤ R.locals) (hf : cells ≤ R.cells ∧ slots ≤ R.slots) (hP : cP D cI cO A g cap N σ H) (hS : va_S A s.heap H locs) (hl : lv_has ls 2 [(0, .ref (g 8 own.toNatClampNeg)), (1, .ref (g 6 asked.toNatClampNeg))]) (kr : ∀ (pc : Nat) (rv : Int32) (H1 : Heap) (locs1 : List Loc) (ls1 : Array Slot), decode cX1_waitsFor pc = .ok (.ireturn, 1) → rv = q_X1_waitsFor σ own asked → cP D cI cO A g cap N σ H1 → va_S A s.heap H1 locs1 → W p l e R s m args below meth c H1 locs1 cells slots Q (F0 m pc ls1 [.int rv])) : W p l e R s m args below meth c H locs cells slots Q (F0 m 0 ls []) := by
  have hx := E.1.1
  have hb := E.1.2
  have hts := E.2.1
  obtain ⟨n0, n4, n5, n6, n8, n7, n1, n2, n3⟩ := id hI.1
  have i_X1 : ∀ w ∈ wsX10, w ∈ wsX1_waitsFor := by decide +kernel
  have hq : q_X1_waitsFor σ own asked = if (σ 35 own.toNatClampNeg) = 0 then (if (σ 36 own.toNatClampNeg) = asked then (1 : Int32) else (0 : Int32)) else (0 : Int32) := rfl
  refine lv_aload_n hx hb dX1_waitsFor_0 rfl (lv_at hl 0 rfl) ?_
  refine cg_X1_state E i_X1 hP h_own (by decide +kernel) dX1_waitsFor_1 ?_
  have J_1 : ∀ (y1_t0 : Int32) (H : Heap) (locs : List Loc) (ls : Array Slot), y1_t0 = (if (σ 35 own.toNatClampNeg) = 0 then (if (σ 36 own.toNatClampNeg) = asked then (1 : Int32) else (0 : Int32)) else (0 : Int32)) → cP D cI cO A g cap N σ H → va_S A s.heap H locs → lv_has ls 2 [(0, .ref (g 8 own.toNatClampNeg)), (1, .ref (g 6 asked.toNatClampNeg))] → W p l e R s m args below meth c H locs cells slots Q (F0 m 20 ls [.int y1_t0]) := by
    intro y1_t0 H locs ls e_y1_t0 hP hS hl
    subst e_y1_t0
    exact kr _ (if (σ 35 own.toNatClampNeg) = 0 then (if (σ 36 own.toNatClampNeg) = asked then (1 : Int32) else (0 : Int32)) else (0 : Int32)) H locs ls dX1_waitsFor_20 hq.symm hP hS
  refine lv_if_ne (tgt := 19) hx hb dX1_waitsFor_4 (by decide) (fun c_1 => ?_) (fun c_1 => ?_)
  · refine lv_iconst (v := 0) hx hb dX1_waitsFor_19 (by decide) ?_
    exact J_1 (0 : Int32) H locs ls (if_neg c_1).symm hP hS (lv_sub hl [0, 1] rfl)
  refine lv_aload_n hx hb dX1_waitsFor_7 rfl (lv_at hl 0 rfl) ?_
  refine cg_X1_sailing E i_X1 hP h_own (by decide +kernel) dX1_waitsFor_8 ?_
  refine lv_aload_n hx hb dX1_waitsFor_11 rfl (lv_at hl 1 rfl) ?_
  refine kacmp_ne (tgt := 19) E hP ⟨by decide, by decide⟩ (hI.2.2.2.1 _ (vp_lt h_own)) h_asked (by omega) dX1_waitsFor_12 (by decide) (fun c_2 => ?_) (fun c_2 => ?_)
  · refine lv_iconst (v := 0) hx hb dX1_waitsFor_19 (by decide) ?_
    exact J_1 (0 : Int32) H locs ls ((if_neg c_2).symm.trans (if_pos c_1).symm) hP hS (lv_sub hl [0, 1] rfl)
  refine lv_iconst (v := 1) hx hb dX1_waitsFor_15 (by decide) ?_
  refine lv_goto (tgt := 20) hx hb dX1_waitsFor_16 (by decide) ?_
  exact J_1 (1 : Int32) H locs ls ((if_pos c_2).symm.trans (if_pos c_1).symm) hP hS (lv_sub hl [0, 1] rfl)
theorem b_X1_waitsFor (σ : St) (own : Int32) (asked : Int32) : isB (q_X1_waitsFor σ own asked) := by
  unfold q_X1_waitsFor; repeat (first | exact isB0 | exact isB1 | apply isB_if)
set_option maxHeartbeats 4000000 in
set_option maxRecDepth 100000 in
theorem c_X1_waitsFor (l : Launch) {D : va_G} {A : Nat → Prop} {cI cO : ClassId} {g : Gh} {cap N : Nat → Nat} (σ : St) (own : Int32) (asked : Int32) (hI : KI cap N σ) (h_own : vp_in own (N 8)) (h_asked : vp_in asked (N 6)) : Met l yX1_waitsFor wsX1_waitsFor ({ frames := 0, cells := 0, slots := 0, locals := 0 }) (va_Pc [.ref (g 8 own.toNatClampNeg), .ref (g 6 asked.toNatClampNeg)] (cU D cI cO A g cap N σ)) (va_Qi (fun r (_ : Unit) => r = q_X1_waitsFor σ own asked) (fun _ t => cU D cI cO A g cap N (σ) t) A) 0 0 A := by
  refine Met.ofW (cc := cX1_waitsFor) (maxL := 2) (ret := (some .boolean)) (by decide) rfl ?_
  intro p e s m args below meth c s₁ B hml hv
  obtain ⟨rfl, hP, hK⟩ := hv
  have E : kE p c cX1_waitsFor s m ([.ref (g 8 own.toNatClampNeg), .ref (g 6 asked.toNatClampNeg)] : List Value).toArray wsX1_waitsFor RX1 D cI cO := ⟨⟨B.exec, B.bytes⟩, atoms_spec (ws := wsX1_waitsFor) B.pre, findClass_of_methodNamed B.named, hK⟩
  have hr := B.returns
  have hlocks := B.notSynchronized
  have hl := lv_entry ([.ref (g 8 own.toNatClampNeg), .ref (g 6 asked.toNatClampNeg)]) (n := 2) (Nat.le_of_ble_eq_true rfl)
  rw [lg_entry_eq]
  generalize (lg_sl ([.ref (g 8 own.toNatClampNeg), .ref (g 6 asked.toNatClampNeg)]) ++ List.replicate (2 - (lg_sl ([.ref (g 8 own.toNatClampNeg), .ref (g 6 asked.toNatClampNeg)])).length) Slot.unset).toArray = ls at hl ⊢
  refine w_X1_waitsFor σ own asked hI h_own h_asked E hml ⟨Nat.le_of_ble_eq_true rfl, Nat.le_of_ble_eq_true rfl⟩ ⟨Nat.zero_le _, Nat.zero_le _⟩ hP va_S.rf hl (fun pc v H1 locs1 ls1 hd hv hP1 hS1 => ?_)
  exact W.zret (v := v) B.exec B.bytes hr (by rw [hv]; exact isB_n (b_X1_waitsFor σ own asked)) (fun t ht hW => ⟨⟨v, (), rfl, hv, by rw [ht]; exact hP1, va_K.moved hW.alike hK⟩, hS1.F ht⟩) hS1.2.2 hd
def k90t0_X1_isAheadOf (σ : St) (own : Int32) (other : Int32) : Int32 := if (σ 43 own.toNatClampNeg) = (σ 43 other.toNatClampNeg) then (if (σ 55 other.toNatClampNeg) ≤ (σ 55 own.toNatClampNeg) then (0 : Int32) else (1 : Int32)) else (if (σ 43 own.toNatClampNeg) ≤ (σ 43 other.toNatClampNeg) then (0 : Int32) else (1 : Int32))
def q_X1_isAheadOf (σ : St) (own : Int32) (other : Int32) : Int32 := if (σ 41 own.toNatClampNeg) = (σ 41 other.toNatClampNeg) then (if (σ 37 own.toNatClampNeg) = (σ 37 other.toNatClampNeg) then (k90t0_X1_isAheadOf σ own other) else (if (σ 37 other.toNatClampNeg) ≤ (σ 37 own.toNatClampNeg) then (0 : Int32) else (1 : Int32))) else (σ 41 own.toNatClampNeg)
set_option maxHeartbeats 1000000 in
set_option maxRecDepth 100000 in
theorem w_X1_isAheadOf {p : Program} {l : Launch} {e : Env} {R : Room} {s : State} {m : MethodId} {args : Array Value} {below : List Frame} {meth : Method} {c : Code} {H : Heap} {locs : List Loc} {cells slots : Nat} {Q : State → Prop} {D : va_G} {A : Nat → Prop} {cI cO : ClassId} {g : Gh} {cap N : Nat → Nat} {ls : Array Slot} (σ : St) (own : Int32) (other : Int32) (hI : KI cap N σ) (h_own : vp_in own (N 8)) (h_other : vp_in other (N 8)) (E : kE p c cX1_isAheadOf s m args wsX1_isAheadOf RX1 D cI cO) (hml : c.maxLocals = 2) (hR : 0 ≤ R.frames ∧ 0 ≤ R.locals) (hf : cells ≤ R.cells ∧ slots ≤ R.slots) (hP : cP D cI cO A g cap N σ H) (hS : va_S A s.heap H locs) (hl : lv_has ls 2 [(0, .ref (g 8 own.toNatClampNeg)), (1, .ref (g 8 other.toNatClampNeg))]) (kr : ∀ (pc : Nat) (rv : Int32) (H1 : Heap) (locs1 : List Loc) (ls1 : Array Slot), decode cX1_isAheadOf pc = .ok (.ireturn, 1) → rv = q_X1_isAheadOf σ own other → cP D cI cO A g cap N σ H1 → va_S A s.heap H1 locs1 → W p l e R s m args below meth c H1 locs1 cells slots Q (F0 m pc ls1 [.int rv])) : W p l e R s m args below meth c H locs cells slots Q (F0 m 0 ls []) := by
  have hx := E.1.1
  have hb := E.1.2
  have hts := E.2.1
  obtain ⟨n0, n4, n5, n6, n8, n7, n1, n2, n3⟩ := id hI.1
  have i_X1 : ∀ w ∈ wsX10, w ∈ wsX1_isAheadOf := by decide +kernel
  have hq : q_X1_isAheadOf σ own other = if (σ 41 own.toNatClampNeg) = (σ 41 other.toNatClampNeg) then (if (σ 37 own.toNatClampNeg) = (σ 37 other.toNatClampNeg) then (k90t0_X1_isAheadOf σ own other) else (if (σ 37 other.toNatClampNeg) ≤ (σ 37 own.toNatClampNeg) then (0 : Int32) else (1 : Int32))) else (σ 41 own.toNatClampNeg) := rfl
  refine lv_aload_n hx hb dX1_isAheadOf_0 rfl (lv_at hl 0 rfl) ?_
  refine cg_X1_isUrgent E i_X1 hP h_own (by decide +kernel) dX1_isAheadOf_1 ?_
  refine lv_aload_n hx hb dX1_isAheadOf_4 rfl (lv_at hl 1 rfl) ?_
  refine cg_X1_isUrgent E i_X1 hP h_other (by decide +kernel) dX1_isAheadOf_5 ?_
  refine lv_icmp_eq (tgt := 16) hx hb dX1_isAheadOf_8 (by decide) (fun c_1 => ?_) (fun c_1 => ?_)
  · have hq := hq.trans (if_pos c_1)
    refine lv_aload_n hx hb dX1_isAheadOf_16 rfl (lv_at hl 0 rfl) ?_
    refine cg_X1_kind E i_X1 hP h_own (by decide +kernel) dX1_isAheadOf_17 ?_
    refine lv_aload_n hx hb dX1_isAheadOf_20 rfl (lv_at hl 1 rfl) ?_
    refine cg_X1_kind E i_X1 hP h_other (by decide +kernel) dX1_isAheadOf_21 ?_
    refine lv_icmp_eq (tgt := 44) hx hb dX1_isAheadOf_24 (by decide) (fun c_2 => ?_) (fun c_2 => ?_)
    · have hq := hq.trans (if_pos c_2)
      refine lv_aload_n hx hb dX1_isAheadOf_44 rfl (lv_at hl 0 rfl) ?_
      refine cg_X1_points E i_X1 hP h_own (by decide +kernel) dX1_isAheadOf_45 ?_
      refine lv_aload_n hx hb dX1_isAheadOf_48 rfl (lv_at hl 1 rfl) ?_
      refine cg_X1_points E i_X1 hP h_other (by decide +kernel) dX1_isAheadOf_49 ?_
      have J_3 : ∀ (y3_t0 : Int32) (H : Heap) (locs : List Loc) (ls : Array Slot), y3_t0 = (k90t0_X1_isAheadOf σ own other) → cP D cI cO A g cap N σ H → va_S A s.heap H locs → lv_has ls 2 [(0, .ref (g 8 own.toNatClampNeg)), (1, .ref (g 8 other.toNatClampNeg))] → W p l e R s m args below meth c H locs cells slots Q (F0 m 90 ls [.int y3_t0]) := by
        intro y3_t0 H locs ls e_y3_t0 hP hS hl
        subst e_y3_t0
        exact kr _ (k90t0_X1_isAheadOf σ own other) H locs ls dX1_isAheadOf_90 hq.symm hP hS
      refine lv_icmp_eq (tgt := 74) hx hb dX1_isAheadOf_52 (by decide) (fun c_3 => ?_) (fun c_3 => ?_)
      · refine lv_aload_n hx hb dX1_isAheadOf_74 rfl (lv_at hl 0 rfl) ?_
        refine cg_X1_number E i_X1 hP h_own (by decide +kernel) dX1_isAheadOf_75 ?_
        refine lv_aload_n hx hb dX1_isAheadOf_78 rfl (lv_at hl 1 rfl) ?_
        refine cg_X1_number E i_X1 hP h_other (by decide +kernel) dX1_isAheadOf_79 ?_
        refine lv_icmp_ge (tgt := 89) hx hb dX1_isAheadOf_82 (by decide) (fun c_4 => ?_) (fun c_4 => ?_)
        · refine lv_iconst (v := 0) hx hb dX1_isAheadOf_89 (by decide) ?_
          exact J_3 (0 : Int32) H locs ls ((if_pos c_4).symm.trans (if_pos c_3).symm) hP hS (lv_sub hl [0, 1] rfl)
        refine lv_iconst (v := 1) hx hb dX1_isAheadOf_85 (by decide) ?_
        refine lv_goto (tgt := 90) hx hb dX1_isAheadOf_86 (by decide) ?_
        exact J_3 (1 : Int32) H locs ls ((if_neg c_4).symm.trans (if_pos c_3).symm) hP hS (lv_sub hl [0, 1] rfl)
      refine lv_aload_n hx hb dX1_isAheadOf_55 rfl (lv_at hl 0 rfl) ?_
      refine cg_X1_points E i_X1 hP h_own (by decide +kernel) dX1_isAheadOf_56 ?_
      refine lv_aload_n hx hb dX1_isAheadOf_59 rfl (lv_at hl 1 rfl) ?_
      refine cg_X1_points E i_X1 hP h_other (by decide +kernel) dX1_isAheadOf_60 ?_
      refine lv_icmp_le (tgt := 70) hx hb dX1_isAheadOf_63 (by decide) (fun c_5 => ?_) (fun c_5 => ?_)
      · refine lv_iconst (v := 0) hx hb dX1_isAheadOf_70 (by decide) ?_
        refine lv_goto (tgt := 90) hx hb dX1_isAheadOf_71 (by decide) ?_
        exact J_3 (0 : Int32) H locs ls ((if_pos c_5).symm.trans (if_neg c_3).symm) hP hS (lv_sub hl [0, 1] rfl)
      refine lv_iconst (v := 1) hx hb dX1_isAheadOf_66 (by decide) ?_
      refine lv_goto (tgt := 90) hx hb dX1_isAheadOf_67 (by decide) ?_
      exact J_3 (1 : Int32) H locs ls ((if_neg c_5).symm.trans (if_neg c_3).symm) hP hS (lv_sub hl [0, 1] rfl)
    have hq := hq.trans (if_neg c_2)
    refine lv_aload_n hx hb dX1_isAheadOf_27 rfl (lv_at hl 0 rfl) ?_
    refine cg_X1_kind E i_X1 hP h_own (by decide +kernel) dX1_isAheadOf_28 ?_
    refine lv_aload_n hx hb dX1_isAheadOf_31 rfl (lv_at hl 1 rfl) ?_
    refine cg_X1_kind E i_X1 hP h_other (by decide +kernel) dX1_isAheadOf_32 ?_
    have J_6 : ∀ (y6_t0 : Int32) (H : Heap) (locs : List Loc) (ls : Array Slot), y6_t0 = (if (σ 37 other.toNatClampNeg) ≤ (σ 37 own.toNatClampNeg) then (0 : Int32) else (1 : Int32)) → cP D cI cO A g cap N σ H → va_S A s.heap H locs → lv_has ls 2 [(0, .ref (g 8 own.toNatClampNeg)), (1, .ref (g 8 other.toNatClampNeg))] → W p l e R s m args below meth c H locs cells slots Q (F0 m 43 ls [.int y6_t0]) := by
      intro y6_t0 H locs ls e_y6_t0 hP hS hl
      subst e_y6_t0
      exact kr _ (if (σ 37 other.toNatClampNeg) ≤ (σ 37 own.toNatClampNeg) then (0 : Int32) else (1 : Int32)) H locs ls dX1_isAheadOf_43 hq.symm hP hS
    refine lv_icmp_ge (tgt := 42) hx hb dX1_isAheadOf_35 (by decide) (fun c_6 => ?_) (fun c_6 => ?_)
    · refine lv_iconst (v := 0) hx hb dX1_isAheadOf_42 (by decide) ?_
      exact J_6 (0 : Int32) H locs ls (if_pos c_6).symm hP hS (lv_sub hl [0, 1] rfl)
    refine lv_iconst (v := 1) hx hb dX1_isAheadOf_38 (by decide) ?_
    refine lv_goto (tgt := 43) hx hb dX1_isAheadOf_39 (by decide) ?_
    exact J_6 (1 : Int32) H locs ls (if_neg c_6).symm hP hS (lv_sub hl [0, 1] rfl)
  have hq := hq.trans (if_neg c_1)
  refine lv_aload_n hx hb dX1_isAheadOf_11 rfl (lv_at hl 0 rfl) ?_
  refine cg_X1_isUrgent E i_X1 hP h_own (by decide +kernel) dX1_isAheadOf_12 ?_
  exact kr _ (σ 41 own.toNatClampNeg) H locs ls dX1_isAheadOf_15 hq.symm hP hS
theorem b_X1_isAheadOf (σ : St) (own : Int32) (other : Int32) {cap N : Nat → Nat} (hI : KI cap N σ) : isB (q_X1_isAheadOf σ own other) := by
  unfold q_X1_isAheadOf; (try unfold k90t0_X1_isAheadOf); repeat (first | exact isB0 | exact isB1 | exact (hI.2.2.2.2.1 _).2 | apply isB_if)
set_option maxHeartbeats 4000000 in
set_option maxRecDepth 100000 in
theorem c_X1_isAheadOf (l : Launch) {D : va_G} {A : Nat → Prop} {cI cO : ClassId} {g : Gh} {cap N : Nat → Nat} (σ : St) (own : Int32) (other : Int32) (hI : KI cap N σ) (h_own : vp_in own (N 8)) (h_other : vp_in other (N 8)) : Met l yX1_isAheadOf wsX1_isAheadOf ({ frames := 0, cells := 0, slots := 0, locals := 0 }) (va_Pc [.ref (g 8 own.toNatClampNeg), .ref (g 8 other.toNatClampNeg)] (cU D cI cO A g cap N σ)) (va_Qi (fun r (_ : Unit) => r = q_X1_isAheadOf σ own other) (fun _ t => cU D cI cO A g cap N (σ) t) A) 0 0 A := by
  refine Met.ofW (cc := cX1_isAheadOf) (maxL := 2) (ret := (some .boolean)) (by decide) rfl ?_
  intro p e s m args below meth c s₁ B hml hv
  obtain ⟨rfl, hP, hK⟩ := hv
  have E : kE p c cX1_isAheadOf s m ([.ref (g 8 own.toNatClampNeg), .ref (g 8 other.toNatClampNeg)] : List Value).toArray wsX1_isAheadOf RX1 D cI cO := ⟨⟨B.exec, B.bytes⟩, atoms_spec (ws := wsX1_isAheadOf) B.pre, findClass_of_methodNamed B.named, hK⟩
  have hr := B.returns
  have hlocks := B.notSynchronized
  have hl := lv_entry ([.ref (g 8 own.toNatClampNeg), .ref (g 8 other.toNatClampNeg)]) (n := 2) (Nat.le_of_ble_eq_true rfl)
  rw [lg_entry_eq]
  generalize (lg_sl ([.ref (g 8 own.toNatClampNeg), .ref (g 8 other.toNatClampNeg)]) ++ List.replicate (2 - (lg_sl ([.ref (g 8 own.toNatClampNeg), .ref (g 8 other.toNatClampNeg)])).length) Slot.unset).toArray = ls at hl ⊢
  refine w_X1_isAheadOf σ own other hI h_own h_other E hml ⟨Nat.le_of_ble_eq_true rfl, Nat.le_of_ble_eq_true rfl⟩ ⟨Nat.zero_le _, Nat.zero_le _⟩ hP va_S.rf hl (fun pc v H1 locs1 ls1 hd hv hP1 hS1 => ?_)
  exact W.zret (v := v) B.exec B.bytes hr (by rw [hv]; exact isB_n (b_X1_isAheadOf σ own other hI)) (fun t ht hW => ⟨⟨v, (), rfl, hv, by rw [ht]; exact hP1, va_K.moved hW.alike hK⟩, hS1.F ht⟩) hS1.2.2 hd
def q_X2_tideAt (σ : St) (own : Int32) (minute : Int32) : Int32 := ((σ 4 own.toNatClampNeg) * ((if 0 ≤ (((minute + (σ 5 own.toNatClampNeg)) - (minute + (σ 5 own.toNatClampNeg)) / (720 : Int32) * (720 : Int32)) - (360 : Int32)) then (((minute + (σ 5 own.toNatClampNeg)) - (minute + (σ 5 own.toNatClampNeg)) / (720 : Int32) * (720 : Int32)) - (360 : Int32)) else (0 - (((minute + (σ 5 own.toNatClampNeg)) - (minute + (σ 5 own.toNatClampNeg)) / (720 : Int32) * (720 : Int32)) - (360 : Int32)))) - (180 : Int32))) / (180 : Int32)
set_option maxHeartbeats 1000000 in
set_option maxRecDepth 100000 in
theorem w_X2_tideAt {p : Program} {l : Launch} {e : Env} {R : Room} {s : State} {m : MethodId} {args : Array Value} {below : List Frame} {meth : Method} {c : Code} {H : Heap} {locs : List Loc} {cells slots : Nat} {Q : State → Prop} {D : va_G} {A : Nat → Prop} {cI cO : ClassId} {g : Gh} {cap N : Nat → Nat} {ls : Array Slot} (σ : St) (own : Int32) (minute : Int32) (hI : KI cap N σ) (h_own : vp_in own (N 4)) (E : kE p c cX2_tideAt s m args wsX2_tideAt RX2 D cI cO) (hml : c.maxLocals = 3) (hR : 1 ≤ R.frames ∧ 13 ≤ R.locals) (hf : cells ≤ R.cells ∧ slots ≤ R.slots) (hP : cP D cI cO A g cap N σ H) (hS : va_S A s.heap H locs) (hl : lv_has ls 3 [(0, .ref (g 4 own.toNatClampNeg)), (1, .int minute)]) (kr : ∀ (pc : Nat) (rv : Int32) (H1 : Heap) (locs1 : List Loc) (ls1 : Array Slot), decode cX2_tideAt pc = .ok (.ireturn, 1) → rv = q_X2_tideAt σ own minute → cP D cI cO A g cap N σ H1 → va_S A s.heap H1 locs1 → W p l e R s m args below meth c H1 locs1 cells slots Q (F0 m pc ls1 [.int rv])) : W p l e R s m args below meth c H locs cells slots Q (F0 m 0 ls []) := by
  have hx := E.1.1
  have hb := E.1.2
  have hts := E.2.1
  obtain ⟨n0, n4, n5, n6, n8, n7, n1, n2, n3⟩ := id hI.1
  have i_X2 : ∀ w ∈ wsX20, w ∈ wsX2_tideAt := by decide +kernel
  have hq : q_X2_tideAt σ own minute = ((σ 4 own.toNatClampNeg) * ((if 0 ≤ (((minute + (σ 5 own.toNatClampNeg)) - (minute + (σ 5 own.toNatClampNeg)) / (720 : Int32) * (720 : Int32)) - (360 : Int32)) then (((minute + (σ 5 own.toNatClampNeg)) - (minute + (σ 5 own.toNatClampNeg)) / (720 : Int32) * (720 : Int32)) - (360 : Int32)) else (0 - (((minute + (σ 5 own.toNatClampNeg)) - (minute + (σ 5 own.toNatClampNeg)) / (720 : Int32) * (720 : Int32)) - (360 : Int32)))) - (180 : Int32))) / (180 : Int32) := rfl
  refine lv_iload_n hx hb dX2_tideAt_0 rfl (lv_at hl 1 rfl) ?_
  refine lv_aload_n hx hb dX2_tideAt_1 rfl (lv_at hl 0 rfl) ?_
  refine cg_X2_phase E i_X2 hP h_own (by decide +kernel) dX2_tideAt_2 ?_
  refine lv_iadd hx hb dX2_tideAt_5 ?_
  refine lv_sipush (v := 720) hx hb dX2_tideAt_6 (by decide) ?_
  refine lv_irem hx hb dX2_tideAt_9 (by decide) ?_
  refine lv_sipush (v := 360) hx hb dX2_tideAt_10 (by decide) ?_
  refine lv_isub hx hb dX2_tideAt_13 ?_
  refine kmabs E hml hl.1 ⟨by decide +kernel, by decide +kernel, by decide +kernel, by decide +kernel⟩ (Nat.le_trans (Nat.le_of_ble_eq_true rfl) hR.1) (Nat.le_trans (Nat.le_of_ble_eq_true rfl) hR.2) hf dX2_tideAt_14 ?_
  refine lv_istore_n (lv' := [(2, .int (if 0 ≤ (((minute + (σ 5 own.toNatClampNeg)) - (minute + (σ 5 own.toNatClampNeg)) / (720 : Int32) * (720 : Int32)) - (360 : Int32)) then (((minute + (σ 5 own.toNatClampNeg)) - (minute + (σ 5 own.toNatClampNeg)) / (720 : Int32) * (720 : Int32)) - (360 : Int32)) else (0 - (((minute + (σ 5 own.toNatClampNeg)) - (minute + (σ 5 own.toNatClampNeg)) / (720 : Int32) * (720 : Int32)) - (360 : Int32))))), (0, .ref (g 4 own.toNatClampNeg)), (1, .int minute)]) hx hb dX2_tideAt_17 rfl hl (by decide) rfl (fun ls hl => ?_)
  refine lv_aload_n hx hb dX2_tideAt_18 rfl (lv_at hl 1 rfl) ?_
  refine cg_X2_range E i_X2 hP h_own (by decide +kernel) dX2_tideAt_19 ?_
  refine lv_iload_n hx hb dX2_tideAt_22 rfl (lv_at hl 0 rfl) ?_
  refine lv_sipush (v := 180) hx hb dX2_tideAt_23 (by decide) ?_
  refine lv_isub hx hb dX2_tideAt_26 ?_
  refine lv_imul hx hb dX2_tideAt_27 ?_
  refine lv_sipush (v := 180) hx hb dX2_tideAt_28 (by decide) ?_
  refine lv_idiv hx hb dX2_tideAt_31 (by decide) ?_
  exact kr _ (((σ 4 own.toNatClampNeg) * ((if 0 ≤ (((minute + (σ 5 own.toNatClampNeg)) - (minute + (σ 5 own.toNatClampNeg)) / (720 : Int32) * (720 : Int32)) - (360 : Int32)) then (((minute + (σ 5 own.toNatClampNeg)) - (minute + (σ 5 own.toNatClampNeg)) / (720 : Int32) * (720 : Int32)) - (360 : Int32)) else (0 - (((minute + (σ 5 own.toNatClampNeg)) - (minute + (σ 5 own.toNatClampNeg)) / (720 : Int32) * (720 : Int32)) - (360 : Int32)))) - (180 : Int32))) / (180 : Int32)) H locs ls dX2_tideAt_32 hq.symm hP hS
set_option maxHeartbeats 4000000 in
set_option maxRecDepth 100000 in
theorem c_X2_tideAt (l : Launch) {D : va_G} {A : Nat → Prop} {cI cO : ClassId} {g : Gh} {cap N : Nat → Nat} (σ : St) (own : Int32) (minute : Int32) (hI : KI cap N σ) (h_own : vp_in own (N 4)) : Met l yX2_tideAt wsX2_tideAt ({ frames := 1, cells := 0, slots := 0, locals := 13 }) (va_Pc [.ref (g 4 own.toNatClampNeg), .int minute] (cU D cI cO A g cap N σ)) (va_Qi (fun r (_ : Unit) => r = q_X2_tideAt σ own minute) (fun _ t => cU D cI cO A g cap N (σ) t) A) 0 0 A := by
  refine Met.ofW (cc := cX2_tideAt) (maxL := 3) (ret := (some .int)) (by decide) rfl ?_
  intro p e s m args below meth c s₁ B hml hv
  obtain ⟨rfl, hP, hK⟩ := hv
  have E : kE p c cX2_tideAt s m ([.ref (g 4 own.toNatClampNeg), .int minute] : List Value).toArray wsX2_tideAt RX2 D cI cO := ⟨⟨B.exec, B.bytes⟩, atoms_spec (ws := wsX2_tideAt) B.pre, findClass_of_methodNamed B.named, hK⟩
  have hr := B.returns
  have hlocks := B.notSynchronized
  have hl := lv_entry ([.ref (g 4 own.toNatClampNeg), .int minute]) (n := 3) (Nat.le_of_ble_eq_true rfl)
  rw [lg_entry_eq]
  generalize (lg_sl ([.ref (g 4 own.toNatClampNeg), .int minute]) ++ List.replicate (3 - (lg_sl ([.ref (g 4 own.toNatClampNeg), .int minute])).length) Slot.unset).toArray = ls at hl ⊢
  refine w_X2_tideAt σ own minute hI h_own E hml ⟨Nat.le_of_ble_eq_true rfl, Nat.le_of_ble_eq_true rfl⟩ ⟨Nat.zero_le _, Nat.zero_le _⟩ hP va_S.rf hl (fun pc v H1 locs1 ls1 hd hv hP1 hS1 => ?_)
  exact W.iret (v := v) B.exec B.bytes hr (fun t ht hW => ⟨⟨v, (), rfl, hv, by rw [ht]; exact hP1, va_K.moved hW.alike hK⟩, hS1.F ht⟩) hS1.2.2 hd
def q_X2_waterAt (σ : St) (own : Int32) (minute : Int32) : Int32 := (σ 3 own.toNatClampNeg) + (q_X2_tideAt σ own minute)
set_option maxHeartbeats 1000000 in
set_option maxRecDepth 100000 in
theorem w_X2_waterAt {p : Program} {l : Launch} {e : Env} {R : Room} {s : State} {m : MethodId} {args : Array Value} {below : List Frame} {meth : Method} {c : Code} {H : Heap} {locs : List Loc} {cells slots : Nat} {Q : State → Prop} {D : va_G} {A : Nat → Prop} {cI cO : ClassId} {g : Gh} {cap N : Nat → Nat} {ls : Array Slot} (σ : St) (own : Int32) (minute : Int32) (hI : KI cap N σ) (h_own : vp_in own (N 4)) (E : kE p c cX2_waterAt s m args wsX2_waterAt RX2 D cI cO) (hml : c.maxLocals = 2) (hR : 2 ≤ R.frames ∧ 35 ≤ R.locals) (hf : cells ≤ R.cells ∧ slots ≤ R.slots) (hP : cP D cI cO A g cap N σ H) (hS : va_S A s.heap H locs) (hl : lv_has ls 2 [(0, .ref (g 4 own.toNatClampNeg)), (1, .int minute)]) (kr : ∀ (pc : Nat) (rv : Int32) (H1 : Heap) (locs1 : List Loc) (ls1 : Array Slot), decode cX2_waterAt pc = .ok (.ireturn, 1) → rv = q_X2_waterAt σ own minute → cP D cI cO A g cap N σ H1 → va_S A s.heap H1 locs1 → W p l e R s m args below meth c H1 locs1 cells slots Q (F0 m pc ls1 [.int rv])) : W p l e R s m args below meth c H locs cells slots Q (F0 m 0 ls []) := by
  have hx := E.1.1
  have hb := E.1.2
  have hts := E.2.1
  obtain ⟨n0, n4, n5, n6, n8, n7, n1, n2, n3⟩ := id hI.1
  have i_X2 : ∀ w ∈ wsX20, w ∈ wsX2_waterAt := by decide +kernel
  have hq : q_X2_waterAt σ own minute = (σ 3 own.toNatClampNeg) + (q_X2_tideAt σ own minute) := rfl
  refine lv_aload_n hx hb dX2_waterAt_0 rfl (lv_at hl 0 rfl) ?_
  refine cg_X2_depth E i_X2 hP h_own (by decide +kernel) dX2_waterAt_1 ?_
  refine lv_aload_n hx hb dX2_waterAt_4 rfl (lv_at hl 0 rfl) ?_
  refine lv_iload_n hx hb dX2_waterAt_5 rfl (lv_at hl 1 rfl) ?_
  refine kcV_i E hml hP hS (kr_4 E.2.2.2 hP ⟨by decide, vp_lt h_own, fun z => absurd z (by decide)⟩) (c_X2_tideAt l σ own minute hI h_own) (cwV 1 hts gX2_waterAt_X2_tideAt rfl rfl rfl (by decide +kernel) ⟨Nat.le_trans (Nat.le_of_ble_eq_true rfl) hR.1, Nat.le_trans (Nat.le_of_ble_eq_true rfl) hR.2⟩) rfl hl.1 rfl (Nat.le_of_ble_eq_true rfl) dX2_waterAt_6 hf (fun H locs hP hS => ?_)
  refine lv_iadd hx hb dX2_waterAt_9 ?_
  exact kr _ ((σ 3 own.toNatClampNeg) + (q_X2_tideAt σ own minute)) H locs ls dX2_waterAt_10 hq.symm hP hS
set_option maxHeartbeats 4000000 in
set_option maxRecDepth 100000 in
theorem c_X2_waterAt (l : Launch) {D : va_G} {A : Nat → Prop} {cI cO : ClassId} {g : Gh} {cap N : Nat → Nat} (σ : St) (own : Int32) (minute : Int32) (hI : KI cap N σ) (h_own : vp_in own (N 4)) : Met l yX2_waterAt wsX2_waterAt ({ frames := 2, cells := 0, slots := 0, locals := 35 }) (va_Pc [.ref (g 4 own.toNatClampNeg), .int minute] (cU D cI cO A g cap N σ)) (va_Qi (fun r (_ : Unit) => r = q_X2_waterAt σ own minute) (fun _ t => cU D cI cO A g cap N (σ) t) A) 0 0 A := by
  refine Met.ofW (cc := cX2_waterAt) (maxL := 2) (ret := (some .int)) (by decide) rfl ?_
  intro p e s m args below meth c s₁ B hml hv
  obtain ⟨rfl, hP, hK⟩ := hv
  have E : kE p c cX2_waterAt s m ([.ref (g 4 own.toNatClampNeg), .int minute] : List Value).toArray wsX2_waterAt RX2 D cI cO := ⟨⟨B.exec, B.bytes⟩, atoms_spec (ws := wsX2_waterAt) B.pre, findClass_of_methodNamed B.named, hK⟩
  have hr := B.returns
  have hlocks := B.notSynchronized
  have hl := lv_entry ([.ref (g 4 own.toNatClampNeg), .int minute]) (n := 2) (Nat.le_of_ble_eq_true rfl)
  rw [lg_entry_eq]
  generalize (lg_sl ([.ref (g 4 own.toNatClampNeg), .int minute]) ++ List.replicate (2 - (lg_sl ([.ref (g 4 own.toNatClampNeg), .int minute])).length) Slot.unset).toArray = ls at hl ⊢
  refine w_X2_waterAt σ own minute hI h_own E hml ⟨Nat.le_of_ble_eq_true rfl, Nat.le_of_ble_eq_true rfl⟩ ⟨Nat.zero_le _, Nat.zero_le _⟩ hP va_S.rf hl (fun pc v H1 locs1 ls1 hd hv hP1 hS1 => ?_)
  exact W.iret (v := v) B.exec B.bytes hr (fun t ht hW => ⟨⟨v, (), rfl, hv, by rw [ht]; exact hP1, va_K.moved hW.alike hK⟩, hS1.F ht⟩) hS1.2.2 hd
def q_X2_gapAt (σ : St) (own : Int32) (minute : Int32) : Int32 := minute - (σ 8 own.toNatClampNeg)
set_option maxHeartbeats 1000000 in
set_option maxRecDepth 100000 in
theorem w_X2_gapAt {p : Program} {l : Launch} {e : Env} {R : Room} {s : State} {m : MethodId} {args : Array Value} {below : List Frame} {meth : Method} {c : Code} {H : Heap} {locs : List Loc} {cells slots : Nat} {Q : State → Prop} {D : va_G} {A : Nat → Prop} {cI cO : ClassId} {g : Gh} {cap N : Nat → Nat} {ls : Array Slot} (σ : St) (own : Int32) (minute : Int32) (hI : KI cap N σ) (h_own : vp_in own (N 4)) (E : kE p c cX2_gapAt s m args wsX2_gapAt RX2 D cI cO) (hml : c.maxLocals = 2) (hR : 0 ≤ R.frames ∧ 0 ≤ R.locals) (hf : cells ≤ R.cells ∧ slots ≤ R.slots) (hP : cP D cI cO A g cap N σ H) (hS : va_S A s.heap H locs) (hl : lv_has ls 2 [(0, .ref (g 4 own.toNatClampNeg)), (1, .int minute)]) (kr : ∀ (pc : Nat) (rv : Int32) (H1 : Heap) (locs1 : List Loc) (ls1 : Array Slot), decode cX2_gapAt pc = .ok (.ireturn, 1) → rv = q_X2_gapAt σ own minute → cP D cI cO A g cap N σ H1 → va_S A s.heap H1 locs1 → W p l e R s m args below meth c H1 locs1 cells slots Q (F0 m pc ls1 [.int rv])) : W p l e R s m args below meth c H locs cells slots Q (F0 m 0 ls []) := by
  have hx := E.1.1
  have hb := E.1.2
  have hts := E.2.1
  obtain ⟨n0, n4, n5, n6, n8, n7, n1, n2, n3⟩ := id hI.1
  have i_X2 : ∀ w ∈ wsX20, w ∈ wsX2_gapAt := by decide +kernel
  have hq : q_X2_gapAt σ own minute = minute - (σ 8 own.toNatClampNeg) := rfl
  refine lv_iload_n hx hb dX2_gapAt_0 rfl (lv_at hl 1 rfl) ?_
  refine lv_aload_n hx hb dX2_gapAt_1 rfl (lv_at hl 0 rfl) ?_
  refine cg_X2_lastArrival E i_X2 hP h_own (by decide +kernel) dX2_gapAt_2 ?_
  refine lv_isub hx hb dX2_gapAt_5 ?_
  exact kr _ (minute - (σ 8 own.toNatClampNeg)) H locs ls dX2_gapAt_6 hq.symm hP hS
set_option maxHeartbeats 4000000 in
set_option maxRecDepth 100000 in
theorem c_X2_gapAt (l : Launch) {D : va_G} {A : Nat → Prop} {cI cO : ClassId} {g : Gh} {cap N : Nat → Nat} (σ : St) (own : Int32) (minute : Int32) (hI : KI cap N σ) (h_own : vp_in own (N 4)) : Met l yX2_gapAt wsX2_gapAt ({ frames := 0, cells := 0, slots := 0, locals := 0 }) (va_Pc [.ref (g 4 own.toNatClampNeg), .int minute] (cU D cI cO A g cap N σ)) (va_Qi (fun r (_ : Unit) => r = q_X2_gapAt σ own minute) (fun _ t => cU D cI cO A g cap N (σ) t) A) 0 0 A := by
  refine Met.ofW (cc := cX2_gapAt) (maxL := 2) (ret := (some .int)) (by decide) rfl ?_
  intro p e s m args below meth c s₁ B hml hv
  obtain ⟨rfl, hP, hK⟩ := hv
  have E : kE p c cX2_gapAt s m ([.ref (g 4 own.toNatClampNeg), .int minute] : List Value).toArray wsX2_gapAt RX2 D cI cO := ⟨⟨B.exec, B.bytes⟩, atoms_spec (ws := wsX2_gapAt) B.pre, findClass_of_methodNamed B.named, hK⟩
  have hr := B.returns
  have hlocks := B.notSynchronized
  have hl := lv_entry ([.ref (g 4 own.toNatClampNeg), .int minute]) (n := 2) (Nat.le_of_ble_eq_true rfl)
  rw [lg_entry_eq]
  generalize (lg_sl ([.ref (g 4 own.toNatClampNeg), .int minute]) ++ List.replicate (2 - (lg_sl ([.ref (g 4 own.toNatClampNeg), .int minute])).length) Slot.unset).toArray = ls at hl ⊢
  refine w_X2_gapAt σ own minute hI h_own E hml ⟨Nat.le_of_ble_eq_true rfl, Nat.le_of_ble_eq_true rfl⟩ ⟨Nat.zero_le _, Nat.zero_le _⟩ hP va_S.rf hl (fun pc v H1 locs1 ls1 hd hv hP1 hS1 => ?_)
  exact W.iret (v := v) B.exec B.bytes hr (fun t ht hW => ⟨⟨v, (), rfl, hv, by rw [ht]; exact hP1, va_K.moved hW.alike hK⟩, hS1.F ht⟩) hS1.2.2 hd
def q_X2_longestGapAt (σ : St) (own : Int32) (minute : Int32) : Int32 := if (σ 10 own.toNatClampNeg) < (q_X2_gapAt σ own minute) then (q_X2_gapAt σ own minute) else (σ 10 own.toNatClampNeg)
set_option maxHeartbeats 1000000 in
set_option maxRecDepth 100000 in
theorem w_X2_longestGapAt {p : Program} {l : Launch} {e : Env} {R : Room} {s : State} {m : MethodId} {args : Array Value} {below : List Frame} {meth : Method} {c : Code} {H : Heap} {locs : List Loc} {cells slots : Nat} {Q : State → Prop} {D : va_G} {A : Nat → Prop} {cI cO : ClassId} {g : Gh} {cap N : Nat → Nat} {ls : Array Slot} (σ : St) (own : Int32) (minute : Int32) (hI : KI cap N σ) (h_own : vp_in own (N 4)) (E : kE p c cX2_longestGapAt s m args wsX2_longestGapAt RX2 D cI cO) (hml : c.maxLocals = 2) (hR : 1 ≤ R.frames ∧ 21 ≤ R.locals) (hf : cells ≤ R.cells ∧ slots ≤ R.slots) (hP : cP D cI cO A g cap N σ H) (hS : va_S A s.heap H locs) (hl : lv_has ls 2 [(0, .ref (g 4 own.toNatClampNeg)), (1, .int minute)]) (kr : ∀ (pc : Nat) (rv : Int32) (H1 : Heap) (locs1 : List Loc) (ls1 : Array Slot), decode cX2_longestGapAt pc = .ok (.ireturn, 1) → rv = q_X2_longestGapAt σ own minute → cP D cI cO A g cap N σ H1 → va_S A s.heap H1 locs1 → W p l e R s m args below meth c H1 locs1 cells slots Q (F0 m pc ls1 [.int rv])) : W p l e R s m args below meth c H locs cells slots Q (F0 m 0 ls []) := by
  have hx := E.1.1
  have hb := E.1.2
  have hts := E.2.1
  obtain ⟨n0, n4, n5, n6, n8, n7, n1, n2, n3⟩ := id hI.1
  have i_X2 : ∀ w ∈ wsX20, w ∈ wsX2_longestGapAt := by decide +kernel
  have hq : q_X2_longestGapAt σ own minute = if (σ 10 own.toNatClampNeg) < (q_X2_gapAt σ own minute) then (q_X2_gapAt σ own minute) else (σ 10 own.toNatClampNeg) := rfl
  refine lv_aload_n hx hb dX2_longestGapAt_0 rfl (lv_at hl 0 rfl) ?_
  refine cg_X2_longestEnded E i_X2 hP h_own (by decide +kernel) dX2_longestGapAt_1 ?_
  refine lv_aload_n hx hb dX2_longestGapAt_4 rfl (lv_at hl 0 rfl) ?_
  refine lv_iload_n hx hb dX2_longestGapAt_5 rfl (lv_at hl 1 rfl) ?_
  refine kcV_i E hml hP hS (kr_4 E.2.2.2 hP ⟨by decide, vp_lt h_own, fun z => absurd z (by decide)⟩) (c_X2_gapAt l σ own minute hI h_own) (cwV 1 hts gX2_longestGapAt_X2_gapAt rfl rfl rfl (by decide +kernel) ⟨Nat.le_trans (Nat.le_of_ble_eq_true rfl) hR.1, Nat.le_trans (Nat.le_of_ble_eq_true rfl) hR.2⟩) rfl hl.1 rfl (Nat.le_of_ble_eq_true rfl) dX2_longestGapAt_6 hf (fun H locs hP hS => ?_)
  refine kmmax E hml hl.1 ⟨by decide +kernel, by decide +kernel, by decide +kernel, by decide +kernel⟩ (Nat.le_trans (Nat.le_of_ble_eq_true rfl) hR.1) (Nat.le_trans (Nat.le_of_ble_eq_true rfl) hR.2) hf dX2_longestGapAt_9 ?_
  exact kr _ (if (σ 10 own.toNatClampNeg) < (q_X2_gapAt σ own minute) then (q_X2_gapAt σ own minute) else (σ 10 own.toNatClampNeg)) H locs ls dX2_longestGapAt_12 hq.symm hP hS
set_option maxHeartbeats 4000000 in
set_option maxRecDepth 100000 in
theorem c_X2_longestGapAt (l : Launch) {D : va_G} {A : Nat → Prop} {cI cO : ClassId} {g : Gh} {cap N : Nat → Nat} (σ : St) (own : Int32) (minute : Int32) (hI : KI cap N σ) (h_own : vp_in own (N 4)) : Met l yX2_longestGapAt wsX2_longestGapAt ({ frames := 1, cells := 0, slots := 0, locals := 21 }) (va_Pc [.ref (g 4 own.toNatClampNeg), .int minute] (cU D cI cO A g cap N σ)) (va_Qi (fun r (_ : Unit) => r = q_X2_longestGapAt σ own minute) (fun _ t => cU D cI cO A g cap N (σ) t) A) 0 0 A := by
  refine Met.ofW (cc := cX2_longestGapAt) (maxL := 2) (ret := (some .int)) (by decide) rfl ?_
  intro p e s m args below meth c s₁ B hml hv
  obtain ⟨rfl, hP, hK⟩ := hv
  have E : kE p c cX2_longestGapAt s m ([.ref (g 4 own.toNatClampNeg), .int minute] : List Value).toArray wsX2_longestGapAt RX2 D cI cO := ⟨⟨B.exec, B.bytes⟩, atoms_spec (ws := wsX2_longestGapAt) B.pre, findClass_of_methodNamed B.named, hK⟩
  have hr := B.returns
  have hlocks := B.notSynchronized
  have hl := lv_entry ([.ref (g 4 own.toNatClampNeg), .int minute]) (n := 2) (Nat.le_of_ble_eq_true rfl)
  rw [lg_entry_eq]
  generalize (lg_sl ([.ref (g 4 own.toNatClampNeg), .int minute]) ++ List.replicate (2 - (lg_sl ([.ref (g 4 own.toNatClampNeg), .int minute])).length) Slot.unset).toArray = ls at hl ⊢
  refine w_X2_longestGapAt σ own minute hI h_own E hml ⟨Nat.le_of_ble_eq_true rfl, Nat.le_of_ble_eq_true rfl⟩ ⟨Nat.zero_le _, Nat.zero_le _⟩ hP va_S.rf hl (fun pc v H1 locs1 ls1 hd hv hP1 hS1 => ?_)
  exact W.iret (v := v) B.exec B.bytes hr (fun t ht hW => ⟨⟨v, (), rfl, hv, by rw [ht]; exact hP1, va_K.moved hW.alike hK⟩, hS1.F ht⟩) hS1.2.2 hd
def q_X2_longestCauseAt (σ : St) (own : Int32) (minute : Int32) : Int32 := if (q_X2_gapAt σ own minute) ≤ (σ 10 own.toNatClampNeg) then (σ 11 own.toNatClampNeg) else (σ 9 own.toNatClampNeg)
set_option maxHeartbeats 1000000 in
set_option maxRecDepth 100000 in
theorem w_X2_longestCauseAt {p : Program} {l : Launch} {e : Env} {R : Room} {s : State} {m : MethodId} {args : Array Value} {below : List Frame} {meth : Method} {c : Code} {H : Heap} {locs : List Loc} {cells slots : Nat} {Q : State → Prop} {D : va_G} {A : Nat → Prop} {cI cO : ClassId} {g : Gh} {cap N : Nat → Nat} {ls : Array Slot} (σ : St) (own : Int32) (minute : Int32) (hI : KI cap N σ) (h_own : vp_in own (N 4)) (E : kE p c cX2_longestCauseAt s m args wsX2_longestCauseAt RX2 D cI cO) (hml : c.maxLocals = 2) (hR : 1 ≤ R.frames ∧ 21 ≤ R.locals) (hf : cells ≤ R.cells ∧ slots ≤ R.slots) (hP : cP D cI cO A g cap N σ H) (hS : va_S A s.heap H locs) (hl : lv_has ls 2 [(0, .ref (g 4 own.toNatClampNeg)), (1, .int minute)]) (kr : ∀ (pc : Nat) (rv : Int32) (H1 : Heap) (locs1 : List Loc) (ls1 : Array Slot), decode cX2_longestCauseAt pc = .ok (.ireturn, 1) → rv = q_X2_longestCauseAt σ own minute → cP D cI cO A g cap N σ H1 → va_S A s.heap H1 locs1 → W p l e R s m args below meth c H1 locs1 cells slots Q (F0 m pc ls1 [.int rv])) : W p l e R s m args below meth c H locs cells slots Q (F0 m 0 ls []) := by
  have hx := E.1.1
  have hb := E.1.2
  have hts := E.2.1
  obtain ⟨n0, n4, n5, n6, n8, n7, n1, n2, n3⟩ := id hI.1
  have i_X2 : ∀ w ∈ wsX20, w ∈ wsX2_longestCauseAt := by decide +kernel
  have hq : q_X2_longestCauseAt σ own minute = if (q_X2_gapAt σ own minute) ≤ (σ 10 own.toNatClampNeg) then (σ 11 own.toNatClampNeg) else (σ 9 own.toNatClampNeg) := rfl
  refine lv_aload_n hx hb dX2_longestCauseAt_0 rfl (lv_at hl 0 rfl) ?_
  refine lv_iload_n hx hb dX2_longestCauseAt_1 rfl (lv_at hl 1 rfl) ?_
  refine kcV_i E hml hP hS (kr_4 E.2.2.2 hP ⟨by decide, vp_lt h_own, fun z => absurd z (by decide)⟩) (c_X2_gapAt l σ own minute hI h_own) (cwV 1 hts gX2_longestCauseAt_X2_gapAt rfl rfl rfl (by decide +kernel) ⟨Nat.le_trans (Nat.le_of_ble_eq_true rfl) hR.1, Nat.le_trans (Nat.le_of_ble_eq_true rfl) hR.2⟩) rfl hl.1 rfl (Nat.le_of_ble_eq_true rfl) dX2_longestCauseAt_2 hf (fun H locs hP hS => ?_)
  refine lv_aload_n hx hb dX2_longestCauseAt_5 rfl (lv_at hl 0 rfl) ?_
  refine cg_X2_longestEnded E i_X2 hP h_own (by decide +kernel) dX2_longestCauseAt_6 ?_
  have J_1 : ∀ (y1_t0 : Int32) (H : Heap) (locs : List Loc) (ls : Array Slot), y1_t0 = (if (q_X2_gapAt σ own minute) ≤ (σ 10 own.toNatClampNeg) then (σ 11 own.toNatClampNeg) else (σ 9 own.toNatClampNeg)) → cP D cI cO A g cap N σ H → va_S A s.heap H locs → lv_has ls 2 [(0, .ref (g 4 own.toNatClampNeg)), (1, .int minute)] → W p l e R s m args below meth c H locs cells slots Q (F0 m 23 ls [.int y1_t0]) := by
    intro y1_t0 H locs ls e_y1_t0 hP hS hl
    subst e_y1_t0
    exact kr _ (if (q_X2_gapAt σ own minute) ≤ (σ 10 own.toNatClampNeg) then (σ 11 own.toNatClampNeg) else (σ 9 own.toNatClampNeg)) H locs ls dX2_longestCauseAt_23 hq.symm hP hS
  refine lv_icmp_le (tgt := 19) hx hb dX2_longestCauseAt_9 (by decide) (fun c_1 => ?_) (fun c_1 => ?_)
  · refine lv_aload_n hx hb dX2_longestCauseAt_19 rfl (lv_at hl 0 rfl) ?_
    refine cg_X2_causeOfLongestEnded E i_X2 hP h_own (by decide +kernel) dX2_longestCauseAt_20 ?_
    exact J_1 (σ 11 own.toNatClampNeg) H locs ls (if_pos c_1).symm hP hS (lv_sub hl [0, 1] rfl)
  refine lv_aload_n hx hb dX2_longestCauseAt_12 rfl (lv_at hl 0 rfl) ?_
  refine cg_X2_cause E i_X2 hP h_own (by decide +kernel) dX2_longestCauseAt_13 ?_
  refine lv_goto (tgt := 23) hx hb dX2_longestCauseAt_16 (by decide) ?_
  exact J_1 (σ 9 own.toNatClampNeg) H locs ls (if_neg c_1).symm hP hS (lv_sub hl [0, 1] rfl)
set_option maxHeartbeats 4000000 in
set_option maxRecDepth 100000 in
theorem c_X2_longestCauseAt (l : Launch) {D : va_G} {A : Nat → Prop} {cI cO : ClassId} {g : Gh} {cap N : Nat → Nat} (σ : St) (own : Int32) (minute : Int32) (hI : KI cap N σ) (h_own : vp_in own (N 4)) : Met l yX2_longestCauseAt wsX2_longestCauseAt ({ frames := 1, cells := 0, slots := 0, locals := 21 }) (va_Pc [.ref (g 4 own.toNatClampNeg), .int minute] (cU D cI cO A g cap N σ)) (va_Qi (fun r (_ : Unit) => r = q_X2_longestCauseAt σ own minute) (fun _ t => cU D cI cO A g cap N (σ) t) A) 0 0 A := by
  refine Met.ofW (cc := cX2_longestCauseAt) (maxL := 2) (ret := (some .int)) (by decide) rfl ?_
  intro p e s m args below meth c s₁ B hml hv
  obtain ⟨rfl, hP, hK⟩ := hv
  have E : kE p c cX2_longestCauseAt s m ([.ref (g 4 own.toNatClampNeg), .int minute] : List Value).toArray wsX2_longestCauseAt RX2 D cI cO := ⟨⟨B.exec, B.bytes⟩, atoms_spec (ws := wsX2_longestCauseAt) B.pre, findClass_of_methodNamed B.named, hK⟩
  have hr := B.returns
  have hlocks := B.notSynchronized
  have hl := lv_entry ([.ref (g 4 own.toNatClampNeg), .int minute]) (n := 2) (Nat.le_of_ble_eq_true rfl)
  rw [lg_entry_eq]
  generalize (lg_sl ([.ref (g 4 own.toNatClampNeg), .int minute]) ++ List.replicate (2 - (lg_sl ([.ref (g 4 own.toNatClampNeg), .int minute])).length) Slot.unset).toArray = ls at hl ⊢
  refine w_X2_longestCauseAt σ own minute hI h_own E hml ⟨Nat.le_of_ble_eq_true rfl, Nat.le_of_ble_eq_true rfl⟩ ⟨Nat.zero_le _, Nat.zero_le _⟩ hP va_S.rf hl (fun pc v H1 locs1 ls1 hd hv hP1 hS1 => ?_)
  exact W.iret (v := v) B.exec B.bytes hr (fun t ht hW => ⟨⟨v, (), rfl, hv, by rw [ht]; exact hP1, va_K.moved hW.alike hK⟩, hS1.F ht⟩) hS1.2.2 hd
def s_X2_endGap (σ : St) (own : Int32) (minute : Int32) : St := st (st (st (st σ 10 own.toNatClampNeg (q_X2_longestGapAt σ own minute)) 11 own.toNatClampNeg (q_X2_longestCauseAt σ own minute)) 8 own.toNatClampNeg minute) 9 own.toNatClampNeg (0 : Int32)
set_option maxHeartbeats 1000000 in
set_option maxRecDepth 100000 in
theorem w_X2_endGap {p : Program} {l : Launch} {e : Env} {R : Room} {s : State} {m : MethodId} {args : Array Value} {below : List Frame} {meth : Method} {c : Code} {H : Heap} {locs : List Loc} {cells slots : Nat} {Q : State → Prop} {D : va_G} {A : Nat → Prop} {cI cO : ClassId} {g : Gh} {cap N : Nat → Nat} {ls : Array Slot} (σ : St) (own : Int32) (minute : Int32) (hI : KI cap N σ) (h_own : vp_in own (N 4)) (E : kE p c cX2_endGap s m args wsX2_endGap RX2 D cI cO) (hml : c.maxLocals = 3) (hR : 2 ≤ R.frames ∧ 42 ≤ R.locals) (hf : cells ≤ R.cells ∧ slots ≤ R.slots) (hP : cP D cI cO A g cap N σ H) (hS : va_S A s.heap H locs) (hl : lv_has ls 3 [(0, .ref (g 4 own.toNatClampNeg)), (1, .int minute)]) (kr : ∀ (pc : Nat) (H1 : Heap) (locs1 : List Loc) (ls1 : Array Slot), decode cX2_endGap pc = .ok (.return_, 1) → cP D cI cO A g cap N (s_X2_endGap σ own minute) H1 → va_S A s.heap H1 locs1 → W p l e R s m args below meth c H1 locs1 cells slots Q (F0 m pc ls1 [])) : W p l e R s m args below meth c H locs cells slots Q (F0 m 0 ls []) := by
  have hx := E.1.1
  have hb := E.1.2
  have hts := E.2.1
  obtain ⟨n0, n4, n5, n6, n8, n7, n1, n2, n3⟩ := id hI.1
  have i_X2 : ∀ w ∈ wsX20, w ∈ wsX2_endGap := by decide +kernel
  have hs : s_X2_endGap σ own minute = st (st (st (st σ 10 own.toNatClampNeg (q_X2_longestGapAt σ own minute)) 11 own.toNatClampNeg (q_X2_longestCauseAt σ own minute)) 8 own.toNatClampNeg minute) 9 own.toNatClampNeg (0 : Int32) := rfl
  refine lv_aload_n hx hb dX2_endGap_0 rfl (lv_at hl 0 rfl) ?_
  refine lv_iload_n hx hb dX2_endGap_1 rfl (lv_at hl 1 rfl) ?_
  refine kcV_i E hml hP hS (kr_4 E.2.2.2 hP ⟨by decide, vp_lt h_own, fun z => absurd z (by decide)⟩) (c_X2_longestCauseAt l σ own minute hI h_own) (cwV 1 hts gX2_endGap_X2_longestCauseAt rfl rfl rfl (by decide +kernel) ⟨Nat.le_trans (Nat.le_of_ble_eq_true rfl) hR.1, Nat.le_trans (Nat.le_of_ble_eq_true rfl) hR.2⟩) rfl hl.1 rfl (Nat.le_of_ble_eq_true rfl) dX2_endGap_2 hf (fun H locs hP hS => ?_)
  refine lv_istore_n (lv' := [(2, .int (q_X2_longestCauseAt σ own minute)), (0, .ref (g 4 own.toNatClampNeg)), (1, .int minute)]) hx hb dX2_endGap_5 rfl hl (by decide) rfl (fun ls hl => ?_)
  refine lv_aload_n hx hb dX2_endGap_6 rfl (lv_at hl 1 rfl) ?_
  refine lv_aload_n hx hb dX2_endGap_7 rfl (lv_at hl 1 rfl) ?_
  refine lv_iload_n hx hb dX2_endGap_8 rfl (lv_at hl 2 rfl) ?_
  refine kcV_i E hml hP hS (kr_4 E.2.2.2 hP ⟨by decide, vp_lt h_own, fun z => absurd z (by decide)⟩) (c_X2_longestGapAt l σ own minute hI h_own) (cwV 1 hts gX2_endGap_X2_longestGapAt rfl rfl rfl (by decide +kernel) ⟨Nat.le_trans (Nat.le_of_ble_eq_true rfl) hR.1, Nat.le_trans (Nat.le_of_ble_eq_true rfl) hR.2⟩) rfl hl.1 rfl (Nat.le_of_ble_eq_true rfl) dX2_endGap_9 hf (fun H locs hP hS => ?_)
  refine cp_X2_longestEnded E i_X2 hP hS h_own (by decide +kernel) dX2_endGap_12 (fun H locs hP hS => ?_)
  refine lv_aload_n hx hb dX2_endGap_15 rfl (lv_at hl 1 rfl) ?_
  refine lv_iload_n hx hb dX2_endGap_16 rfl (lv_at hl 0 rfl) ?_
  refine cp_X2_causeOfLongestEnded E i_X2 hP hS h_own (by decide +kernel) dX2_endGap_17 (fun H locs hP hS => ?_)
  refine lv_aload_n hx hb dX2_endGap_20 rfl (lv_at hl 1 rfl) ?_
  refine lv_iload_n hx hb dX2_endGap_21 rfl (lv_at hl 2 rfl) ?_
  refine cp_X2_lastArrival E i_X2 hP hS h_own (by decide +kernel) dX2_endGap_22 (fun H locs hP hS => ?_)
  refine lv_aload_n hx hb dX2_endGap_25 rfl (lv_at hl 1 rfl) ?_
  refine lv_iconst (v := 0) hx hb dX2_endGap_26 (by decide) ?_
  refine cp_X2_cause E i_X2 hP hS h_own (by decide +kernel) dX2_endGap_27 (fun H locs hP hS => ?_)
  exact kr _ H locs ls dX2_endGap_30 (by rw [hs]; exact hP) hS
set_option maxHeartbeats 4000000 in
set_option maxRecDepth 100000 in
theorem c_X2_endGap (l : Launch) {D : va_G} {A : Nat → Prop} {cI cO : ClassId} {g : Gh} {cap N : Nat → Nat} (σ : St) (own : Int32) (minute : Int32) (hI : KI cap N σ) (h_own : vp_in own (N 4)) : Met l yX2_endGap wsX2_endGap ({ frames := 2, cells := 0, slots := 0, locals := 42 }) (va_Pc [.ref (g 4 own.toNatClampNeg), .int minute] (cU D cI cO A g cap N σ)) (va_Qv (fun (_ : Unit) => True) (fun _ t => cU D cI cO A g cap N (s_X2_endGap σ own minute) t) A) 0 0 A := by
  refine Met.ofW (cc := cX2_endGap) (maxL := 3) (ret := none) (by decide) rfl ?_
  intro p e s m args below meth c s₁ B hml hv
  obtain ⟨rfl, hP, hK⟩ := hv
  have E : kE p c cX2_endGap s m ([.ref (g 4 own.toNatClampNeg), .int minute] : List Value).toArray wsX2_endGap RX2 D cI cO := ⟨⟨B.exec, B.bytes⟩, atoms_spec (ws := wsX2_endGap) B.pre, findClass_of_methodNamed B.named, hK⟩
  have hr := B.returns
  have hlocks := B.notSynchronized
  have hl := lv_entry ([.ref (g 4 own.toNatClampNeg), .int minute]) (n := 3) (Nat.le_of_ble_eq_true rfl)
  rw [lg_entry_eq]
  generalize (lg_sl ([.ref (g 4 own.toNatClampNeg), .int minute]) ++ List.replicate (3 - (lg_sl ([.ref (g 4 own.toNatClampNeg), .int minute])).length) Slot.unset).toArray = ls at hl ⊢
  refine w_X2_endGap σ own minute hI h_own E hml ⟨Nat.le_of_ble_eq_true rfl, Nat.le_of_ble_eq_true rfl⟩ ⟨Nat.zero_le _, Nat.zero_le _⟩ hP va_S.rf hl (fun pc H1 locs1 ls1 hd hP1 hS1 => ?_)
  exact W.vret B.exec B.bytes hr (fun t ht hW => ⟨⟨(), rfl, trivial, by rw [ht]; exact hP1, va_K.moved hW.alike hK⟩, hS1.F ht⟩) hS1.2.2 hd
def s_X2_tellCancelled (σ : St) (own : Int32) (why : Int32) : St := if (σ 9 own.toNatClampNeg) = 0 then (st σ 9 own.toNatClampNeg why) else σ
set_option maxHeartbeats 1000000 in
set_option maxRecDepth 100000 in
theorem w_X2_tellCancelled {p : Program} {l : Launch} {e : Env} {R : Room} {s : State} {m : MethodId} {args : Array Value} {below : List Frame} {meth : Method} {c : Code} {H : Heap} {locs : List Loc} {cells slots : Nat} {Q : State → Prop} {D : va_G} {A : Nat → Prop} {cI cO : ClassId} {g : Gh} {cap N : Nat → Nat} {ls : Array Slot} (σ : St) (own : Int32) (why : Int32) (hI : KI cap N σ) (h_own : vp_in own (N 4)) (E : kE p c cX2_tellCancelled s m args wsX2_tellCancelled RX2 D cI cO) (hml : c.maxLocals = 2) (hR : 0 ≤ R.frames ∧ 0 ≤ R.locals) (hf : cells ≤ R.cells ∧ slots ≤ R.slots) (hP : cP D cI cO A g cap N σ H) (hS : va_S A s.heap H locs) (hl : lv_has ls 2 [(0, .ref (g 4 own.toNatClampNeg)), (1, .int why)]) (kr : ∀ (pc : Nat) (H1 : Heap) (locs1 : List Loc) (ls1 : Array Slot), decode cX2_tellCancelled pc = .ok (.return_, 1) → cP D cI cO A g cap N (s_X2_tellCancelled σ own why) H1 → va_S A s.heap H1 locs1 → W p l e R s m args below meth c H1 locs1 cells slots Q (F0 m pc ls1 [])) : W p l e R s m args below meth c H locs cells slots Q (F0 m 0 ls []) := by
  have hx := E.1.1
  have hb := E.1.2
  have hts := E.2.1
  obtain ⟨n0, n4, n5, n6, n8, n7, n1, n2, n3⟩ := id hI.1
  have i_X2 : ∀ w ∈ wsX20, w ∈ wsX2_tellCancelled := by decide +kernel
  have hs : s_X2_tellCancelled σ own why = if (σ 9 own.toNatClampNeg) = 0 then (st σ 9 own.toNatClampNeg why) else σ := rfl
  refine lv_aload_n hx hb dX2_tellCancelled_0 rfl (lv_at hl 0 rfl) ?_
  refine cg_X2_cause E i_X2 hP h_own (by decide +kernel) dX2_tellCancelled_1 ?_
  have J_1 : ∀ (ρ1 : St) (H : Heap) (locs : List Loc) (ls : Array Slot), ρ1 = (if (σ 9 own.toNatClampNeg) = 0 then (st σ 9 own.toNatClampNeg why) else σ) → cP D cI cO A g cap N ρ1 H → va_S A s.heap H locs → lv_has ls 2 [(0, .ref (g 4 own.toNatClampNeg)), (1, .int why)] → W p l e R s m args below meth c H locs cells slots Q (F0 m 12 ls []) := by
    intro ρ1 H locs ls e_ρ1 hP hS hl
    subst e_ρ1
    exact kr _ H locs ls dX2_tellCancelled_12 (by rw [hs]; exact hP) hS
  refine lv_if_ne (tgt := 12) hx hb dX2_tellCancelled_4 (by decide) (fun c_1 => ?_) (fun c_1 => ?_)
  · exact J_1 σ H locs ls (if_neg c_1).symm hP hS (lv_sub hl [0, 1] rfl)
  refine lv_aload_n hx hb dX2_tellCancelled_7 rfl (lv_at hl 0 rfl) ?_
  refine lv_iload_n hx hb dX2_tellCancelled_8 rfl (lv_at hl 1 rfl) ?_
  refine cp_X2_cause E i_X2 hP hS h_own (by decide +kernel) dX2_tellCancelled_9 (fun H locs hP hS => ?_)
  exact J_1 (st σ 9 own.toNatClampNeg why) H locs ls (if_pos c_1).symm hP hS (lv_sub hl [0, 1] rfl)
set_option maxHeartbeats 4000000 in
set_option maxRecDepth 100000 in
theorem c_X2_tellCancelled (l : Launch) {D : va_G} {A : Nat → Prop} {cI cO : ClassId} {g : Gh} {cap N : Nat → Nat} (σ : St) (own : Int32) (why : Int32) (hI : KI cap N σ) (h_own : vp_in own (N 4)) : Met l yX2_tellCancelled wsX2_tellCancelled ({ frames := 0, cells := 0, slots := 0, locals := 0 }) (va_Pc [.ref (g 4 own.toNatClampNeg), .int why] (cU D cI cO A g cap N σ)) (va_Qv (fun (_ : Unit) => True) (fun _ t => cU D cI cO A g cap N (s_X2_tellCancelled σ own why) t) A) 0 0 A := by
  refine Met.ofW (cc := cX2_tellCancelled) (maxL := 2) (ret := none) (by decide) rfl ?_
  intro p e s m args below meth c s₁ B hml hv
  obtain ⟨rfl, hP, hK⟩ := hv
  have E : kE p c cX2_tellCancelled s m ([.ref (g 4 own.toNatClampNeg), .int why] : List Value).toArray wsX2_tellCancelled RX2 D cI cO := ⟨⟨B.exec, B.bytes⟩, atoms_spec (ws := wsX2_tellCancelled) B.pre, findClass_of_methodNamed B.named, hK⟩
  have hr := B.returns
  have hlocks := B.notSynchronized
  have hl := lv_entry ([.ref (g 4 own.toNatClampNeg), .int why]) (n := 2) (Nat.le_of_ble_eq_true rfl)
  rw [lg_entry_eq]
  generalize (lg_sl ([.ref (g 4 own.toNatClampNeg), .int why]) ++ List.replicate (2 - (lg_sl ([.ref (g 4 own.toNatClampNeg), .int why])).length) Slot.unset).toArray = ls at hl ⊢
  refine w_X2_tellCancelled σ own why hI h_own E hml ⟨Nat.le_of_ble_eq_true rfl, Nat.le_of_ble_eq_true rfl⟩ ⟨Nat.zero_le _, Nat.zero_le _⟩ hP va_S.rf hl (fun pc H1 locs1 ls1 hd hP1 hS1 => ?_)
  exact W.vret B.exec B.bytes hr (fun t ht hW => ⟨⟨(), rfl, trivial, by rw [ht]; exact hP1, va_K.moved hW.alike hK⟩, hS1.F ht⟩) hS1.2.2 hd
