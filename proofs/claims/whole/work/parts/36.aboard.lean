/-! taking aboard, over the hidden world -/
/-- what a sailing's lists and lorries are: as many in either, the lorries among them -/
def KO5 (σ : St) (own : Int32) : Prop := ∃ C L : Nat, σ 54 (((2 : Int32) * own + 5).toNatClampNeg) = nI C ∧ σ 50 own.toNatClampNeg = nI L ∧ L ≤ C ∧ C ≤ 99
def KO (σ : St) (own : Int32) : Prop := ∃ C L : Nat, σ 54 (((2 : Int32) * own + 4).toNatClampNeg) = nI C ∧ σ 54 (((2 : Int32) * own + 5).toNatClampNeg) = nI C ∧ σ 50 own.toNatClampNeg = nI L ∧ L ≤ C ∧ C ≤ 99
theorem q45 {N : Nat → Nat} (h : KN N) {x : Int32} (hx : vp_in x (N 6)) : ((2 : Int32) * x + 4).toNatClampNeg ≠ ((2 : Int32) * x + 5).toNatClampNeg := by
  obtain ⟨j, hj, h60, rfl⟩ := s7 h hx
  rw [show (2 : Int32) = nI 2 from rfl, show (4 : Int32) = nI 4 from rfl, show (5 : Int32) = nI 5 from rfl, pk_mul, nI_add, nI_add, nI_clamp (by omega), nI_clamp (by omega)]
  omega
theorem st_g {τ : St} {f h j : Nat} {v : Int32} {x : Nat → Int32} (hf : h ≠ f) (e : τ h = x) : st τ f j v h = x := by rw [st_nf τ j v hf]; exact e
theorem ite_g {P : Prop} {hd : Decidable P} {a b : St} {h : Nat} {x : Nat → Int32} (ea : a h = x) (eb : b h = x) : (if P then a else b) h = x := by
  by_cases hp : P
  · rw [if_pos hp]; exact ea
  · rw [if_neg hp]; exact eb
theorem sadd_g {τ : St} {q I h : Nat} {b : Int32} {x : Nat → Int32} (hf : h ≠ 52 ∧ h ≠ 54 ∧ h < 100) (e : τ h = x) : sadd τ q I b h = x := by rw [sadd_o hf]; exact e
def k51s_X3_putFirstOff (σ : St) (own : Int32) (b_ : Int32) : St := if (σ 42 b_.toNatClampNeg) = 0 then (sadd σ (((2 : Int32) * own + 5).toNatClampNeg) (σ 50 own.toNatClampNeg).toNatClampNeg b_) else (st (sadd σ (((2 : Int32) * own + 5).toNatClampNeg) 0 b_) 50 own.toNatClampNeg (((sadd σ (((2 : Int32) * own + 5).toNatClampNeg) 0 b_) 50 own.toNatClampNeg) + (1 : Int32)))
def s_X3_putFirstOff (σ : St) (own : Int32) (b_ : Int32) : St := k51s_X3_putFirstOff σ own b_
set_option maxHeartbeats 1000000 in
set_option maxRecDepth 100000 in
theorem w_X3_putFirstOff {p : Program} {l : Launch} {e : Env} {R : Room} {s : State} {m : MethodId} {args : Array Value} {below : List Frame} {meth : Method} {c : Code} {H : Heap} {locs : List Loc} {Q : State → Prop} {D : va_G} {A : Nat → Prop} {cI cO : ClassId} {aE : Nat} {g : Gh} {N : Nat → Nat} {ls : Array Slot} (σ : St) (own : Int32) (b_ : Int32) (hO : KO5 σ own) (h_own : vp_in own (N 6)) (h_b_ : vp_in b_ (N 8)) (E : kE p c cX3_putFirstOff s m args wsX3_putFirstOff RX3 D cI cO) (hml : c.maxLocals = 2) (hR : 6 ≤ R.frames ∧ 194 ≤ R.locals) (hfm : 1 ≤ R.cells ∧ 150 ≤ R.slots) (hY : cY A aE cO s) (hP : cG D cI cO A aE g N σ H) (hS : va_S A s.heap H locs) (hl : lv_has ls 2 [(0, .ref (g 6 own.toNatClampNeg)), (1, .ref (g 8 b_.toNatClampNeg))]) (kr : ∀ (pc : Nat) (H1 : Heap) (locs1 : List Loc) (ls1 : Array Slot), decode cX3_putFirstOff pc = .ok (.return_, 1) → cG D cI cO A aE g N (s_X3_putFirstOff σ own b_) H1 → va_S A s.heap H1 locs1 → W p l e R s m args below meth c H1 locs1 1 150 Q (F0 m pc ls1 [])) : W p l e R s m args below meth c H locs 0 0 Q (F0 m 0 ls []) := by
  have hx := E.1.1
  have hb := E.1.2
  have hts := E.2.1
  obtain ⟨ga, cap, hG, hI, hP⟩ := hP
  have hf : 0 ≤ R.cells ∧ 0 ≤ R.slots := ⟨Nat.zero_le _, Nat.zero_le _⟩
  obtain ⟨n0, n4, n5, n6, n8, n7, n1, n2, n3⟩ := id hI.1
  obtain ⟨C, L, hC5, hL, hLC, h99⟩ := hO
  have i_X1 : ∀ w ∈ wsX10, w ∈ wsX3_putFirstOff := by decide +kernel
  have i_X3 : ∀ w ∈ wsX30, w ∈ wsX3_putFirstOff := by decide +kernel
  have hs : s_X3_putFirstOff σ own b_ = k51s_X3_putFirstOff σ own b_ := rfl
  refine lv_aload_n hx hb dX3_putFirstOff_0 rfl (lv_at hl 1 rfl) ?_
  refine cg_X1_isLorry E i_X1 hP h_b_ (by decide +kernel) dX3_putFirstOff_1 ?_
  have J_1 : ∀ (ρ1 : St) (H : Heap) (locs : List Loc) (ls : Array Slot), ρ1 = (k51s_X3_putFirstOff σ own b_) → cG D cI cO A aE g N ρ1 H → va_S A s.heap H locs → lv_has ls 2 [(0, .ref (g 6 own.toNatClampNeg)), (1, .ref (g 8 b_.toNatClampNeg))] → W p l e R s m args below meth c H locs (0 + 1) (0 + 150) Q (F0 m 51 ls []) := by
    intro ρ1 H locs ls e_ρ1 hP hS hl
    subst e_ρ1
    obtain ⟨ga, cap, hG, hIJ1, hP⟩ := hP
    exact W.widen (k := 1) (n := 150) (Nat.le_of_ble_eq_true rfl) (Nat.le_of_ble_eq_true rfl) (kr _ H locs ls dX3_putFirstOff_51 (by rw [hs]; exact ⟨ga, cap, hG, hIJ1, hP⟩) hS)
  refine lv_if_eq (tgt := 29) hx hb dX3_putFirstOff_4 (by decide) (fun c_1 => ?_) (fun c_1 => ?_)
  · refine lv_aload_n hx hb dX3_putFirstOff_29 rfl (lv_at hl 0 rfl) ?_
    refine cg_X3_off E i_X3 hP h_own (by omega) (by decide +kernel) dX3_putFirstOff_30 ?_
    refine lv_aload_n hx hb dX3_putFirstOff_33 rfl (lv_at hl 0 rfl) ?_
    refine cg_X3_lorries E i_X3 hP h_own (by decide +kernel) dX3_putFirstOff_34 ?_
    refine lv_aload_n hx hb dX3_putFirstOff_37 rfl (lv_at hl 0 rfl) ?_
    refine cg_X3_off E i_X3 hP h_own (by omega) (by decide +kernel) dX3_putFirstOff_38 ?_
    refine kcV_i E hml hP hS (kr_1 E.2.2.2 hP (lvL5 (cap := cap) hI.1 h_own).1) (c_AL_size l σ (((2 : Int32) * own + 5).toNatClampNeg) (lvL5 (cap := cap) hI.1 h_own).1) (cwV 0 hts gX3_putFirstOff_Jx4a65c_size_8abf5 rfl rfl rfl (by decide +kernel) ⟨Nat.le_trans (Nat.le_of_ble_eq_true rfl) hR.1, Nat.le_trans (Nat.le_of_ble_eq_true rfl) hR.2⟩) rfl hl.1 rfl (Nat.le_of_ble_eq_true rfl) dX3_putFirstOff_41 hf (fun H locs hP hS => ?_)
    refine kmmin E hml hl.1 ⟨by decide +kernel, by decide +kernel, by decide +kernel, by decide +kernel⟩ (Nat.le_trans (Nat.le_of_ble_eq_true rfl) hR.1) (Nat.le_trans (Nat.le_of_ble_eq_true rfl) hR.2) hf dX3_putFirstOff_44 ?_
    refine lv_aload_n hx hb dX3_putFirstOff_47 rfl (lv_at hl 1 rfl) ?_
    rw [show (if (σ 54 (((2 : Int32) * own + 5).toNatClampNeg)) < (σ 50 own.toNatClampNeg) then (σ 54 (((2 : Int32) * own + 5).toNatClampNeg)) else (σ 50 own.toNatClampNeg)) = nI (σ 50 own.toNatClampNeg).toNatClampNeg by rw [hC5, hL, if_neg (nI_nlt hLC (by omega)), nI_clamp (by omega)]]
    refine kqV_v (As := [.int (nI (σ 50 own.toNatClampNeg).toNatClampNeg), .ref (g 8 b_.toNatClampNeg)]) (rest := []) E hml hS (kr_1 E.2.2.2 hP (lvL5 (cap := cap) hI.1 h_own).1) gyBl (fun U hU hW => ⟨⟨by rw [hU]; exact ⟨ga, cap, hG, hI, hP⟩, va_K.moved hW.alike E.2.2.2⟩, cY_at hY hS hU hW⟩) (c_AL_addAtG l (g := g) σ (((2 : Int32) * own + 5).toNatClampNeg) C (σ 50 own.toNatClampNeg).toNatClampNeg b_ (lvL5 (cap := cap) hI.1 h_own).2 (lvL5 (cap := cap) hI.1 h_own).1.2.1 hC5 h99 h_b_ (by rw [hL, nI_clamp (by omega)]; exact hLC)) (cwV 2 hts gX3_putFirstOff_Jx4a65c_add_7a177 rfl rfl rfl (by decide +kernel) ⟨Nat.le_trans (Nat.le_of_ble_eq_true rfl) hR.1, Nat.le_trans (Nat.le_of_ble_eq_true rfl) hR.2⟩) rfl hl.1 rfl (Nat.le_of_ble_eq_true rfl) dX3_putFirstOff_48 ⟨Nat.le_trans (Nat.le_of_ble_eq_true rfl) hfm.1, Nat.le_trans (Nat.le_of_ble_eq_true rfl) hfm.2⟩ (fun u t H locs ht hvm hw hB hz hk hS => ?_)
    obtain ⟨ga, cap, hG, hIc2, hP⟩ := (show cG D cI cO A aE g N (sadd σ (((2 : Int32) * own + 5).toNatClampNeg) (σ 50 own.toNatClampNeg).toNatClampNeg b_) H by rw [← ht]; exact hB.1)
    have hf : 0 + 1 ≤ R.cells ∧ 0 + 150 ≤ R.slots := ⟨Nat.le_trans (Nat.le_of_ble_eq_true rfl) hfm.1, Nat.le_trans (Nat.le_of_ble_eq_true rfl) hfm.2⟩
    exact J_1 (sadd σ (((2 : Int32) * own + 5).toNatClampNeg) (σ 50 own.toNatClampNeg).toNatClampNeg b_) H locs ls (if_pos c_1).symm ⟨ga, cap, hG, hIc2, hP⟩ hS (lv_sub hl [0, 1] rfl)
  refine lv_aload_n hx hb dX3_putFirstOff_7 rfl (lv_at hl 0 rfl) ?_
  refine cg_X3_off E i_X3 hP h_own (by omega) (by decide +kernel) dX3_putFirstOff_8 ?_
  refine lv_iconst (v := 0) hx hb dX3_putFirstOff_11 (by decide) ?_
  refine lv_aload_n hx hb dX3_putFirstOff_12 rfl (lv_at hl 1 rfl) ?_
  refine kqV_v (As := [.int (nI 0), .ref (g 8 b_.toNatClampNeg)]) (rest := []) E hml hS (kr_1 E.2.2.2 hP (lvL5 (cap := cap) hI.1 h_own).1) gyBl (fun U hU hW => ⟨⟨by rw [hU]; exact ⟨ga, cap, hG, hI, hP⟩, va_K.moved hW.alike E.2.2.2⟩, cY_at hY hS hU hW⟩) (c_AL_addAtG l (g := g) σ (((2 : Int32) * own + 5).toNatClampNeg) C 0 b_ (lvL5 (cap := cap) hI.1 h_own).2 (lvL5 (cap := cap) hI.1 h_own).1.2.1 hC5 h99 h_b_ (Nat.zero_le _)) (cwV 2 hts gX3_putFirstOff_Jx4a65c_add_7a177 rfl rfl rfl (by decide +kernel) ⟨Nat.le_trans (Nat.le_of_ble_eq_true rfl) hR.1, Nat.le_trans (Nat.le_of_ble_eq_true rfl) hR.2⟩) rfl hl.1 rfl (Nat.le_of_ble_eq_true rfl) dX3_putFirstOff_13 ⟨Nat.le_trans (Nat.le_of_ble_eq_true rfl) hfm.1, Nat.le_trans (Nat.le_of_ble_eq_true rfl) hfm.2⟩ (fun u t H locs ht hvm hw hB hz hk hS => ?_)
  obtain ⟨ga, cap, hG, hIc3, hP⟩ := (show cG D cI cO A aE g N (sadd σ (((2 : Int32) * own + 5).toNatClampNeg) 0 b_) H by rw [← ht]; exact hB.1)
  have hf : 0 + 1 ≤ R.cells ∧ 0 + 150 ≤ R.slots := ⟨Nat.le_trans (Nat.le_of_ble_eq_true rfl) hfm.1, Nat.le_trans (Nat.le_of_ble_eq_true rfl) hfm.2⟩
  refine lv_aload_n hx hb dX3_putFirstOff_16 rfl (lv_at hl 0 rfl) ?_
  refine lv_dup hx hb dX3_putFirstOff_17 rfl ?_
  refine cg_X3_lorries E i_X3 hP h_own (by decide +kernel) dX3_putFirstOff_18 ?_
  refine lv_iconst (v := 1) hx hb dX3_putFirstOff_21 (by decide) ?_
  refine lv_iadd hx hb dX3_putFirstOff_22 ?_
  refine cp_X3_lorries E i_X3 hP hS h_own (by decide +kernel) dX3_putFirstOff_23 (fun H locs hP hS => ?_)
  refine lv_goto (tgt := 51) hx hb dX3_putFirstOff_26 (by decide) ?_
  exact J_1 (st (sadd σ (((2 : Int32) * own + 5).toNatClampNeg) 0 b_) 50 own.toNatClampNeg (((sadd σ (((2 : Int32) * own + 5).toNatClampNeg) 0 b_) 50 own.toNatClampNeg) + (1 : Int32))) H locs ls (if_neg c_1).symm ⟨ga, cap, hG, (KI_o hIc3 (by decide)), hP⟩ hS (lv_sub hl [0, 1] rfl)
set_option maxHeartbeats 4000000 in
set_option maxRecDepth 100000 in
theorem c_X3_putFirstOff (l : Launch) {D : va_G} {A : Nat → Prop} {cI cO : ClassId} {aE : Nat} {g : Gh} {N : Nat → Nat} (σ : St) (own : Int32) (b_ : Int32) (hO : KO5 σ own) (h_own : vp_in own (N 6)) (h_b_ : vp_in b_ (N 8)) : Met l yX3_putFirstOff wsX3_putFirstOff ({ frames := 6, cells := 1, slots := 150, locals := 194 }) (va_Pc [.ref (g 6 own.toNatClampNeg), .ref (g 8 b_.toNatClampNeg)] (cGY D cI cO A aE g N σ)) (va_Qv (fun (_ : Unit) => True) (fun _ t => cGU D cI cO A aE g N (s_X3_putFirstOff σ own b_) t) A) (1) (150) A := by
  refine Met.ofW (cc := cX3_putFirstOff) (maxL := 2) (ret := none) (by decide) rfl ?_
  intro p e s m args below meth c s₁ B hml hv
  obtain ⟨rfl, ⟨hP, hK⟩, hY⟩ := hv
  have E : kE p c cX3_putFirstOff s m ([.ref (g 6 own.toNatClampNeg), .ref (g 8 b_.toNatClampNeg)] : List Value).toArray wsX3_putFirstOff RX3 D cI cO := ⟨⟨B.exec, B.bytes⟩, atoms_spec (ws := wsX3_putFirstOff) B.pre, findClass_of_methodNamed B.named, hK⟩
  have hr := B.returns
  have hlocks := B.notSynchronized
  have hl := lv_entry ([.ref (g 6 own.toNatClampNeg), .ref (g 8 b_.toNatClampNeg)]) (n := 2) (Nat.le_of_ble_eq_true rfl)
  rw [lg_entry_eq]
  generalize (lg_sl ([.ref (g 6 own.toNatClampNeg), .ref (g 8 b_.toNatClampNeg)]) ++ List.replicate (2 - (lg_sl ([.ref (g 6 own.toNatClampNeg), .ref (g 8 b_.toNatClampNeg)])).length) Slot.unset).toArray = ls at hl ⊢
  refine w_X3_putFirstOff σ own b_ hO h_own h_b_ E hml ⟨Nat.le_of_ble_eq_true rfl, Nat.le_of_ble_eq_true rfl⟩ ⟨Nat.le_refl _, Nat.le_refl _⟩ hY hP va_S.rf hl (fun pc H1 locs1 ls1 hd hP1 hS1 => ?_)
  exact W.vret B.exec B.bytes hr (fun t ht hW => ⟨⟨(), rfl, trivial, by rw [ht]; exact hP1, va_K.moved hW.alike hK⟩, hS1.F ht⟩) hS1.2.2 hd
def k28t0_X3_takeAboard (σ : St) (own : Int32) (b_ : Int32) : Int32 := if (σ 32 ((2 : Int32) * own).toNatClampNeg) ≤ (σ 32 (((2 : Int32) * own) + (1 : Int32)).toNatClampNeg) then ((2 : Int32) * own) else (((2 : Int32) * own) + (1 : Int32))
def k47t0_X3_takeAboard (σ : St) (own : Int32) (b_ : Int32) : Int32 := if (q_X3_canTake σ own (k28t0_X3_takeAboard σ own b_) b_) = 0 then (q_X3_opposite σ own (k28t0_X3_takeAboard σ own b_)) else (k28t0_X3_takeAboard σ own b_)
def k89s_X3_takeAboard (σ : St) (own : Int32) (b_ : Int32) : St := if (σ 40 b_.toNatClampNeg) = 0 then (st (st σ 32 (k47t0_X3_takeAboard σ own b_).toNatClampNeg ((σ 32 (k47t0_X3_takeAboard σ own b_).toNatClampNeg) + (σ 39 b_.toNatClampNeg))) 33 (k47t0_X3_takeAboard σ own b_).toNatClampNeg ((σ 33 (k47t0_X3_takeAboard σ own b_).toNatClampNeg) + (σ 38 b_.toNatClampNeg))) else (st (st (st σ 32 (k47t0_X3_takeAboard σ own b_).toNatClampNeg ((σ 32 (k47t0_X3_takeAboard σ own b_).toNatClampNeg) + (σ 39 b_.toNatClampNeg))) 33 (k47t0_X3_takeAboard σ own b_).toNatClampNeg ((σ 33 (k47t0_X3_takeAboard σ own b_).toNatClampNeg) + (σ 38 b_.toNatClampNeg))) 51 own.toNatClampNeg (σ 40 b_.toNatClampNeg))
def s_X3_takeAboard (σ : St) (own : Int32) (b_ : Int32) : St := s_X3_putFirstOff (sadd (st (st (k89s_X3_takeAboard σ own b_) 35 b_.toNatClampNeg (1 : Int32)) 45 b_.toNatClampNeg (nI ((k47t0_X3_takeAboard σ own b_).toNatClampNeg % 2))) (((2 : Int32) * own + 4).toNatClampNeg) (σ 54 (((2 : Int32) * own + 4).toNatClampNeg)).toNatClampNeg b_) own b_
set_option maxHeartbeats 1000000 in
set_option maxRecDepth 100000 in
theorem w_X3_takeAboard {p : Program} {l : Launch} {e : Env} {R : Room} {s : State} {m : MethodId} {args : Array Value} {below : List Frame} {meth : Method} {c : Code} {H : Heap} {locs : List Loc} {Q : State → Prop} {D : va_G} {A : Nat → Prop} {cI cO : ClassId} {aE : Nat} {g : Gh} {N : Nat → Nat} {ls : Array Slot} (σ : St) (own : Int32) (b_ : Int32) (hO : KO σ own) (h_own : vp_in own (N 6)) (h_b_ : vp_in b_ (N 8)) (E : kE p c cX3_takeAboard s m args wsX3_takeAboard RX3 D cI cO) (hml : c.maxLocals = 4) (hR : 7 ≤ R.frames ∧ 215 ≤ R.locals) (hfm : 2 ≤ R.cells ∧ 300 ≤ R.slots) (hY : cY A aE cO s) (hP : cG D cI cO A aE g N σ H) (hS : va_S A s.heap H locs) (hl : lv_has ls 4 [(0, .ref (g 6 own.toNatClampNeg)), (1, .ref (g 8 b_.toNatClampNeg))]) (kr : ∀ (pc : Nat) (H1 : Heap) (locs1 : List Loc) (ls1 : Array Slot), decode cX3_takeAboard pc = .ok (.return_, 1) → cG D cI cO A aE g N (s_X3_takeAboard σ own b_) H1 → va_S A s.heap H1 locs1 → W p l e R s m args below meth c H1 locs1 2 300 Q (F0 m pc ls1 [])) : W p l e R s m args below meth c H locs 0 0 Q (F0 m 0 ls []) := by
  have hx := E.1.1
  have hb := E.1.2
  have hts := E.2.1
  obtain ⟨ga, cap, hG, hI, hP⟩ := hP
  have hf : 0 ≤ R.cells ∧ 0 ≤ R.slots := ⟨Nat.zero_le _, Nat.zero_le _⟩
  obtain ⟨n0, n4, n5, n6, n8, n7, n1, n2, n3⟩ := id hI.1
  obtain ⟨C, L, hC4, hC5, hL, hLC, h99⟩ := hO
  have i_X1 : ∀ w ∈ wsX10, w ∈ wsX3_takeAboard := by decide +kernel
  have i_X3 : ∀ w ∈ wsX30, w ∈ wsX3_takeAboard := by decide +kernel
  have i_X4 : ∀ w ∈ wsX40, w ∈ wsX3_takeAboard := by decide +kernel
  have hs : s_X3_takeAboard σ own b_ = s_X3_putFirstOff (sadd (st (st (k89s_X3_takeAboard σ own b_) 35 b_.toNatClampNeg (1 : Int32)) 45 b_.toNatClampNeg (nI ((k47t0_X3_takeAboard σ own b_).toNatClampNeg % 2))) (((2 : Int32) * own + 4).toNatClampNeg) (σ 54 (((2 : Int32) * own + 4).toNatClampNeg)).toNatClampNeg b_) own b_ := rfl
  refine lv_aload_n hx hb dX3_takeAboard_0 rfl (lv_at hl 0 rfl) ?_
  refine cg_X3_secondSide E i_X3 hP h_own (by omega) (by decide +kernel) dX3_takeAboard_1 ?_
  refine cg_X4_weight E i_X4 hP (s7b hI.1 h_own) (by decide +kernel) dX3_takeAboard_4 ?_
  refine lv_aload_n hx hb dX3_takeAboard_7 rfl (lv_at hl 0 rfl) ?_
  refine cg_X3_firstSide E i_X3 hP h_own (by omega) (by decide +kernel) dX3_takeAboard_8 ?_
  refine cg_X4_weight E i_X4 hP (s7a hI.1 h_own) (by decide +kernel) dX3_takeAboard_11 ?_
  have J_1 : ∀ (y1_t0 : Int32) (H : Heap) (locs : List Loc) (ls : Array Slot), y1_t0 = (k28t0_X3_takeAboard σ own b_) → cG D cI cO A aE g N σ H → va_S A s.heap H locs → lv_has ls 4 [(0, .ref (g 6 own.toNatClampNeg)), (1, .ref (g 8 b_.toNatClampNeg))] → W p l e R s m args below meth c H locs (0) (0) Q (F0 m 28 ls [.ref (g 7 y1_t0.toNatClampNeg)]) := by
    intro y1_t0 H locs ls e_y1_t0 hP hS hl
    subst e_y1_t0
    obtain ⟨ga, cap, hG, hIJ1, hP⟩ := hP
    refine lv_astore_n (lv' := [(2, .ref (g 7 (k28t0_X3_takeAboard σ own b_).toNatClampNeg)), (0, .ref (g 6 own.toNatClampNeg)), (1, .ref (g 8 b_.toNatClampNeg))]) hx hb dX3_takeAboard_28 rfl hl (by decide) rfl (fun ls hl => ?_)
    refine lv_aload_n hx hb dX3_takeAboard_29 rfl (lv_at hl 1 rfl) ?_
    refine lv_aload_n hx hb dX3_takeAboard_30 rfl (lv_at hl 0 rfl) ?_
    refine lv_aload_n hx hb dX3_takeAboard_31 rfl (lv_at hl 2 rfl) ?_
    refine kcV_i E hml hP hS (kr_6 E.2.2.2 hP ⟨by decide, vp_lt h_own, fun z => absurd z (by decide)⟩) (c_X3_canTake l σ own (k28t0_X3_takeAboard σ own b_) b_ hIJ1 h_own (show vp_in (if (σ 32 ((2 : Int32) * own).toNatClampNeg) ≤ (σ 32 (((2 : Int32) * own) + (1 : Int32)).toNatClampNeg) then ((2 : Int32) * own) else (((2 : Int32) * own) + (1 : Int32))) (N 7) from (in_if (s7a hI.1 h_own) (s7b hI.1 h_own))) h_b_) (cwV 2 hts gX3_takeAboard_X3_canTake rfl rfl rfl (by decide +kernel) ⟨Nat.le_trans (Nat.le_of_ble_eq_true rfl) hR.1, Nat.le_trans (Nat.le_of_ble_eq_true rfl) hR.2⟩) rfl hl.1 rfl (Nat.le_of_ble_eq_true rfl) dX3_takeAboard_32 hf (fun H locs hP hS => ?_)
    have J_2 : ∀ (y2_t0 : Int32) (H : Heap) (locs : List Loc) (ls : Array Slot), y2_t0 = (k47t0_X3_takeAboard σ own b_) → cG D cI cO A aE g N σ H → va_S A s.heap H locs → lv_has ls 4 [(2, .ref (g 7 (k28t0_X3_takeAboard σ own b_).toNatClampNeg)), (0, .ref (g 6 own.toNatClampNeg)), (1, .ref (g 8 b_.toNatClampNeg))] → W p l e R s m args below meth c H locs (0) (0) Q (F0 m 47 ls [.ref (g 7 y2_t0.toNatClampNeg)]) := by
      intro y2_t0 H locs ls e_y2_t0 hP hS hl
      subst e_y2_t0
      obtain ⟨ga, cap, hG, hIJ2, hP⟩ := hP
      refine lv_astore_n (lv' := [(3, .ref (g 7 (k47t0_X3_takeAboard σ own b_).toNatClampNeg)), (2, .ref (g 7 (k28t0_X3_takeAboard σ own b_).toNatClampNeg)), (0, .ref (g 6 own.toNatClampNeg)), (1, .ref (g 8 b_.toNatClampNeg))]) hx hb dX3_takeAboard_47 rfl hl (by decide) rfl (fun ls hl => ?_)
      refine lv_aload_n hx hb dX3_takeAboard_48 rfl (lv_at hl 0 rfl) ?_
      refine lv_dup hx hb dX3_takeAboard_49 rfl ?_
      refine cg_X4_weight E i_X4 hP (show vp_in (if (q_X3_canTake σ own (k28t0_X3_takeAboard σ own b_) b_) = 0 then (q_X3_opposite σ own (k28t0_X3_takeAboard σ own b_)) else (k28t0_X3_takeAboard σ own b_)) (N 7) from (in_if (opp_in hI h_own) (show vp_in (if (σ 32 ((2 : Int32) * own).toNatClampNeg) ≤ (σ 32 (((2 : Int32) * own) + (1 : Int32)).toNatClampNeg) then ((2 : Int32) * own) else (((2 : Int32) * own) + (1 : Int32))) (N 7) from (in_if (s7a hI.1 h_own) (s7b hI.1 h_own))))) (by decide +kernel) dX3_takeAboard_50 ?_
      refine lv_aload_n hx hb dX3_takeAboard_53 rfl (lv_at hl 3 rfl) ?_
      refine cg_X1_weight E i_X1 hP h_b_ (by decide +kernel) dX3_takeAboard_54 ?_
      refine lv_iadd hx hb dX3_takeAboard_57 ?_
      refine cp_X4_weight E i_X4 hP hS (show vp_in (if (q_X3_canTake σ own (k28t0_X3_takeAboard σ own b_) b_) = 0 then (q_X3_opposite σ own (k28t0_X3_takeAboard σ own b_)) else (k28t0_X3_takeAboard σ own b_)) (N 7) from (in_if (opp_in hI h_own) (show vp_in (if (σ 32 ((2 : Int32) * own).toNatClampNeg) ≤ (σ 32 (((2 : Int32) * own) + (1 : Int32)).toNatClampNeg) then ((2 : Int32) * own) else (((2 : Int32) * own) + (1 : Int32))) (N 7) from (in_if (s7a hI.1 h_own) (s7b hI.1 h_own))))) (by decide +kernel) dX3_takeAboard_58 (fun H locs hP hS => ?_)
      refine lv_aload_n hx hb dX3_takeAboard_61 rfl (lv_at hl 0 rfl) ?_
      refine lv_dup hx hb dX3_takeAboard_62 rfl ?_
      refine cg_X4_length E i_X4 hP (show vp_in (if (q_X3_canTake σ own (k28t0_X3_takeAboard σ own b_) b_) = 0 then (q_X3_opposite σ own (k28t0_X3_takeAboard σ own b_)) else (k28t0_X3_takeAboard σ own b_)) (N 7) from (in_if (opp_in hI h_own) (show vp_in (if (σ 32 ((2 : Int32) * own).toNatClampNeg) ≤ (σ 32 (((2 : Int32) * own) + (1 : Int32)).toNatClampNeg) then ((2 : Int32) * own) else (((2 : Int32) * own) + (1 : Int32))) (N 7) from (in_if (s7a hI.1 h_own) (s7b hI.1 h_own))))) (by decide +kernel) dX3_takeAboard_63 ?_
      show W p l e R s m args below meth c H locs (0) (0) Q (F0 m 66 ls [.int (σ 33 (k47t0_X3_takeAboard σ own b_).toNatClampNeg), .ref (g 7 (k47t0_X3_takeAboard σ own b_).toNatClampNeg)])
      refine lv_aload_n hx hb dX3_takeAboard_66 rfl (lv_at hl 3 rfl) ?_
      refine cg_X1_length E i_X1 hP h_b_ (by decide +kernel) dX3_takeAboard_67 ?_
      show W p l e R s m args below meth c H locs (0) (0) Q (F0 m 70 ls [.int (σ 38 b_.toNatClampNeg), .int (σ 33 (k47t0_X3_takeAboard σ own b_).toNatClampNeg), .ref (g 7 (k47t0_X3_takeAboard σ own b_).toNatClampNeg)])
      refine lv_iadd hx hb dX3_takeAboard_70 ?_
      refine cp_X4_length E i_X4 hP hS (show vp_in (if (q_X3_canTake σ own (k28t0_X3_takeAboard σ own b_) b_) = 0 then (q_X3_opposite σ own (k28t0_X3_takeAboard σ own b_)) else (k28t0_X3_takeAboard σ own b_)) (N 7) from (in_if (opp_in hI h_own) (show vp_in (if (σ 32 ((2 : Int32) * own).toNatClampNeg) ≤ (σ 32 (((2 : Int32) * own) + (1 : Int32)).toNatClampNeg) then ((2 : Int32) * own) else (((2 : Int32) * own) + (1 : Int32))) (N 7) from (in_if (s7a hI.1 h_own) (s7b hI.1 h_own))))) (by decide +kernel) dX3_takeAboard_71 (fun H locs hP hS => ?_)
      refine lv_aload_n hx hb dX3_takeAboard_74 rfl (lv_at hl 3 rfl) ?_
      refine cg_X1_danger E i_X1 hP h_b_ (by decide +kernel) dX3_takeAboard_75 ?_
      show W p l e R s m args below meth c H locs (0) (0) Q (F0 m 78 ls [.int (σ 40 b_.toNatClampNeg)])
      have J_3 : ∀ (ρ3 : St) (H : Heap) (locs : List Loc) (ls : Array Slot), ρ3 = (k89s_X3_takeAboard σ own b_) → cG D cI cO A aE g N ρ3 H → va_S A s.heap H locs → lv_has ls 4 [(3, .ref (g 7 (k47t0_X3_takeAboard σ own b_).toNatClampNeg)), (2, .ref (g 7 (k28t0_X3_takeAboard σ own b_).toNatClampNeg)), (0, .ref (g 6 own.toNatClampNeg)), (1, .ref (g 8 b_.toNatClampNeg))] → W p l e R s m args below meth c H locs (0) (0) Q (F0 m 89 ls []) := by
        intro ρ3 H locs ls e_ρ3 hP hS hl
        subst e_ρ3
        obtain ⟨ga, cap, hG, hIJ3, hP⟩ := hP
        refine lv_aload_n hx hb dX3_takeAboard_89 rfl (lv_at hl 3 rfl) ?_
        refine lv_iconst (v := 1) hx hb dX3_takeAboard_90 (by decide) ?_
        refine cp_X1_state E i_X1 hP hS h_b_ (by decide +kernel) dX3_takeAboard_91 (fun H locs hP hS => ?_)
        refine lv_aload_n hx hb dX3_takeAboard_94 rfl (lv_at hl 3 rfl) ?_
        refine lv_aload_n hx hb dX3_takeAboard_95 rfl (lv_at hl 0 rfl) ?_
        refine cg_X4_number E i_X4 hP (show vp_in (if (q_X3_canTake σ own (k28t0_X3_takeAboard σ own b_) b_) = 0 then (q_X3_opposite σ own (k28t0_X3_takeAboard σ own b_)) else (k28t0_X3_takeAboard σ own b_)) (N 7) from (in_if (opp_in hI h_own) (show vp_in (if (σ 32 ((2 : Int32) * own).toNatClampNeg) ≤ (σ 32 (((2 : Int32) * own) + (1 : Int32)).toNatClampNeg) then ((2 : Int32) * own) else (((2 : Int32) * own) + (1 : Int32))) (N 7) from (in_if (s7a hI.1 h_own) (s7b hI.1 h_own))))) (by decide +kernel) dX3_takeAboard_96 ?_
        refine cp_X1_side E i_X1 hP hS h_b_ (by decide +kernel) dX3_takeAboard_99 (fun H locs hP hS => ?_)
        refine lv_aload_n hx hb dX3_takeAboard_102 rfl (lv_at hl 2 rfl) ?_
        refine cg_X3_aboard E i_X3 hP h_own (by omega) (by decide +kernel) dX3_takeAboard_103 ?_
        refine lv_aload_n hx hb dX3_takeAboard_106 rfl (lv_at hl 3 rfl) ?_
        have h54 : (st (st (k89s_X3_takeAboard σ own b_) 35 b_.toNatClampNeg (1 : Int32)) 45 b_.toNatClampNeg (nI ((k47t0_X3_takeAboard σ own b_).toNatClampNeg % 2))) 54 = σ 54 := (by (try unfold k89s_X3_takeAboard); repeat (first | with_reducible rfl | with_reducible refine st_g (by decide) ?_ | with_reducible refine sadd_g (by decide) ?_ | with_reducible refine ite_g ?_ ?_))
        have h50 : (st (st (k89s_X3_takeAboard σ own b_) 35 b_.toNatClampNeg (1 : Int32)) 45 b_.toNatClampNeg (nI ((k47t0_X3_takeAboard σ own b_).toNatClampNeg % 2))) 50 = σ 50 := (by (try unfold k89s_X3_takeAboard); repeat (first | with_reducible rfl | with_reducible refine st_g (by decide) ?_ | with_reducible refine sadd_g (by decide) ?_ | with_reducible refine ite_g ?_ ?_))
        have hCC : (σ 54 (((2 : Int32) * own + 4).toNatClampNeg)).toNatClampNeg = C := by rw [hC4, nI_clamp (by omega)]
        refine kqV_i (As := [.ref (g 8 b_.toNatClampNeg)]) (rest := []) E hml hS (kr_1 E.2.2.2 hP (lvL4 (cap := cap) hI.1 h_own).1) gyBl (fun U hU hW => ⟨⟨by rw [hU]; exact ⟨ga, cap, hG, (KI_o (KI_o hIJ3 (by decide)) (by decide)), hP⟩, va_K.moved hW.alike E.2.2.2⟩, cY_at hY hS hU hW⟩) (c_AL_addG l (g := g) (st (st (k89s_X3_takeAboard σ own b_) 35 b_.toNatClampNeg (1 : Int32)) 45 b_.toNatClampNeg (nI ((k47t0_X3_takeAboard σ own b_).toNatClampNeg % 2))) (((2 : Int32) * own + 4).toNatClampNeg) (σ 54 (((2 : Int32) * own + 4).toNatClampNeg)).toNatClampNeg b_ (lvL4 (cap := cap) hI.1 h_own).2 (lvL4 (cap := cap) hI.1 h_own).1.2.1 (by rw [h54, hCC]; exact hC4) (by omega) h_b_) (cwV 1 hts gX3_takeAboard_Jx4a65c_add_9ea2d rfl rfl rfl (by decide +kernel) ⟨Nat.le_trans (Nat.le_of_ble_eq_true rfl) hR.1, Nat.le_trans (Nat.le_of_ble_eq_true rfl) hR.2⟩) rfl hl.1 rfl (Nat.le_of_ble_eq_true rfl) dX3_takeAboard_107 ⟨Nat.le_trans (Nat.le_of_ble_eq_true rfl) hfm.1, Nat.le_trans (Nat.le_of_ble_eq_true rfl) hfm.2⟩ (fun r u t H locs ht hvm hw hB hz hk hS => ?_)
        obtain ⟨ga, cap, hG, hIc4, hP⟩ := (show cG D cI cO A aE g N (sadd (st (st (k89s_X3_takeAboard σ own b_) 35 b_.toNatClampNeg (1 : Int32)) 45 b_.toNatClampNeg (nI ((k47t0_X3_takeAboard σ own b_).toNatClampNeg % 2))) (((2 : Int32) * own + 4).toNatClampNeg) (σ 54 (((2 : Int32) * own + 4).toNatClampNeg)).toNatClampNeg b_) H by rw [← ht]; exact hB.1)
        subst hw
        have hf : 0 + 1 ≤ R.cells ∧ 0 + 150 ≤ R.slots := ⟨Nat.le_trans (Nat.le_of_ble_eq_true rfl) hfm.1, Nat.le_trans (Nat.le_of_ble_eq_true rfl) hfm.2⟩
        refine lv_pop hx hb dX3_takeAboard_110 rfl ?_
        refine lv_aload_n hx hb dX3_takeAboard_111 rfl (lv_at hl 2 rfl) ?_
        refine lv_aload_n hx hb dX3_takeAboard_112 rfl (lv_at hl 3 rfl) ?_
        refine kqV_v (As := [.ref (g 8 b_.toNatClampNeg)]) (rest := []) E hml hS (kr_6 E.2.2.2 hP ⟨by decide, vp_lt h_own, fun z => absurd z (by decide)⟩) gyBl (fun U hU hW => ⟨⟨by rw [hU]; exact ⟨ga, cap, hG, hIc4, hP⟩, va_K.moved hW.alike E.2.2.2⟩, cY_at hY hS hU hW⟩) (c_X3_putFirstOff l (g := g) (sadd (st (st (k89s_X3_takeAboard σ own b_) 35 b_.toNatClampNeg (1 : Int32)) 45 b_.toNatClampNeg (nI ((k47t0_X3_takeAboard σ own b_).toNatClampNeg % 2))) (((2 : Int32) * own + 4).toNatClampNeg) (σ 54 (((2 : Int32) * own + 4).toNatClampNeg)).toNatClampNeg b_) own b_ ⟨C, L, by rw [sadd_54n (q45 hI.1 h_own).symm, h54]; exact hC5, (congrFun ((sadd_o (by decide)).trans h50) _).trans hL, hLC, h99⟩ h_own h_b_) (cwV 1 hts gX3_takeAboard_X3_putFirstOff rfl rfl rfl (by decide +kernel) ⟨Nat.le_trans (Nat.le_of_ble_eq_true rfl) hR.1, Nat.le_trans (Nat.le_of_ble_eq_true rfl) hR.2⟩) rfl hl.1 rfl (Nat.le_of_ble_eq_true rfl) dX3_takeAboard_113 ⟨Nat.le_trans (Nat.le_of_ble_eq_true rfl) hfm.1, Nat.le_trans (Nat.le_of_ble_eq_true rfl) hfm.2⟩ (fun u t H locs ht hvm hw hB hz hk hS => ?_)
        obtain ⟨ga, cap, hG, hIc5, hP⟩ := (show cG D cI cO A aE g N (s_X3_putFirstOff (sadd (st (st (k89s_X3_takeAboard σ own b_) 35 b_.toNatClampNeg (1 : Int32)) 45 b_.toNatClampNeg (nI ((k47t0_X3_takeAboard σ own b_).toNatClampNeg % 2))) (((2 : Int32) * own + 4).toNatClampNeg) (σ 54 (((2 : Int32) * own + 4).toNatClampNeg)).toNatClampNeg b_) own b_) H by rw [← ht]; exact hB.1)
        have hf : 0 + 1 + 1 ≤ R.cells ∧ 0 + 150 + 150 ≤ R.slots := ⟨Nat.le_trans (Nat.le_of_ble_eq_true rfl) hfm.1, Nat.le_trans (Nat.le_of_ble_eq_true rfl) hfm.2⟩
        exact W.widen (k := 2) (n := 300) (Nat.le_of_ble_eq_true rfl) (Nat.le_of_ble_eq_true rfl) (kr _ H locs ls dX3_takeAboard_116 (by rw [hs]; exact ⟨ga, cap, hG, hIc5, hP⟩) hS)
      refine lv_if_eq (tgt := 89) hx hb dX3_takeAboard_78 (by decide) (fun c_3 => ?_) (fun c_3 => ?_)
      · exact J_3 (st (st σ 32 (k47t0_X3_takeAboard σ own b_).toNatClampNeg ((σ 32 (k47t0_X3_takeAboard σ own b_).toNatClampNeg) + (σ 39 b_.toNatClampNeg))) 33 (k47t0_X3_takeAboard σ own b_).toNatClampNeg ((σ 33 (k47t0_X3_takeAboard σ own b_).toNatClampNeg) + (σ 38 b_.toNatClampNeg))) H locs ls (if_pos c_3).symm ⟨ga, cap, hG, (KI_o (KI_o hIJ2 (by decide)) (by decide)), hP⟩ hS (lv_sub hl [0, 1, 2, 3] rfl)
      refine lv_aload_n hx hb dX3_takeAboard_81 rfl (lv_at hl 2 rfl) ?_
      refine lv_aload_n hx hb dX3_takeAboard_82 rfl (lv_at hl 3 rfl) ?_
      refine cg_X1_danger E i_X1 hP h_b_ (by decide +kernel) dX3_takeAboard_83 ?_
      show W p l e R s m args below meth c H locs (0) (0) Q (F0 m 86 ls [.int (σ 40 b_.toNatClampNeg), .ref (g 6 own.toNatClampNeg)])
      refine cp_X3_danger E i_X3 hP hS h_own (by decide +kernel) dX3_takeAboard_86 (fun H locs hP hS => ?_)
      exact J_3 (st (st (st σ 32 (k47t0_X3_takeAboard σ own b_).toNatClampNeg ((σ 32 (k47t0_X3_takeAboard σ own b_).toNatClampNeg) + (σ 39 b_.toNatClampNeg))) 33 (k47t0_X3_takeAboard σ own b_).toNatClampNeg ((σ 33 (k47t0_X3_takeAboard σ own b_).toNatClampNeg) + (σ 38 b_.toNatClampNeg))) 51 own.toNatClampNeg (σ 40 b_.toNatClampNeg)) H locs ls (if_neg c_3).symm ⟨ga, cap, hG, (KI_o (KI_o (KI_o hIJ2 (by decide)) (by decide)) (by decide)), hP⟩ hS (lv_sub hl [0, 1, 2, 3] rfl)
    refine lv_if_eq (tgt := 42) hx hb dX3_takeAboard_35 (by decide) (fun c_2 => ?_) (fun c_2 => ?_)
    · refine lv_aload_n hx hb dX3_takeAboard_42 rfl (lv_at hl 1 rfl) ?_
      refine lv_aload_n hx hb dX3_takeAboard_43 rfl (lv_at hl 0 rfl) ?_
      refine kcV_r E hml hP hS (kr_6 E.2.2.2 hP ⟨by decide, vp_lt h_own, fun z => absurd z (by decide)⟩) (c_X3_opposite l σ own (k28t0_X3_takeAboard σ own b_) hIJ1 h_own (show vp_in (if (σ 32 ((2 : Int32) * own).toNatClampNeg) ≤ (σ 32 (((2 : Int32) * own) + (1 : Int32)).toNatClampNeg) then ((2 : Int32) * own) else (((2 : Int32) * own) + (1 : Int32))) (N 7) from (in_if (s7a hI.1 h_own) (s7b hI.1 h_own)))) (cwV 1 hts gX3_takeAboard_X3_opposite rfl rfl rfl (by decide +kernel) ⟨Nat.le_trans (Nat.le_of_ble_eq_true rfl) hR.1, Nat.le_trans (Nat.le_of_ble_eq_true rfl) hR.2⟩) rfl hl.1 rfl (Nat.le_of_ble_eq_true rfl) dX3_takeAboard_44 hf (fun H locs hP hS => ?_)
      exact J_2 (q_X3_opposite σ own (k28t0_X3_takeAboard σ own b_)) H locs ls (if_pos c_2).symm ⟨ga, cap, hG, hIJ1, hP⟩ hS (lv_sub hl [0, 1, 2] rfl)
    refine lv_aload_n hx hb dX3_takeAboard_38 rfl (lv_at hl 0 rfl) ?_
    refine lv_goto (tgt := 47) hx hb dX3_takeAboard_39 (by decide) ?_
    exact J_2 (k28t0_X3_takeAboard σ own b_) H locs ls (if_neg c_2).symm ⟨ga, cap, hG, hIJ1, hP⟩ hS (lv_sub hl [0, 1, 2] rfl)
  refine lv_icmp_ge (tgt := 24) hx hb dX3_takeAboard_14 (by decide) (fun c_1 => ?_) (fun c_1 => ?_)
  · refine lv_aload_n hx hb dX3_takeAboard_24 rfl (lv_at hl 0 rfl) ?_
    refine cg_X3_firstSide E i_X3 hP h_own (by omega) (by decide +kernel) dX3_takeAboard_25 ?_
    exact J_1 ((2 : Int32) * own) H locs ls (if_pos c_1).symm ⟨ga, cap, hG, hI, hP⟩ hS (lv_sub hl [0, 1] rfl)
  refine lv_aload_n hx hb dX3_takeAboard_17 rfl (lv_at hl 0 rfl) ?_
  refine cg_X3_secondSide E i_X3 hP h_own (by omega) (by decide +kernel) dX3_takeAboard_18 ?_
  refine lv_goto (tgt := 28) hx hb dX3_takeAboard_21 (by decide) ?_
  exact J_1 (((2 : Int32) * own) + (1 : Int32)) H locs ls (if_neg c_1).symm ⟨ga, cap, hG, hI, hP⟩ hS (lv_sub hl [0, 1] rfl)
set_option maxHeartbeats 4000000 in
set_option maxRecDepth 100000 in
theorem c_X3_takeAboard (l : Launch) {D : va_G} {A : Nat → Prop} {cI cO : ClassId} {aE : Nat} {g : Gh} {N : Nat → Nat} (σ : St) (own : Int32) (b_ : Int32) (hO : KO σ own) (h_own : vp_in own (N 6)) (h_b_ : vp_in b_ (N 8)) : Met l yX3_takeAboard wsX3_takeAboard ({ frames := 7, cells := 2, slots := 300, locals := 215 }) (va_Pc [.ref (g 6 own.toNatClampNeg), .ref (g 8 b_.toNatClampNeg)] (cGY D cI cO A aE g N σ)) (va_Qv (fun (_ : Unit) => True) (fun _ t => cGU D cI cO A aE g N (s_X3_takeAboard σ own b_) t) A) (2) (300) A := by
  refine Met.ofW (cc := cX3_takeAboard) (maxL := 4) (ret := none) (by decide) rfl ?_
  intro p e s m args below meth c s₁ B hml hv
  obtain ⟨rfl, ⟨hP, hK⟩, hY⟩ := hv
  have E : kE p c cX3_takeAboard s m ([.ref (g 6 own.toNatClampNeg), .ref (g 8 b_.toNatClampNeg)] : List Value).toArray wsX3_takeAboard RX3 D cI cO := ⟨⟨B.exec, B.bytes⟩, atoms_spec (ws := wsX3_takeAboard) B.pre, findClass_of_methodNamed B.named, hK⟩
  have hr := B.returns
  have hlocks := B.notSynchronized
  have hl := lv_entry ([.ref (g 6 own.toNatClampNeg), .ref (g 8 b_.toNatClampNeg)]) (n := 4) (Nat.le_of_ble_eq_true rfl)
  rw [lg_entry_eq]
  generalize (lg_sl ([.ref (g 6 own.toNatClampNeg), .ref (g 8 b_.toNatClampNeg)]) ++ List.replicate (4 - (lg_sl ([.ref (g 6 own.toNatClampNeg), .ref (g 8 b_.toNatClampNeg)])).length) Slot.unset).toArray = ls at hl ⊢
  refine w_X3_takeAboard σ own b_ hO h_own h_b_ E hml ⟨Nat.le_of_ble_eq_true rfl, Nat.le_of_ble_eq_true rfl⟩ ⟨Nat.le_refl _, Nat.le_refl _⟩ hY hP va_S.rf hl (fun pc H1 locs1 ls1 hd hP1 hS1 => ?_)
  exact W.vret B.exec B.bytes hr (fun t ht hW => ⟨⟨(), rfl, trivial, by rw [ht]; exact hP1, va_K.moved hW.alike hK⟩, hS1.F ht⟩) hS1.2.2 hd
