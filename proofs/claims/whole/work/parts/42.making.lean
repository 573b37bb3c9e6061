/-! the methods that make an object, as far as its making -/
def q_X5_pier (σ : St) (depth : Int32) (range : Int32) (phase : Int32) (isLit : Int32) : Int32 := if ¬ depth < (0 : Int32) ∧ depth ≤ (500 : Int32) then (if ¬ range < (0 : Int32) ∧ range ≤ (200 : Int32) then (if ¬ phase < (0 : Int32) ∧ phase ≤ (719 : Int32) then (if (σ 54 0) < (8 : Int32) then (0 : Int32) else (0 : Int32)) else (0 : Int32)) else (0 : Int32)) else (0 : Int32)
def t_X5_pier (σ : St) (depth : Int32) (range : Int32) (phase : Int32) (isLit : Int32) : Int32 := if ¬ depth < (0 : Int32) ∧ depth ≤ (500 : Int32) then (if ¬ range < (0 : Int32) ∧ range ≤ (200 : Int32) then (if ¬ phase < (0 : Int32) ∧ phase ≤ (719 : Int32) then (if (σ 54 0) < (8 : Int32) then (0 : Int32) else (2 : Int32)) else (1 : Int32)) else (1 : Int32)) else (1 : Int32)
set_option maxHeartbeats 1000000 in
set_option maxRecDepth 100000 in
theorem w_X5_pier {p : Program} {l : Launch} {e : Env} {R : Room} {s : State} {m : MethodId} {args : Array Value} {below : List Frame} {meth : Method} {c : Code} {H : Heap} {locs : List Loc} {Qc : Array Value → State → Outcome → State → Prop} {XC : String → State → State → Prop} {D : va_G} {A : Nat → Prop} {cI cO : ClassId} {g : Gh} {cap N : Nat → Nat} {ls : Array Slot} (hst : l.stackTraces = false) (σ : St) (depth : Int32) (range : Int32) (phase : Int32) (isLit : Int32) (hI : KI cap N σ) (E : kE p c cX5_pier s m args wsX5_pier RX5 D cI cO) (hml : c.maxLocals = 6) (hR : 7 ≤ R.frames ∧ 104 ≤ R.locals) (hfm : 6 ≤ R.cells ∧ 196 ≤ R.slots) (hlocks : meth.locks = false) (htab : ∀ x ∈ c.exceptionTable.toList, False) (hX : cX A s) (hP : cP D cI cO A g cap N σ H) (hS : va_S A s.heap H locs) (hl : lv_has ls 6 [(0, .ref (g 0 0)), (1, .int depth), (2, .int range), (3, .int phase), (4, .int isLit)]) (kn : ∀ (H1 : Heap) (locs1 : List Loc) (ls1 : Array Slot), t_X5_pier σ depth range phase isLit = 0 → ¬ depth < (0 : Int32) ∧ depth ≤ (500 : Int32) → ¬ range < (0 : Int32) ∧ range ≤ (200 : Int32) → ¬ phase < (0 : Int32) ∧ phase ≤ (719 : Int32) → (σ 54 0) < (8 : Int32) → cP D cI cO A g cap N σ H1 → va_S A s.heap H1 locs1 → lv_has ls1 6 [(0, .ref (g 0 0)), (1, .int depth), (2, .int range), (3, .int phase), (4, .int isLit)] → W p l e R s m args below meth c H1 locs1 (0 + 1 + 1 + 1 + 1) (0 + 6 + 6 + 6 + 6) (vx_MQ below Qc XC args s 6 196 A) (F0 m 36 ls1 [])) (kt : ∀ (E9 : String) (t9 : State), E9 = exN (t_X5_pier σ depth range phase isLit) → ¬ t_X5_pier σ depth range phase isLit = 0 → s.vm.Alike t9.vm → cP D cI cO A g cap N σ t9.heap → va_F A s t9 → XC E9 s t9) : W p l e R s m args below meth c H locs 0 0 (vx_MQ below Qc XC args s 6 196 A) (F0 m 0 ls []) := by
  have hx := E.1.1
  have hb := E.1.2
  have hts := E.2.1
  obtain ⟨n0, n4, n5, n6, n8, n7, n1, n2, n3⟩ := id hI.1
  have i_X5 : ∀ w ∈ wsX50, w ∈ wsX5_pier := by decide +kernel
  have hq : q_X5_pier σ depth range phase isLit = if ¬ depth < (0 : Int32) ∧ depth ≤ (500 : Int32) then (if ¬ range < (0 : Int32) ∧ range ≤ (200 : Int32) then (if ¬ phase < (0 : Int32) ∧ phase ≤ (719 : Int32) then (if (σ 54 0) < (8 : Int32) then (0 : Int32) else (0 : Int32)) else (0 : Int32)) else (0 : Int32)) else (0 : Int32) := rfl
  have ht : t_X5_pier σ depth range phase isLit = if ¬ depth < (0 : Int32) ∧ depth ≤ (500 : Int32) then (if ¬ range < (0 : Int32) ∧ range ≤ (200 : Int32) then (if ¬ phase < (0 : Int32) ∧ phase ≤ (719 : Int32) then (if (σ 54 0) < (8 : Int32) then (0 : Int32) else (2 : Int32)) else (1 : Int32)) else (1 : Int32)) else (1 : Int32) := rfl
  have hf : 0 ≤ R.cells ∧ 0 ≤ R.slots := ⟨Nat.zero_le _, Nat.zero_le _⟩
  refine lv_iload_n hx hb dX5_pier_0 rfl (lv_at hl 1 rfl) ?_
  refine lv_iconst (v := 0) hx hb dX5_pier_1 (by decide) ?_
  refine lv_sipush (v := 500) hx hb dX5_pier_2 (by decide) ?_
  refine kxS E hml hX hP hS (c_X5_needWithin l hst σ depth (0 : Int32) (500 : Int32)) (va_cwS 3 hts gX5_pier_X5_needWithin rfl rfl rfl (by decide +kernel) ⟨Nat.le_trans (Nat.le_of_ble_eq_true rfl) hR.1, Nat.le_trans (Nat.le_of_ble_eq_true rfl) hR.2⟩) rfl hl.1 rfl (Nat.le_of_ble_eq_true rfl) dX5_pier_5 ⟨Nat.le_trans (Nat.le_of_ble_eq_true rfl) hfm.1, Nat.le_trans (Nat.le_of_ble_eq_true rfl) hfm.2⟩ (fun c_1 => ?_) (fun c_1 => ?_)
  · have hq := hq.trans (if_neg c_1)
    have ht := ht.trans (if_neg c_1)
    intro q9 ce H locs hP hS hce hcv hcl
    exact vx_out (fun x hx => (htab x hx).elim) hlocks hce hcv hcl (fun t9 ht9 hW9 => kt _ t9 (by rw [ht]; rfl) (by rw [ht]; decide) hW9 (by rw [ht9]; exact hP) (hS.F ht9)) hS.2.2 (Nat.le_of_ble_eq_true rfl) (Nat.le_of_ble_eq_true rfl)
  have hq := hq.trans (if_pos c_1)
  have ht := ht.trans (if_pos c_1)
  intro H locs hP hS
  have hf : 0 + 1 ≤ R.cells ∧ 0 + 6 ≤ R.slots := ⟨Nat.le_trans (Nat.le_of_ble_eq_true rfl) hfm.1, Nat.le_trans (Nat.le_of_ble_eq_true rfl) hfm.2⟩
  refine lv_iload_n hx hb dX5_pier_8 rfl (lv_at hl 2 rfl) ?_
  refine lv_iconst (v := 0) hx hb dX5_pier_9 (by decide) ?_
  refine lv_sipush (v := 200) hx hb dX5_pier_10 (by decide) ?_
  refine kxS E hml hX hP hS (c_X5_needWithin l hst σ range (0 : Int32) (200 : Int32)) (va_cwS 3 hts gX5_pier_X5_needWithin rfl rfl rfl (by decide +kernel) ⟨Nat.le_trans (Nat.le_of_ble_eq_true rfl) hR.1, Nat.le_trans (Nat.le_of_ble_eq_true rfl) hR.2⟩) rfl hl.1 rfl (Nat.le_of_ble_eq_true rfl) dX5_pier_13 ⟨Nat.le_trans (Nat.le_of_ble_eq_true rfl) hfm.1, Nat.le_trans (Nat.le_of_ble_eq_true rfl) hfm.2⟩ (fun c_2 => ?_) (fun c_2 => ?_)
  · have hq := hq.trans (if_neg c_2)
    have ht := ht.trans (if_neg c_2)
    intro q9 ce H locs hP hS hce hcv hcl
    exact vx_out (fun x hx => (htab x hx).elim) hlocks hce hcv hcl (fun t9 ht9 hW9 => kt _ t9 (by rw [ht]; rfl) (by rw [ht]; decide) hW9 (by rw [ht9]; exact hP) (hS.F ht9)) hS.2.2 (Nat.le_of_ble_eq_true rfl) (Nat.le_of_ble_eq_true rfl)
  have hq := hq.trans (if_pos c_2)
  have ht := ht.trans (if_pos c_2)
  intro H locs hP hS
  have hf : 0 + 1 + 1 ≤ R.cells ∧ 0 + 6 + 6 ≤ R.slots := ⟨Nat.le_trans (Nat.le_of_ble_eq_true rfl) hfm.1, Nat.le_trans (Nat.le_of_ble_eq_true rfl) hfm.2⟩
  refine lv_iload_n hx hb dX5_pier_16 rfl (lv_at hl 3 rfl) ?_
  refine lv_iconst (v := 0) hx hb dX5_pier_17 (by decide) ?_
  refine lv_sipush (v := 719) hx hb dX5_pier_18 (by decide) ?_
  refine kxS E hml hX hP hS (c_X5_needWithin l hst σ phase (0 : Int32) (719 : Int32)) (va_cwS 3 hts gX5_pier_X5_needWithin rfl rfl rfl (by decide +kernel) ⟨Nat.le_trans (Nat.le_of_ble_eq_true rfl) hR.1, Nat.le_trans (Nat.le_of_ble_eq_true rfl) hR.2⟩) rfl hl.1 rfl (Nat.le_of_ble_eq_true rfl) dX5_pier_21 ⟨Nat.le_trans (Nat.le_of_ble_eq_true rfl) hfm.1, Nat.le_trans (Nat.le_of_ble_eq_true rfl) hfm.2⟩ (fun c_3 => ?_) (fun c_3 => ?_)
  · have hq := hq.trans (if_neg c_3)
    have ht := ht.trans (if_neg c_3)
    intro q9 ce H locs hP hS hce hcv hcl
    exact vx_out (fun x hx => (htab x hx).elim) hlocks hce hcv hcl (fun t9 ht9 hW9 => kt _ t9 (by rw [ht]; rfl) (by rw [ht]; decide) hW9 (by rw [ht9]; exact hP) (hS.F ht9)) hS.2.2 (Nat.le_of_ble_eq_true rfl) (Nat.le_of_ble_eq_true rfl)
  have hq := hq.trans (if_pos c_3)
  have ht := ht.trans (if_pos c_3)
  intro H locs hP hS
  have hf : 0 + 1 + 1 + 1 ≤ R.cells ∧ 0 + 6 + 6 + 6 ≤ R.slots := ⟨Nat.le_trans (Nat.le_of_ble_eq_true rfl) hfm.1, Nat.le_trans (Nat.le_of_ble_eq_true rfl) hfm.2⟩
  refine lv_aload_n hx hb dX5_pier_24 rfl (lv_at hl 0 rfl) ?_
  refine cg_X5_piers E i_X5 hP (by omega) (by decide +kernel) dX5_pier_25 ?_
  refine kcV_i E hml hP hS (kr_1 E.2.2.2 hP ⟨by decide, by omega, fun z => absurd z (by decide)⟩) (c_AL_size l σ 0 ⟨by decide, by omega, fun z => absurd z (by decide)⟩) (cwV 0 hts gX5_pier_Jx4a65c_size_8abf5 rfl rfl rfl (by decide +kernel) ⟨Nat.le_trans (Nat.le_of_ble_eq_true rfl) hR.1, Nat.le_trans (Nat.le_of_ble_eq_true rfl) hR.2⟩) rfl hl.1 rfl (Nat.le_of_ble_eq_true rfl) dX5_pier_28 hf (fun H locs hP hS => ?_)
  refine lv_bipush (v := 8) hx hb dX5_pier_31 (by decide) ?_
  refine kxS E hml hX hP hS (c_X5_needRoom l hst σ (σ 54 0) (8 : Int32)) (va_cwS 2 hts gX5_pier_X5_needRoom rfl rfl rfl (by decide +kernel) ⟨Nat.le_trans (Nat.le_of_ble_eq_true rfl) hR.1, Nat.le_trans (Nat.le_of_ble_eq_true rfl) hR.2⟩) rfl hl.1 rfl (Nat.le_of_ble_eq_true rfl) dX5_pier_33 ⟨Nat.le_trans (Nat.le_of_ble_eq_true rfl) hfm.1, Nat.le_trans (Nat.le_of_ble_eq_true rfl) hfm.2⟩ (fun c_4 => ?_) (fun c_4 => ?_)
  · have hq := hq.trans (if_neg c_4)
    have ht := ht.trans (if_neg c_4)
    intro q9 ce H locs hP hS hce hcv hcl
    exact vx_out (fun x hx => (htab x hx).elim) hlocks hce hcv hcl (fun t9 ht9 hW9 => kt _ t9 (by rw [ht]; rfl) (by rw [ht]; decide) hW9 (by rw [ht9]; exact hP) (hS.F ht9)) hS.2.2 (Nat.le_of_ble_eq_true rfl) (Nat.le_of_ble_eq_true rfl)
  have hq := hq.trans (if_pos c_4)
  have ht := ht.trans (if_pos c_4)
  intro H locs hP hS
  have hf : 0 + 1 + 1 + 1 + 1 ≤ R.cells ∧ 0 + 6 + 6 + 6 + 6 ≤ R.slots := ⟨Nat.le_trans (Nat.le_of_ble_eq_true rfl) hfm.1, Nat.le_trans (Nat.le_of_ble_eq_true rfl) hfm.2⟩
  exact kn H locs ls ht c_1 c_2 c_3 c_4 hP hS hl
def q_X5_boat (σ : St) (draught : Int32) (length : Int32) (weight : Int32) (trim : Int32) (swell : Int32) (piers_ : Int32) (home : Int32) : Int32 := if ¬ home < 0 ∧ home < (σ 54 0) then (if ¬ draught < (1 : Int32) ∧ draught ≤ (500 : Int32) then (if ¬ length < (1 : Int32) ∧ length ≤ (200 : Int32) then (if ¬ weight < (1 : Int32) ∧ weight ≤ (10000 : Int32) then (if ¬ trim < (0 : Int32) ∧ trim ≤ (10000 : Int32) then (if ¬ swell < (0 : Int32) ∧ swell ≤ (9 : Int32) then (if ¬ piers_ < (0 : Int32) ∧ piers_ ≤ (255 : Int32) then (if (σ 54 1) < (6 : Int32) then (0 : Int32) else (0 : Int32)) else (0 : Int32)) else (0 : Int32)) else (0 : Int32)) else (0 : Int32)) else (0 : Int32)) else (0 : Int32)) else (0 : Int32)
def t_X5_boat (σ : St) (draught : Int32) (length : Int32) (weight : Int32) (trim : Int32) (swell : Int32) (piers_ : Int32) (home : Int32) : Int32 := if ¬ home < 0 ∧ home < (σ 54 0) then (if ¬ draught < (1 : Int32) ∧ draught ≤ (500 : Int32) then (if ¬ length < (1 : Int32) ∧ length ≤ (200 : Int32) then (if ¬ weight < (1 : Int32) ∧ weight ≤ (10000 : Int32) then (if ¬ trim < (0 : Int32) ∧ trim ≤ (10000 : Int32) then (if ¬ swell < (0 : Int32) ∧ swell ≤ (9 : Int32) then (if ¬ piers_ < (0 : Int32) ∧ piers_ ≤ (255 : Int32) then (if (σ 54 1) < (6 : Int32) then (0 : Int32) else (2 : Int32)) else (1 : Int32)) else (1 : Int32)) else (1 : Int32)) else (1 : Int32)) else (1 : Int32)) else (1 : Int32)) else (3 : Int32)
set_option maxHeartbeats 1000000 in
set_option maxRecDepth 100000 in
theorem w_X5_boat {p : Program} {l : Launch} {e : Env} {R : Room} {s : State} {m : MethodId} {args : Array Value} {below : List Frame} {meth : Method} {c : Code} {H : Heap} {locs : List Loc} {Qc : Array Value → State → Outcome → State → Prop} {XC : String → State → State → Prop} {D : va_G} {A : Nat → Prop} {cI cO : ClassId} {g : Gh} {cap N : Nat → Nat} {ls : Array Slot} (hst : l.stackTraces = false) (σ : St) (draught : Int32) (length : Int32) (weight : Int32) (trim : Int32) (swell : Int32) (piers_ : Int32) (home : Int32) (hI : KI cap N σ) (E : kE p c cX5_boat s m args wsX5_boat RX5 D cI cO) (hml : c.maxLocals = 9) (hR : 7 ≤ R.frames ∧ 104 ≤ R.locals) (hfm : 10 ≤ R.cells ∧ 219 ≤ R.slots) (hlocks : meth.locks = false) (htab : ∀ x ∈ c.exceptionTable.toList, False) (hX : cX A s) (hP : cP D cI cO A g cap N σ H) (hS : va_S A s.heap H locs) (hl : lv_has ls 9 [(0, .ref (g 0 0)), (1, .int draught), (2, .int length), (3, .int weight), (4, .int trim), (5, .int swell), (6, .int piers_), (7, .int home)]) (kn : ∀ (H1 : Heap) (locs1 : List Loc) (ls1 : Array Slot), t_X5_boat σ draught length weight trim swell piers_ home = 0 → ¬ home < 0 ∧ home < (σ 54 0) → ¬ draught < (1 : Int32) ∧ draught ≤ (500 : Int32) → ¬ length < (1 : Int32) ∧ length ≤ (200 : Int32) → ¬ weight < (1 : Int32) ∧ weight ≤ (10000 : Int32) → ¬ trim < (0 : Int32) ∧ trim ≤ (10000 : Int32) → ¬ swell < (0 : Int32) ∧ swell ≤ (9 : Int32) → ¬ piers_ < (0 : Int32) ∧ piers_ ≤ (255 : Int32) → (σ 54 1) < (6 : Int32) → cP D cI cO A g cap N σ H1 → va_S A s.heap H1 locs1 → lv_has ls1 9 [(0, .ref (g 0 0)), (1, .int draught), (2, .int length), (3, .int weight), (4, .int trim), (5, .int swell), (6, .int piers_), (7, .int home)] → W p l e R s m args below meth c H1 locs1 (0 + 1 + 1 + 1 + 1 + 1 + 1 + 1 + 1) (0 + 6 + 6 + 6 + 6 + 6 + 6 + 6 + 6) (vx_MQ below Qc XC args s 10 219 A) (F0 m 74 ls1 [])) (kt : ∀ (E9 : String) (t9 : State), E9 = exN (t_X5_boat σ draught length weight trim swell piers_ home) → ¬ t_X5_boat σ draught length weight trim swell piers_ home = 0 → s.vm.Alike t9.vm → cP D cI cO A g cap N σ t9.heap → va_F A s t9 → XC E9 s t9) : W p l e R s m args below meth c H locs 0 0 (vx_MQ below Qc XC args s 10 219 A) (F0 m 0 ls []) := by
  have hx := E.1.1
  have hb := E.1.2
  have hts := E.2.1
  obtain ⟨n0, n4, n5, n6, n8, n7, n1, n2, n3⟩ := id hI.1
  have i_X5 : ∀ w ∈ wsX50, w ∈ wsX5_boat := by decide +kernel
  have hq : q_X5_boat σ draught length weight trim swell piers_ home = if ¬ home < 0 ∧ home < (σ 54 0) then (if ¬ draught < (1 : Int32) ∧ draught ≤ (500 : Int32) then (if ¬ length < (1 : Int32) ∧ length ≤ (200 : Int32) then (if ¬ weight < (1 : Int32) ∧ weight ≤ (10000 : Int32) then (if ¬ trim < (0 : Int32) ∧ trim ≤ (10000 : Int32) then (if ¬ swell < (0 : Int32) ∧ swell ≤ (9 : Int32) then (if ¬ piers_ < (0 : Int32) ∧ piers_ ≤ (255 : Int32) then (if (σ 54 1) < (6 : Int32) then (0 : Int32) else (0 : Int32)) else (0 : Int32)) else (0 : Int32)) else (0 : Int32)) else (0 : Int32)) else (0 : Int32)) else (0 : Int32)) else (0 : Int32) := rfl
  have ht : t_X5_boat σ draught length weight trim swell piers_ home = if ¬ home < 0 ∧ home < (σ 54 0) then (if ¬ draught < (1 : Int32) ∧ draught ≤ (500 : Int32) then (if ¬ length < (1 : Int32) ∧ length ≤ (200 : Int32) then (if ¬ weight < (1 : Int32) ∧ weight ≤ (10000 : Int32) then (if ¬ trim < (0 : Int32) ∧ trim ≤ (10000 : Int32) then (if ¬ swell < (0 : Int32) ∧ swell ≤ (9 : Int32) then (if ¬ piers_ < (0 : Int32) ∧ piers_ ≤ (255 : Int32) then (if (σ 54 1) < (6 : Int32) then (0 : Int32) else (2 : Int32)) else (1 : Int32)) else (1 : Int32)) else (1 : Int32)) else (1 : Int32)) else (1 : Int32)) else (1 : Int32)) else (3 : Int32) := rfl
  have hf : 0 ≤ R.cells ∧ 0 ≤ R.slots := ⟨Nat.zero_le _, Nat.zero_le _⟩
  refine lv_iload hx hb dX5_boat_0 (lv_at hl 7 rfl) ?_
  refine lv_aload_n hx hb dX5_boat_2 rfl (lv_at hl 0 rfl) ?_
  refine cg_X5_piers E i_X5 hP (by omega) (by decide +kernel) dX5_boat_3 ?_
  refine kcV_i E hml hP hS (kr_1 E.2.2.2 hP ⟨by decide, by omega, fun z => absurd z (by decide)⟩) (c_AL_size l σ 0 ⟨by decide, by omega, fun z => absurd z (by decide)⟩) (cwV 0 hts gX5_boat_Jx4a65c_size_8abf5 rfl rfl rfl (by decide +kernel) ⟨Nat.le_trans (Nat.le_of_ble_eq_true rfl) hR.1, Nat.le_trans (Nat.le_of_ble_eq_true rfl) hR.2⟩) rfl hl.1 rfl (Nat.le_of_ble_eq_true rfl) dX5_boat_6 hf (fun H locs hP hS => ?_)
  refine kxS E hml hX hP hS (c_X5_needNumber l hst σ home (σ 54 0)) (va_cwS 2 hts gX5_boat_X5_needNumber rfl rfl rfl (by decide +kernel) ⟨Nat.le_trans (Nat.le_of_ble_eq_true rfl) hR.1, Nat.le_trans (Nat.le_of_ble_eq_true rfl) hR.2⟩) rfl hl.1 rfl (Nat.le_of_ble_eq_true rfl) dX5_boat_9 ⟨Nat.le_trans (Nat.le_of_ble_eq_true rfl) hfm.1, Nat.le_trans (Nat.le_of_ble_eq_true rfl) hfm.2⟩ (fun c_1 => ?_) (fun c_1 => ?_)
  · have hq := hq.trans (if_neg c_1)
    have ht := ht.trans (if_neg c_1)
    intro q9 ce H locs hP hS hce hcv hcl
    exact vx_out (fun x hx => (htab x hx).elim) hlocks hce hcv hcl (fun t9 ht9 hW9 => kt _ t9 (by rw [ht]; rfl) (by rw [ht]; decide) hW9 (by rw [ht9]; exact hP) (hS.F ht9)) hS.2.2 (Nat.le_of_ble_eq_true rfl) (Nat.le_of_ble_eq_true rfl)
  have hq := hq.trans (if_pos c_1)
  have ht := ht.trans (if_pos c_1)
  intro H locs hP hS
  have hf : 0 + 1 ≤ R.cells ∧ 0 + 6 ≤ R.slots := ⟨Nat.le_trans (Nat.le_of_ble_eq_true rfl) hfm.1, Nat.le_trans (Nat.le_of_ble_eq_true rfl) hfm.2⟩
  refine lv_iload_n hx hb dX5_boat_12 rfl (lv_at hl 1 rfl) ?_
  refine lv_iconst (v := 1) hx hb dX5_boat_13 (by decide) ?_
  refine lv_sipush (v := 500) hx hb dX5_boat_14 (by decide) ?_
  refine kxS E hml hX hP hS (c_X5_needWithin l hst σ draught (1 : Int32) (500 : Int32)) (va_cwS 3 hts gX5_boat_X5_needWithin rfl rfl rfl (by decide +kernel) ⟨Nat.le_trans (Nat.le_of_ble_eq_true rfl) hR.1, Nat.le_trans (Nat.le_of_ble_eq_true rfl) hR.2⟩) rfl hl.1 rfl (Nat.le_of_ble_eq_true rfl) dX5_boat_17 ⟨Nat.le_trans (Nat.le_of_ble_eq_true rfl) hfm.1, Nat.le_trans (Nat.le_of_ble_eq_true rfl) hfm.2⟩ (fun c_2 => ?_) (fun c_2 => ?_)
  · have hq := hq.trans (if_neg c_2)
    have ht := ht.trans (if_neg c_2)
    intro q9 ce H locs hP hS hce hcv hcl
    exact vx_out (fun x hx => (htab x hx).elim) hlocks hce hcv hcl (fun t9 ht9 hW9 => kt _ t9 (by rw [ht]; rfl) (by rw [ht]; decide) hW9 (by rw [ht9]; exact hP) (hS.F ht9)) hS.2.2 (Nat.le_of_ble_eq_true rfl) (Nat.le_of_ble_eq_true rfl)
  have hq := hq.trans (if_pos c_2)
  have ht := ht.trans (if_pos c_2)
  intro H locs hP hS
  have hf : 0 + 1 + 1 ≤ R.cells ∧ 0 + 6 + 6 ≤ R.slots := ⟨Nat.le_trans (Nat.le_of_ble_eq_true rfl) hfm.1, Nat.le_trans (Nat.le_of_ble_eq_true rfl) hfm.2⟩
  refine lv_iload_n hx hb dX5_boat_20 rfl (lv_at hl 2 rfl) ?_
  refine lv_iconst (v := 1) hx hb dX5_boat_21 (by decide) ?_
  refine lv_sipush (v := 200) hx hb dX5_boat_22 (by decide) ?_
  refine kxS E hml hX hP hS (c_X5_needWithin l hst σ length (1 : Int32) (200 : Int32)) (va_cwS 3 hts gX5_boat_X5_needWithin rfl rfl rfl (by decide +kernel) ⟨Nat.le_trans (Nat.le_of_ble_eq_true rfl) hR.1, Nat.le_trans (Nat.le_of_ble_eq_true rfl) hR.2⟩) rfl hl.1 rfl (Nat.le_of_ble_eq_true rfl) dX5_boat_25 ⟨Nat.le_trans (Nat.le_of_ble_eq_true rfl) hfm.1, Nat.le_trans (Nat.le_of_ble_eq_true rfl) hfm.2⟩ (fun c_3 => ?_) (fun c_3 => ?_)
  · have hq := hq.trans (if_neg c_3)
    have ht := ht.trans (if_neg c_3)
    intro q9 ce H locs hP hS hce hcv hcl
    exact vx_out (fun x hx => (htab x hx).elim) hlocks hce hcv hcl (fun t9 ht9 hW9 => kt _ t9 (by rw [ht]; rfl) (by rw [ht]; decide) hW9 (by rw [ht9]; exact hP) (hS.F ht9)) hS.2.2 (Nat.le_of_ble_eq_true rfl) (Nat.le_of_ble_eq_true rfl)
  have hq := hq.trans (if_pos c_3)
  have ht := ht.trans (if_pos c_3)
  intro H locs hP hS
  have hf : 0 + 1 + 1 + 1 ≤ R.cells ∧ 0 + 6 + 6 + 6 ≤ R.slots := ⟨Nat.le_trans (Nat.le_of_ble_eq_true rfl) hfm.1, Nat.le_trans (Nat.le_of_ble_eq_true rfl) hfm.2⟩
  refine lv_iload_n hx hb dX5_boat_28 rfl (lv_at hl 3 rfl) ?_
  refine lv_iconst (v := 1) hx hb dX5_boat_29 (by decide) ?_
  refine lv_sipush (v := 10000) hx hb dX5_boat_30 (by decide) ?_
  refine kxS E hml hX hP hS (c_X5_needWithin l hst σ weight (1 : Int32) (10000 : Int32)) (va_cwS 3 hts gX5_boat_X5_needWithin rfl rfl rfl (by decide +kernel) ⟨Nat.le_trans (Nat.le_of_ble_eq_true rfl) hR.1, Nat.le_trans (Nat.le_of_ble_eq_true rfl) hR.2⟩) rfl hl.1 rfl (Nat.le_of_ble_eq_true rfl) dX5_boat_33 ⟨Nat.le_trans (Nat.le_of_ble_eq_true rfl) hfm.1, Nat.le_trans (Nat.le_of_ble_eq_true rfl) hfm.2⟩ (fun c_4 => ?_) (fun c_4 => ?_)
  · have hq := hq.trans (if_neg c_4)
    have ht := ht.trans (if_neg c_4)
    intro q9 ce H locs hP hS hce hcv hcl
    exact vx_out (fun x hx => (htab x hx).elim) hlocks hce hcv hcl (fun t9 ht9 hW9 => kt _ t9 (by rw [ht]; rfl) (by rw [ht]; decide) hW9 (by rw [ht9]; exact hP) (hS.F ht9)) hS.2.2 (Nat.le_of_ble_eq_true rfl) (Nat.le_of_ble_eq_true rfl)
  have hq := hq.trans (if_pos c_4)
  have ht := ht.trans (if_pos c_4)
  intro H locs hP hS
  have hf : 0 + 1 + 1 + 1 + 1 ≤ R.cells ∧ 0 + 6 + 6 + 6 + 6 ≤ R.slots := ⟨Nat.le_trans (Nat.le_of_ble_eq_true rfl) hfm.1, Nat.le_trans (Nat.le_of_ble_eq_true rfl) hfm.2⟩
  refine lv_iload hx hb dX5_boat_36 (lv_at hl 4 rfl) ?_
  refine lv_iconst (v := 0) hx hb dX5_boat_38 (by decide) ?_
  refine lv_sipush (v := 10000) hx hb dX5_boat_39 (by decide) ?_
  refine kxS E hml hX hP hS (c_X5_needWithin l hst σ trim (0 : Int32) (10000 : Int32)) (va_cwS 3 hts gX5_boat_X5_needWithin rfl rfl rfl (by decide +kernel) ⟨Nat.le_trans (Nat.le_of_ble_eq_true rfl) hR.1, Nat.le_trans (Nat.le_of_ble_eq_true rfl) hR.2⟩) rfl hl.1 rfl (Nat.le_of_ble_eq_true rfl) dX5_boat_42 ⟨Nat.le_trans (Nat.le_of_ble_eq_true rfl) hfm.1, Nat.le_trans (Nat.le_of_ble_eq_true rfl) hfm.2⟩ (fun c_5 => ?_) (fun c_5 => ?_)
  · have hq := hq.trans (if_neg c_5)
    have ht := ht.trans (if_neg c_5)
    intro q9 ce H locs hP hS hce hcv hcl
    exact vx_out (fun x hx => (htab x hx).elim) hlocks hce hcv hcl (fun t9 ht9 hW9 => kt _ t9 (by rw [ht]; rfl) (by rw [ht]; decide) hW9 (by rw [ht9]; exact hP) (hS.F ht9)) hS.2.2 (Nat.le_of_ble_eq_true rfl) (Nat.le_of_ble_eq_true rfl)
  have hq := hq.trans (if_pos c_5)
  have ht := ht.trans (if_pos c_5)
  intro H locs hP hS
  have hf : 0 + 1 + 1 + 1 + 1 + 1 ≤ R.cells ∧ 0 + 6 + 6 + 6 + 6 + 6 ≤ R.slots := ⟨Nat.le_trans (Nat.le_of_ble_eq_true rfl) hfm.1, Nat.le_trans (Nat.le_of_ble_eq_true rfl) hfm.2⟩
  refine lv_iload hx hb dX5_boat_45 (lv_at hl 5 rfl) ?_
  refine lv_iconst (v := 0) hx hb dX5_boat_47 (by decide) ?_
  refine lv_bipush (v := 9) hx hb dX5_boat_48 (by decide) ?_
  refine kxS E hml hX hP hS (c_X5_needWithin l hst σ swell (0 : Int32) (9 : Int32)) (va_cwS 3 hts gX5_boat_X5_needWithin rfl rfl rfl (by decide +kernel) ⟨Nat.le_trans (Nat.le_of_ble_eq_true rfl) hR.1, Nat.le_trans (Nat.le_of_ble_eq_true rfl) hR.2⟩) rfl hl.1 rfl (Nat.le_of_ble_eq_true rfl) dX5_boat_50 ⟨Nat.le_trans (Nat.le_of_ble_eq_true rfl) hfm.1, Nat.le_trans (Nat.le_of_ble_eq_true rfl) hfm.2⟩ (fun c_6 => ?_) (fun c_6 => ?_)
  · have hq := hq.trans (if_neg c_6)
    have ht := ht.trans (if_neg c_6)
    intro q9 ce H locs hP hS hce hcv hcl
    exact vx_out (fun x hx => (htab x hx).elim) hlocks hce hcv hcl (fun t9 ht9 hW9 => kt _ t9 (by rw [ht]; rfl) (by rw [ht]; decide) hW9 (by rw [ht9]; exact hP) (hS.F ht9)) hS.2.2 (Nat.le_of_ble_eq_true rfl) (Nat.le_of_ble_eq_true rfl)
  have hq := hq.trans (if_pos c_6)
  have ht := ht.trans (if_pos c_6)
  intro H locs hP hS
  have hf : 0 + 1 + 1 + 1 + 1 + 1 + 1 ≤ R.cells ∧ 0 + 6 + 6 + 6 + 6 + 6 + 6 ≤ R.slots := ⟨Nat.le_trans (Nat.le_of_ble_eq_true rfl) hfm.1, Nat.le_trans (Nat.le_of_ble_eq_true rfl) hfm.2⟩
  refine lv_iload hx hb dX5_boat_53 (lv_at hl 6 rfl) ?_
  refine lv_iconst (v := 0) hx hb dX5_boat_55 (by decide) ?_
  refine lv_sipush (v := 255) hx hb dX5_boat_56 (by decide) ?_
  refine kxS E hml hX hP hS (c_X5_needWithin l hst σ piers_ (0 : Int32) (255 : Int32)) (va_cwS 3 hts gX5_boat_X5_needWithin rfl rfl rfl (by decide +kernel) ⟨Nat.le_trans (Nat.le_of_ble_eq_true rfl) hR.1, Nat.le_trans (Nat.le_of_ble_eq_true rfl) hR.2⟩) rfl hl.1 rfl (Nat.le_of_ble_eq_true rfl) dX5_boat_59 ⟨Nat.le_trans (Nat.le_of_ble_eq_true rfl) hfm.1, Nat.le_trans (Nat.le_of_ble_eq_true rfl) hfm.2⟩ (fun c_7 => ?_) (fun c_7 => ?_)
  · have hq := hq.trans (if_neg c_7)
    have ht := ht.trans (if_neg c_7)
    intro q9 ce H locs hP hS hce hcv hcl
    exact vx_out (fun x hx => (htab x hx).elim) hlocks hce hcv hcl (fun t9 ht9 hW9 => kt _ t9 (by rw [ht]; rfl) (by rw [ht]; decide) hW9 (by rw [ht9]; exact hP) (hS.F ht9)) hS.2.2 (Nat.le_of_ble_eq_true rfl) (Nat.le_of_ble_eq_true rfl)
  have hq := hq.trans (if_pos c_7)
  have ht := ht.trans (if_pos c_7)
  intro H locs hP hS
  have hf : 0 + 1 + 1 + 1 + 1 + 1 + 1 + 1 ≤ R.cells ∧ 0 + 6 + 6 + 6 + 6 + 6 + 6 + 6 ≤ R.slots := ⟨Nat.le_trans (Nat.le_of_ble_eq_true rfl) hfm.1, Nat.le_trans (Nat.le_of_ble_eq_true rfl) hfm.2⟩
  refine lv_aload_n hx hb dX5_boat_62 rfl (lv_at hl 0 rfl) ?_
  refine cg_X5_boats E i_X5 hP (by omega) (by decide +kernel) dX5_boat_63 ?_
  refine kcV_i E hml hP hS (kr_1 E.2.2.2 hP ⟨by decide, by omega, fun z => absurd z (by decide)⟩) (c_AL_size l σ 1 ⟨by decide, by omega, fun z => absurd z (by decide)⟩) (cwV 0 hts gX5_boat_Jx4a65c_size_8abf5 rfl rfl rfl (by decide +kernel) ⟨Nat.le_trans (Nat.le_of_ble_eq_true rfl) hR.1, Nat.le_trans (Nat.le_of_ble_eq_true rfl) hR.2⟩) rfl hl.1 rfl (Nat.le_of_ble_eq_true rfl) dX5_boat_66 hf (fun H locs hP hS => ?_)
  refine lv_bipush (v := 6) hx hb dX5_boat_69 (by decide) ?_
  refine kxS E hml hX hP hS (c_X5_needRoom l hst σ (σ 54 1) (6 : Int32)) (va_cwS 2 hts gX5_boat_X5_needRoom rfl rfl rfl (by decide +kernel) ⟨Nat.le_trans (Nat.le_of_ble_eq_true rfl) hR.1, Nat.le_trans (Nat.le_of_ble_eq_true rfl) hR.2⟩) rfl hl.1 rfl (Nat.le_of_ble_eq_true rfl) dX5_boat_71 ⟨Nat.le_trans (Nat.le_of_ble_eq_true rfl) hfm.1, Nat.le_trans (Nat.le_of_ble_eq_true rfl) hfm.2⟩ (fun c_8 => ?_) (fun c_8 => ?_)
  · have hq := hq.trans (if_neg c_8)
    have ht := ht.trans (if_neg c_8)
    intro q9 ce H locs hP hS hce hcv hcl
    exact vx_out (fun x hx => (htab x hx).elim) hlocks hce hcv hcl (fun t9 ht9 hW9 => kt _ t9 (by rw [ht]; rfl) (by rw [ht]; decide) hW9 (by rw [ht9]; exact hP) (hS.F ht9)) hS.2.2 (Nat.le_of_ble_eq_true rfl) (Nat.le_of_ble_eq_true rfl)
  have hq := hq.trans (if_pos c_8)
  have ht := ht.trans (if_pos c_8)
  intro H locs hP hS
  have hf : 0 + 1 + 1 + 1 + 1 + 1 + 1 + 1 + 1 ≤ R.cells ∧ 0 + 6 + 6 + 6 + 6 + 6 + 6 + 6 + 6 ≤ R.slots := ⟨Nat.le_trans (Nat.le_of_ble_eq_true rfl) hfm.1, Nat.le_trans (Nat.le_of_ble_eq_true rfl) hfm.2⟩
  exact kn H locs ls ht c_1 c_2 c_3 c_4 c_5 c_6 c_7 c_8 hP hS hl
def q_X5_book (σ : St) (sailing : Int32) (kind : Int32) (length : Int32) (weight : Int32) (danger : Int32) (isUrgent : Int32) (isLorry : Int32) : Int32 := if ¬ sailing < 0 ∧ sailing < (σ 54 2) then (if ¬ kind < 0 ∧ kind < (3 : Int32) then (if ¬ length < (1 : Int32) ∧ length ≤ (30 : Int32) then (if ¬ weight < (1 : Int32) ∧ weight ≤ (1000 : Int32) then (if ¬ danger < (0 : Int32) ∧ danger ≤ (3 : Int32) then (if σ 22 sailing.toNatClampNeg = 0 then (if (σ 54 3) < (100 : Int32) then (0 : Int32) else (0 : Int32)) else (0 : Int32)) else (0 : Int32)) else (0 : Int32)) else (0 : Int32)) else (0 : Int32)) else (0 : Int32)
def t_X5_book (σ : St) (sailing : Int32) (kind : Int32) (length : Int32) (weight : Int32) (danger : Int32) (isUrgent : Int32) (isLorry : Int32) : Int32 := if ¬ sailing < 0 ∧ sailing < (σ 54 2) then (if ¬ kind < 0 ∧ kind < (3 : Int32) then (if ¬ length < (1 : Int32) ∧ length ≤ (30 : Int32) then (if ¬ weight < (1 : Int32) ∧ weight ≤ (1000 : Int32) then (if ¬ danger < (0 : Int32) ∧ danger ≤ (3 : Int32) then (if σ 22 sailing.toNatClampNeg = 0 then (if (σ 54 3) < (100 : Int32) then (0 : Int32) else (2 : Int32)) else (2 : Int32)) else (1 : Int32)) else (1 : Int32)) else (1 : Int32)) else (3 : Int32)) else (3 : Int32)
set_option maxHeartbeats 1000000 in
set_option maxRecDepth 100000 in
theorem w_X5_book {p : Program} {l : Launch} {e : Env} {R : Room} {s : State} {m : MethodId} {args : Array Value} {below : List Frame} {meth : Method} {c : Code} {H : Heap} {locs : List Loc} {Qc : Array Value → State → Outcome → State → Prop} {XC : String → State → State → Prop} {D : va_G} {A : Nat → Prop} {cI cO : ClassId} {g : Gh} {cap N : Nat → Nat} {ls : Array Slot} (hst : l.stackTraces = false) (σ : St) (sailing : Int32) (kind : Int32) (length : Int32) (weight : Int32) (danger : Int32) (isUrgent : Int32) (isLorry : Int32) (hI : KI cap N σ) (E : kE p c cX5_book s m args wsX5_book RX5 D cI cO) (hml : c.maxLocals = 10) (hR : 7 ≤ R.frames ∧ 104 ≤ R.locals) (hfm : 9 ≤ R.cells ∧ 216 ≤ R.slots) (hlocks : meth.locks = false) (htab : ∀ x ∈ c.exceptionTable.toList, False) (hX : cX A s) (hP : cP D cI cO A g cap N σ H) (hS : va_S A s.heap H locs) (hl : lv_has ls 10 [(0, .ref (g 0 0)), (1, .int sailing), (2, .int kind), (3, .int length), (4, .int weight), (5, .int danger), (6, .int isUrgent), (7, .int isLorry)]) (kn : ∀ (H1 : Heap) (locs1 : List Loc) (ls1 : Array Slot), t_X5_book σ sailing kind length weight danger isUrgent isLorry = 0 → ¬ sailing < 0 ∧ sailing < (σ 54 2) → ¬ kind < 0 ∧ kind < (3 : Int32) → ¬ length < (1 : Int32) ∧ length ≤ (30 : Int32) → ¬ weight < (1 : Int32) ∧ weight ≤ (1000 : Int32) → ¬ danger < (0 : Int32) ∧ danger ≤ (3 : Int32) → σ 22 sailing.toNatClampNeg = 0 → (σ 54 3) < (100 : Int32) → cP D cI cO A g cap N σ H1 → va_S A s.heap H1 locs1 → lv_has ls1 10 [(8, .ref (g 6 sailing.toNatClampNeg)), (0, .ref (g 0 0)), (1, .int sailing), (2, .int kind), (3, .int length), (4, .int weight), (5, .int danger), (6, .int isUrgent), (7, .int isLorry)] → W p l e R s m args below meth c H1 locs1 (0 + 1 + 1 + 1 + 1 + 1 + 1 + 1) (0 + 6 + 6 + 6 + 6 + 6 + 6 + 6) (vx_MQ below Qc XC args s 9 216 A) (F0 m 69 ls1 [])) (kt : ∀ (E9 : String) (t9 : State), E9 = exN (t_X5_book σ sailing kind length weight danger isUrgent isLorry) → ¬ t_X5_book σ sailing kind length weight danger isUrgent isLorry = 0 → s.vm.Alike t9.vm → cP D cI cO A g cap N σ t9.heap → va_F A s t9 → XC E9 s t9) : W p l e R s m args below meth c H locs 0 0 (vx_MQ below Qc XC args s 9 216 A) (F0 m 0 ls []) := by
  have hx := E.1.1
  have hb := E.1.2
  have hts := E.2.1
  obtain ⟨n0, n4, n5, n6, n8, n7, n1, n2, n3⟩ := id hI.1
  have i_X5 : ∀ w ∈ wsX50, w ∈ wsX5_book := by decide +kernel
  have hq : q_X5_book σ sailing kind length weight danger isUrgent isLorry = if ¬ sailing < 0 ∧ sailing < (σ 54 2) then (if ¬ kind < 0 ∧ kind < (3 : Int32) then (if ¬ length < (1 : Int32) ∧ length ≤ (30 : Int32) then (if ¬ weight < (1 : Int32) ∧ weight ≤ (1000 : Int32) then (if ¬ danger < (0 : Int32) ∧ danger ≤ (3 : Int32) then (if σ 22 sailing.toNatClampNeg = 0 then (if (σ 54 3) < (100 : Int32) then (0 : Int32) else (0 : Int32)) else (0 : Int32)) else (0 : Int32)) else (0 : Int32)) else (0 : Int32)) else (0 : Int32)) else (0 : Int32) := rfl
  have ht : t_X5_book σ sailing kind length weight danger isUrgent isLorry = if ¬ sailing < 0 ∧ sailing < (σ 54 2) then (if ¬ kind < 0 ∧ kind < (3 : Int32) then (if ¬ length < (1 : Int32) ∧ length ≤ (30 : Int32) then (if ¬ weight < (1 : Int32) ∧ weight ≤ (1000 : Int32) then (if ¬ danger < (0 : Int32) ∧ danger ≤ (3 : Int32) then (if σ 22 sailing.toNatClampNeg = 0 then (if (σ 54 3) < (100 : Int32) then (0 : Int32) else (2 : Int32)) else (2 : Int32)) else (1 : Int32)) else (1 : Int32)) else (1 : Int32)) else (3 : Int32)) else (3 : Int32) := rfl
  have hf : 0 ≤ R.cells ∧ 0 ≤ R.slots := ⟨Nat.zero_le _, Nat.zero_le _⟩
  refine lv_iload_n hx hb dX5_book_0 rfl (lv_at hl 1 rfl) ?_
  refine lv_aload_n hx hb dX5_book_1 rfl (lv_at hl 0 rfl) ?_
  refine cg_X5_sailings E i_X5 hP (by omega) (by decide +kernel) dX5_book_2 ?_
  refine kcV_i E hml hP hS (kr_1 E.2.2.2 hP ⟨by decide, by omega, fun z => absurd z (by decide)⟩) (c_AL_size l σ 2 ⟨by decide, by omega, fun z => absurd z (by decide)⟩) (cwV 0 hts gX5_book_Jx4a65c_size_8abf5 rfl rfl rfl (by decide +kernel) ⟨Nat.le_trans (Nat.le_of_ble_eq_true rfl) hR.1, Nat.le_trans (Nat.le_of_ble_eq_true rfl) hR.2⟩) rfl hl.1 rfl (Nat.le_of_ble_eq_true rfl) dX5_book_5 hf (fun H locs hP hS => ?_)
  refine kxS E hml hX hP hS (c_X5_needNumber l hst σ sailing (σ 54 2)) (va_cwS 2 hts gX5_book_X5_needNumber rfl rfl rfl (by decide +kernel) ⟨Nat.le_trans (Nat.le_of_ble_eq_true rfl) hR.1, Nat.le_trans (Nat.le_of_ble_eq_true rfl) hR.2⟩) rfl hl.1 rfl (Nat.le_of_ble_eq_true rfl) dX5_book_8 ⟨Nat.le_trans (Nat.le_of_ble_eq_true rfl) hfm.1, Nat.le_trans (Nat.le_of_ble_eq_true rfl) hfm.2⟩ (fun c_1 => ?_) (fun c_1 => ?_)
  · have hq := hq.trans (if_neg c_1)
    have ht := ht.trans (if_neg c_1)
    intro q9 ce H locs hP hS hce hcv hcl
    exact vx_out (fun x hx => (htab x hx).elim) hlocks hce hcv hcl (fun t9 ht9 hW9 => kt _ t9 (by rw [ht]; rfl) (by rw [ht]; decide) hW9 (by rw [ht9]; exact hP) (hS.F ht9)) hS.2.2 (Nat.le_of_ble_eq_true rfl) (Nat.le_of_ble_eq_true rfl)
  have hq := hq.trans (if_pos c_1)
  have ht := ht.trans (if_pos c_1)
  intro H locs hP hS
  have hf : 0 + 1 ≤ R.cells ∧ 0 + 6 ≤ R.slots := ⟨Nat.le_trans (Nat.le_of_ble_eq_true rfl) hfm.1, Nat.le_trans (Nat.le_of_ble_eq_true rfl) hfm.2⟩
  refine lv_iload_n hx hb dX5_book_11 rfl (lv_at hl 2 rfl) ?_
  refine lv_iconst (v := 3) hx hb dX5_book_12 (by decide) ?_
  refine kxS E hml hX hP hS (c_X5_needNumber l hst σ kind (3 : Int32)) (va_cwS 2 hts gX5_book_X5_needNumber rfl rfl rfl (by decide +kernel) ⟨Nat.le_trans (Nat.le_of_ble_eq_true rfl) hR.1, Nat.le_trans (Nat.le_of_ble_eq_true rfl) hR.2⟩) rfl hl.1 rfl (Nat.le_of_ble_eq_true rfl) dX5_book_13 ⟨Nat.le_trans (Nat.le_of_ble_eq_true rfl) hfm.1, Nat.le_trans (Nat.le_of_ble_eq_true rfl) hfm.2⟩ (fun c_2 => ?_) (fun c_2 => ?_)
  · have hq := hq.trans (if_neg c_2)
    have ht := ht.trans (if_neg c_2)
    intro q9 ce H locs hP hS hce hcv hcl
    exact vx_out (fun x hx => (htab x hx).elim) hlocks hce hcv hcl (fun t9 ht9 hW9 => kt _ t9 (by rw [ht]; rfl) (by rw [ht]; decide) hW9 (by rw [ht9]; exact hP) (hS.F ht9)) hS.2.2 (Nat.le_of_ble_eq_true rfl) (Nat.le_of_ble_eq_true rfl)
  have hq := hq.trans (if_pos c_2)
  have ht := ht.trans (if_pos c_2)
  intro H locs hP hS
  have hf : 0 + 1 + 1 ≤ R.cells ∧ 0 + 6 + 6 ≤ R.slots := ⟨Nat.le_trans (Nat.le_of_ble_eq_true rfl) hfm.1, Nat.le_trans (Nat.le_of_ble_eq_true rfl) hfm.2⟩
  refine lv_iload_n hx hb dX5_book_16 rfl (lv_at hl 3 rfl) ?_
  refine lv_iconst (v := 1) hx hb dX5_book_17 (by decide) ?_
  refine lv_bipush (v := 30) hx hb dX5_book_18 (by decide) ?_
  refine kxS E hml hX hP hS (c_X5_needWithin l hst σ length (1 : Int32) (30 : Int32)) (va_cwS 3 hts gX5_book_X5_needWithin rfl rfl rfl (by decide +kernel) ⟨Nat.le_trans (Nat.le_of_ble_eq_true rfl) hR.1, Nat.le_trans (Nat.le_of_ble_eq_true rfl) hR.2⟩) rfl hl.1 rfl (Nat.le_of_ble_eq_true rfl) dX5_book_20 ⟨Nat.le_trans (Nat.le_of_ble_eq_true rfl) hfm.1, Nat.le_trans (Nat.le_of_ble_eq_true rfl) hfm.2⟩ (fun c_3 => ?_) (fun c_3 => ?_)
  · have hq := hq.trans (if_neg c_3)
    have ht := ht.trans (if_neg c_3)
    intro q9 ce H locs hP hS hce hcv hcl
    exact vx_out (fun x hx => (htab x hx).elim) hlocks hce hcv hcl (fun t9 ht9 hW9 => kt _ t9 (by rw [ht]; rfl) (by rw [ht]; decide) hW9 (by rw [ht9]; exact hP) (hS.F ht9)) hS.2.2 (Nat.le_of_ble_eq_true rfl) (Nat.le_of_ble_eq_true rfl)
  have hq := hq.trans (if_pos c_3)
  have ht := ht.trans (if_pos c_3)
  intro H locs hP hS
  have hf : 0 + 1 + 1 + 1 ≤ R.cells ∧ 0 + 6 + 6 + 6 ≤ R.slots := ⟨Nat.le_trans (Nat.le_of_ble_eq_true rfl) hfm.1, Nat.le_trans (Nat.le_of_ble_eq_true rfl) hfm.2⟩
  refine lv_iload hx hb dX5_book_23 (lv_at hl 4 rfl) ?_
  refine lv_iconst (v := 1) hx hb dX5_book_25 (by decide) ?_
  refine lv_sipush (v := 1000) hx hb dX5_book_26 (by decide) ?_
  refine kxS E hml hX hP hS (c_X5_needWithin l hst σ weight (1 : Int32) (1000 : Int32)) (va_cwS 3 hts gX5_book_X5_needWithin rfl rfl rfl (by decide +kernel) ⟨Nat.le_trans (Nat.le_of_ble_eq_true rfl) hR.1, Nat.le_trans (Nat.le_of_ble_eq_true rfl) hR.2⟩) rfl hl.1 rfl (Nat.le_of_ble_eq_true rfl) dX5_book_29 ⟨Nat.le_trans (Nat.le_of_ble_eq_true rfl) hfm.1, Nat.le_trans (Nat.le_of_ble_eq_true rfl) hfm.2⟩ (fun c_4 => ?_) (fun c_4 => ?_)
  · have hq := hq.trans (if_neg c_4)
    have ht := ht.trans (if_neg c_4)
    intro q9 ce H locs hP hS hce hcv hcl
    exact vx_out (fun x hx => (htab x hx).elim) hlocks hce hcv hcl (fun t9 ht9 hW9 => kt _ t9 (by rw [ht]; rfl) (by rw [ht]; decide) hW9 (by rw [ht9]; exact hP) (hS.F ht9)) hS.2.2 (Nat.le_of_ble_eq_true rfl) (Nat.le_of_ble_eq_true rfl)
  have hq := hq.trans (if_pos c_4)
  have ht := ht.trans (if_pos c_4)
  intro H locs hP hS
  have hf : 0 + 1 + 1 + 1 + 1 ≤ R.cells ∧ 0 + 6 + 6 + 6 + 6 ≤ R.slots := ⟨Nat.le_trans (Nat.le_of_ble_eq_true rfl) hfm.1, Nat.le_trans (Nat.le_of_ble_eq_true rfl) hfm.2⟩
  refine lv_iload hx hb dX5_book_32 (lv_at hl 5 rfl) ?_
  refine lv_iconst (v := 0) hx hb dX5_book_34 (by decide) ?_
  refine lv_iconst (v := 3) hx hb dX5_book_35 (by decide) ?_
  refine kxS E hml hX hP hS (c_X5_needWithin l hst σ danger (0 : Int32) (3 : Int32)) (va_cwS 3 hts gX5_book_X5_needWithin rfl rfl rfl (by decide +kernel) ⟨Nat.le_trans (Nat.le_of_ble_eq_true rfl) hR.1, Nat.le_trans (Nat.le_of_ble_eq_true rfl) hR.2⟩) rfl hl.1 rfl (Nat.le_of_ble_eq_true rfl) dX5_book_36 ⟨Nat.le_trans (Nat.le_of_ble_eq_true rfl) hfm.1, Nat.le_trans (Nat.le_of_ble_eq_true rfl) hfm.2⟩ (fun c_5 => ?_) (fun c_5 => ?_)
  · have hq := hq.trans (if_neg c_5)
    have ht := ht.trans (if_neg c_5)
    intro q9 ce H locs hP hS hce hcv hcl
    exact vx_out (fun x hx => (htab x hx).elim) hlocks hce hcv hcl (fun t9 ht9 hW9 => kt _ t9 (by rw [ht]; rfl) (by rw [ht]; decide) hW9 (by rw [ht9]; exact hP) (hS.F ht9)) hS.2.2 (Nat.le_of_ble_eq_true rfl) (Nat.le_of_ble_eq_true rfl)
  have hq := hq.trans (if_pos c_5)
  have ht := ht.trans (if_pos c_5)
  intro H locs hP hS
  have hf : 0 + 1 + 1 + 1 + 1 + 1 ≤ R.cells ∧ 0 + 6 + 6 + 6 + 6 + 6 ≤ R.slots := ⟨Nat.le_trans (Nat.le_of_ble_eq_true rfl) hfm.1, Nat.le_trans (Nat.le_of_ble_eq_true rfl) hfm.2⟩
  refine lv_aload_n hx hb dX5_book_39 rfl (lv_at hl 0 rfl) ?_
  refine cg_X5_sailings E i_X5 hP (by omega) (by decide +kernel) dX5_book_40 ?_
  refine lv_iload_n hx hb dX5_book_43 rfl (lv_at hl 1 rfl) ?_
  refine kcV_r (v := g 6 sailing.toNatClampNeg) E hml hP hS (kr_1 E.2.2.2 hP ⟨by decide, by omega, fun z => absurd z (by decide)⟩) (c_AL_get l σ 2 sailing ⟨by decide, by omega, fun z => absurd z (by decide)⟩ n2 (hI.2.2.2.2.2 _ (by omega)) (by rw [hI.2.1.2.2.1, nI_clamp (by omega)]; exact (num_in c_1 hI.2.1.2.2.1 (by omega)))) (cwV 1 hts gX5_book_Jx4a65c_get_915e3 rfl rfl rfl (by decide +kernel) ⟨Nat.le_trans (Nat.le_of_ble_eq_true rfl) hR.1, Nat.le_trans (Nat.le_of_ble_eq_true rfl) hR.2⟩) rfl hl.1 rfl (Nat.le_of_ble_eq_true rfl) dX5_book_44 hf (fun H locs hP hS => ?_)
  refine kcast E (E.2.2.2.1 6 _ rfl).2 (kr_6 E.2.2.2 hP ⟨by decide, vp_lt (num_in c_1 hI.2.1.2.2.1 (by omega)), fun z => absurd z (by decide)⟩) (by decide +kernel) dX5_book_47 ?_
  refine lv_astore (lv' := [(8, .ref (g 6 sailing.toNatClampNeg)), (0, .ref (g 0 0)), (1, .int sailing), (2, .int kind), (3, .int length), (4, .int weight), (5, .int danger), (6, .int isUrgent), (7, .int isLorry)]) hx hb dX5_book_50 hl (by decide) rfl (fun ls hl => ?_)
  refine lv_aload hx hb dX5_book_52 (lv_at hl 0 rfl) ?_
  refine kxS E hml hX hP hS (c_X5_needPlanned l hst σ sailing (num_in c_1 hI.2.1.2.2.1 (by omega))) (va_cwS 1 hts gX5_book_X5_needPlanned rfl rfl rfl (by decide +kernel) ⟨Nat.le_trans (Nat.le_of_ble_eq_true rfl) hR.1, Nat.le_trans (Nat.le_of_ble_eq_true rfl) hR.2⟩) rfl hl.1 rfl (Nat.le_of_ble_eq_true rfl) dX5_book_54 ⟨Nat.le_trans (Nat.le_of_ble_eq_true rfl) hfm.1, Nat.le_trans (Nat.le_of_ble_eq_true rfl) hfm.2⟩ (fun c_6 => ?_) (fun c_6 => ?_)
  · have hq := hq.trans (if_neg c_6)
    have ht := ht.trans (if_neg c_6)
    intro q9 ce H locs hP hS hce hcv hcl
    exact vx_out (fun x hx => (htab x hx).elim) hlocks hce hcv hcl (fun t9 ht9 hW9 => kt _ t9 (by rw [ht]; rfl) (by rw [ht]; decide) hW9 (by rw [ht9]; exact hP) (hS.F ht9)) hS.2.2 (Nat.le_of_ble_eq_true rfl) (Nat.le_of_ble_eq_true rfl)
  have hq := hq.trans (if_pos c_6)
  have ht := ht.trans (if_pos c_6)
  intro H locs hP hS
  have hf : 0 + 1 + 1 + 1 + 1 + 1 + 1 ≤ R.cells ∧ 0 + 6 + 6 + 6 + 6 + 6 + 6 ≤ R.slots := ⟨Nat.le_trans (Nat.le_of_ble_eq_true rfl) hfm.1, Nat.le_trans (Nat.le_of_ble_eq_true rfl) hfm.2⟩
  refine lv_aload_n hx hb dX5_book_57 rfl (lv_at hl 1 rfl) ?_
  refine cg_X5_bookings E i_X5 hP (by omega) (by decide +kernel) dX5_book_58 ?_
  refine kcV_i E hml hP hS (kr_1 E.2.2.2 hP ⟨by decide, by omega, fun z => absurd z (by decide)⟩) (c_AL_size l σ 3 ⟨by decide, by omega, fun z => absurd z (by decide)⟩) (cwV 0 hts gX5_book_Jx4a65c_size_8abf5 rfl rfl rfl (by decide +kernel) ⟨Nat.le_trans (Nat.le_of_ble_eq_true rfl) hR.1, Nat.le_trans (Nat.le_of_ble_eq_true rfl) hR.2⟩) rfl hl.1 rfl (Nat.le_of_ble_eq_true rfl) dX5_book_61 hf (fun H locs hP hS => ?_)
  refine lv_bipush (v := 100) hx hb dX5_book_64 (by decide) ?_
  refine kxS E hml hX hP hS (c_X5_needRoom l hst σ (σ 54 3) (100 : Int32)) (va_cwS 2 hts gX5_book_X5_needRoom rfl rfl rfl (by decide +kernel) ⟨Nat.le_trans (Nat.le_of_ble_eq_true rfl) hR.1, Nat.le_trans (Nat.le_of_ble_eq_true rfl) hR.2⟩) rfl hl.1 rfl (Nat.le_of_ble_eq_true rfl) dX5_book_66 ⟨Nat.le_trans (Nat.le_of_ble_eq_true rfl) hfm.1, Nat.le_trans (Nat.le_of_ble_eq_true rfl) hfm.2⟩ (fun c_7 => ?_) (fun c_7 => ?_)
  · have hq := hq.trans (if_neg c_7)
    have ht := ht.trans (if_neg c_7)
    intro q9 ce H locs hP hS hce hcv hcl
    exact vx_out (fun x hx => (htab x hx).elim) hlocks hce hcv hcl (fun t9 ht9 hW9 => kt _ t9 (by rw [ht]; rfl) (by rw [ht]; decide) hW9 (by rw [ht9]; exact hP) (hS.F ht9)) hS.2.2 (Nat.le_of_ble_eq_true rfl) (Nat.le_of_ble_eq_true rfl)
  have hq := hq.trans (if_pos c_7)
  have ht := ht.trans (if_pos c_7)
  intro H locs hP hS
  have hf : 0 + 1 + 1 + 1 + 1 + 1 + 1 + 1 ≤ R.cells ∧ 0 + 6 + 6 + 6 + 6 + 6 + 6 + 6 ≤ R.slots := ⟨Nat.le_trans (Nat.le_of_ble_eq_true rfl) hfm.1, Nat.le_trans (Nat.le_of_ble_eq_true rfl) hfm.2⟩
  exact kn H locs ls ht c_1 c_2 c_3 c_4 c_5 c_6 c_7 hP hS hl
def q_X5_sailing (σ : St) (boat : Int32) (from_ : Int32) (to_ : Int32) (ahead : Int32) (duration : Int32) (isLifeline : Int32) : Int32 := if ¬ boat < 0 ∧ boat < (σ 54 1) then (if ¬ from_ < 0 ∧ from_ < (σ 54 0) then (if ¬ to_ < 0 ∧ to_ < (σ 54 0) then (if from_ = to_ then (0 : Int32) else (if ¬ ahead < (1 : Int32) ∧ ahead ≤ (20000 : Int32) then (if ¬ duration < (1 : Int32) ∧ duration ≤ (700 : Int32) then (if (σ 54 2) < (60 : Int32) then (0 : Int32) else (0 : Int32)) else (0 : Int32)) else (0 : Int32))) else (0 : Int32)) else (0 : Int32)) else (0 : Int32)
def t_X5_sailing (σ : St) (boat : Int32) (from_ : Int32) (to_ : Int32) (ahead : Int32) (duration : Int32) (isLifeline : Int32) : Int32 := if ¬ boat < 0 ∧ boat < (σ 54 1) then (if ¬ from_ < 0 ∧ from_ < (σ 54 0) then (if ¬ to_ < 0 ∧ to_ < (σ 54 0) then (if from_ = to_ then (1 : Int32) else (if ¬ ahead < (1 : Int32) ∧ ahead ≤ (20000 : Int32) then (if ¬ duration < (1 : Int32) ∧ duration ≤ (700 : Int32) then (if (σ 54 2) < (60 : Int32) then (0 : Int32) else (2 : Int32)) else (1 : Int32)) else (1 : Int32))) else (3 : Int32)) else (3 : Int32)) else (3 : Int32)
set_option maxHeartbeats 1000000 in
set_option maxRecDepth 100000 in
theorem w_X5_sailing {p : Program} {l : Launch} {e : Env} {R : Room} {s : State} {m : MethodId} {args : Array Value} {below : List Frame} {meth : Method} {c : Code} {H : Heap} {locs : List Loc} {Qc : Array Value → State → Outcome → State → Prop} {XC : String → State → State → Prop} {D : va_G} {A : Nat → Prop} {cI cO : ClassId} {g : Gh} {cap N : Nat → Nat} {ls : Array Slot} (hst : l.stackTraces = false) (σ : St) (boat : Int32) (from_ : Int32) (to_ : Int32) (ahead : Int32) (duration : Int32) (isLifeline : Int32) (hI : KI cap N σ) (E : kE p c cX5_sailing s m args wsX5_sailing RX5 D cI cO) (hml : c.maxLocals = 8) (hR : 7 ≤ R.frames ∧ 104 ≤ R.locals) (hfm : 13 ≤ R.cells ∧ 256 ≤ R.slots) (hlocks : meth.locks = false) (htab : ∀ x ∈ c.exceptionTable.toList, False) (hX : cX A s) (hP : cP D cI cO A g cap N σ H) (hS : va_S A s.heap H locs) (hl : lv_has ls 8 [(0, .ref (g 0 0)), (1, .int boat), (2, .int from_), (3, .int to_), (4, .int ahead), (5, .int duration), (6, .int isLifeline)]) (kn : ∀ (H1 : Heap) (locs1 : List Loc) (ls1 : Array Slot), t_X5_sailing σ boat from_ to_ ahead duration isLifeline = 0 → ¬ boat < 0 ∧ boat < (σ 54 1) → ¬ from_ < 0 ∧ from_ < (σ 54 0) → ¬ to_ < 0 ∧ to_ < (σ 54 0) → ¬ ahead < (1 : Int32) ∧ ahead ≤ (20000 : Int32) → ¬ duration < (1 : Int32) ∧ duration ≤ (700 : Int32) → (σ 54 2) < (60 : Int32) → cP D cI cO A g cap N σ H1 → va_S A s.heap H1 locs1 → lv_has ls1 8 [(0, .ref (g 0 0)), (1, .int boat), (2, .int from_), (3, .int to_), (4, .int ahead), (5, .int duration), (6, .int isLifeline)] → W p l e R s m args below meth c H1 locs1 (0 + 1 + 1 + 1 + 1 + 1 + 1) (0 + 6 + 6 + 6 + 6 + 6 + 6) (vx_MQ below Qc XC args s 13 256 A) (F0 m 78 ls1 [])) (kt : ∀ (E9 : String) (t9 : State), E9 = exN (t_X5_sailing σ boat from_ to_ ahead duration isLifeline) → ¬ t_X5_sailing σ boat from_ to_ ahead duration isLifeline = 0 → s.vm.Alike t9.vm → cP D cI cO A g cap N σ t9.heap → va_F A s t9 → XC E9 s t9) : W p l e R s m args below meth c H locs 0 0 (vx_MQ below Qc XC args s 13 256 A) (F0 m 0 ls []) := by
  have hx := E.1.1
  have hb := E.1.2
  have hts := E.2.1
  obtain ⟨n0, n4, n5, n6, n8, n7, n1, n2, n3⟩ := id hI.1
  have i_X5 : ∀ w ∈ wsX50, w ∈ wsX5_sailing := by decide +kernel
  have hq : q_X5_sailing σ boat from_ to_ ahead duration isLifeline = if ¬ boat < 0 ∧ boat < (σ 54 1) then (if ¬ from_ < 0 ∧ from_ < (σ 54 0) then (if ¬ to_ < 0 ∧ to_ < (σ 54 0) then (if from_ = to_ then (0 : Int32) else (if ¬ ahead < (1 : Int32) ∧ ahead ≤ (20000 : Int32) then (if ¬ duration < (1 : Int32) ∧ duration ≤ (700 : Int32) then (if (σ 54 2) < (60 : Int32) then (0 : Int32) else (0 : Int32)) else (0 : Int32)) else (0 : Int32))) else (0 : Int32)) else (0 : Int32)) else (0 : Int32) := rfl
  have ht : t_X5_sailing σ boat from_ to_ ahead duration isLifeline = if ¬ boat < 0 ∧ boat < (σ 54 1) then (if ¬ from_ < 0 ∧ from_ < (σ 54 0) then (if ¬ to_ < 0 ∧ to_ < (σ 54 0) then (if from_ = to_ then (1 : Int32) else (if ¬ ahead < (1 : Int32) ∧ ahead ≤ (20000 : Int32) then (if ¬ duration < (1 : Int32) ∧ duration ≤ (700 : Int32) then (if (σ 54 2) < (60 : Int32) then (0 : Int32) else (2 : Int32)) else (1 : Int32)) else (1 : Int32))) else (3 : Int32)) else (3 : Int32)) else (3 : Int32) := rfl
  have hf : 0 ≤ R.cells ∧ 0 ≤ R.slots := ⟨Nat.zero_le _, Nat.zero_le _⟩
  refine lv_iload_n hx hb dX5_sailing_0 rfl (lv_at hl 1 rfl) ?_
  refine lv_aload_n hx hb dX5_sailing_1 rfl (lv_at hl 0 rfl) ?_
  refine cg_X5_boats E i_X5 hP (by omega) (by decide +kernel) dX5_sailing_2 ?_
  refine kcV_i E hml hP hS (kr_1 E.2.2.2 hP ⟨by decide, by omega, fun z => absurd z (by decide)⟩) (c_AL_size l σ 1 ⟨by decide, by omega, fun z => absurd z (by decide)⟩) (cwV 0 hts gX5_sailing_Jx4a65c_size_8abf5 rfl rfl rfl (by decide +kernel) ⟨Nat.le_trans (Nat.le_of_ble_eq_true rfl) hR.1, Nat.le_trans (Nat.le_of_ble_eq_true rfl) hR.2⟩) rfl hl.1 rfl (Nat.le_of_ble_eq_true rfl) dX5_sailing_5 hf (fun H locs hP hS => ?_)
  refine kxS E hml hX hP hS (c_X5_needNumber l hst σ boat (σ 54 1)) (va_cwS 2 hts gX5_sailing_X5_needNumber rfl rfl rfl (by decide +kernel) ⟨Nat.le_trans (Nat.le_of_ble_eq_true rfl) hR.1, Nat.le_trans (Nat.le_of_ble_eq_true rfl) hR.2⟩) rfl hl.1 rfl (Nat.le_of_ble_eq_true rfl) dX5_sailing_8 ⟨Nat.le_trans (Nat.le_of_ble_eq_true rfl) hfm.1, Nat.le_trans (Nat.le_of_ble_eq_true rfl) hfm.2⟩ (fun c_1 => ?_) (fun c_1 => ?_)
  · have hq := hq.trans (if_neg c_1)
    have ht := ht.trans (if_neg c_1)
    intro q9 ce H locs hP hS hce hcv hcl
    exact vx_out (fun x hx => (htab x hx).elim) hlocks hce hcv hcl (fun t9 ht9 hW9 => kt _ t9 (by rw [ht]; rfl) (by rw [ht]; decide) hW9 (by rw [ht9]; exact hP) (hS.F ht9)) hS.2.2 (Nat.le_of_ble_eq_true rfl) (Nat.le_of_ble_eq_true rfl)
  have hq := hq.trans (if_pos c_1)
  have ht := ht.trans (if_pos c_1)
  intro H locs hP hS
  have hf : 0 + 1 ≤ R.cells ∧ 0 + 6 ≤ R.slots := ⟨Nat.le_trans (Nat.le_of_ble_eq_true rfl) hfm.1, Nat.le_trans (Nat.le_of_ble_eq_true rfl) hfm.2⟩
  refine lv_iload_n hx hb dX5_sailing_11 rfl (lv_at hl 2 rfl) ?_
  refine lv_aload_n hx hb dX5_sailing_12 rfl (lv_at hl 0 rfl) ?_
  refine cg_X5_piers E i_X5 hP (by omega) (by decide +kernel) dX5_sailing_13 ?_
  refine kcV_i E hml hP hS (kr_1 E.2.2.2 hP ⟨by decide, by omega, fun z => absurd z (by decide)⟩) (c_AL_size l σ 0 ⟨by decide, by omega, fun z => absurd z (by decide)⟩) (cwV 0 hts gX5_sailing_Jx4a65c_size_8abf5 rfl rfl rfl (by decide +kernel) ⟨Nat.le_trans (Nat.le_of_ble_eq_true rfl) hR.1, Nat.le_trans (Nat.le_of_ble_eq_true rfl) hR.2⟩) rfl hl.1 rfl (Nat.le_of_ble_eq_true rfl) dX5_sailing_16 hf (fun H locs hP hS => ?_)
  refine kxS E hml hX hP hS (c_X5_needNumber l hst σ from_ (σ 54 0)) (va_cwS 2 hts gX5_sailing_X5_needNumber rfl rfl rfl (by decide +kernel) ⟨Nat.le_trans (Nat.le_of_ble_eq_true rfl) hR.1, Nat.le_trans (Nat.le_of_ble_eq_true rfl) hR.2⟩) rfl hl.1 rfl (Nat.le_of_ble_eq_true rfl) dX5_sailing_19 ⟨Nat.le_trans (Nat.le_of_ble_eq_true rfl) hfm.1, Nat.le_trans (Nat.le_of_ble_eq_true rfl) hfm.2⟩ (fun c_2 => ?_) (fun c_2 => ?_)
  · have hq := hq.trans (if_neg c_2)
    have ht := ht.trans (if_neg c_2)
    intro q9 ce H locs hP hS hce hcv hcl
    exact vx_out (fun x hx => (htab x hx).elim) hlocks hce hcv hcl (fun t9 ht9 hW9 => kt _ t9 (by rw [ht]; rfl) (by rw [ht]; decide) hW9 (by rw [ht9]; exact hP) (hS.F ht9)) hS.2.2 (Nat.le_of_ble_eq_true rfl) (Nat.le_of_ble_eq_true rfl)
  have hq := hq.trans (if_pos c_2)
  have ht := ht.trans (if_pos c_2)
  intro H locs hP hS
  have hf : 0 + 1 + 1 ≤ R.cells ∧ 0 + 6 + 6 ≤ R.slots := ⟨Nat.le_trans (Nat.le_of_ble_eq_true rfl) hfm.1, Nat.le_trans (Nat.le_of_ble_eq_true rfl) hfm.2⟩
  refine lv_iload_n hx hb dX5_sailing_22 rfl (lv_at hl 3 rfl) ?_
  refine lv_aload_n hx hb dX5_sailing_23 rfl (lv_at hl 0 rfl) ?_
  refine cg_X5_piers E i_X5 hP (by omega) (by decide +kernel) dX5_sailing_24 ?_
  refine kcV_i E hml hP hS (kr_1 E.2.2.2 hP ⟨by decide, by omega, fun z => absurd z (by decide)⟩) (c_AL_size l σ 0 ⟨by decide, by omega, fun z => absurd z (by decide)⟩) (cwV 0 hts gX5_sailing_Jx4a65c_size_8abf5 rfl rfl rfl (by decide +kernel) ⟨Nat.le_trans (Nat.le_of_ble_eq_true rfl) hR.1, Nat.le_trans (Nat.le_of_ble_eq_true rfl) hR.2⟩) rfl hl.1 rfl (Nat.le_of_ble_eq_true rfl) dX5_sailing_27 hf (fun H locs hP hS => ?_)
  refine kxS E hml hX hP hS (c_X5_needNumber l hst σ to_ (σ 54 0)) (va_cwS 2 hts gX5_sailing_X5_needNumber rfl rfl rfl (by decide +kernel) ⟨Nat.le_trans (Nat.le_of_ble_eq_true rfl) hR.1, Nat.le_trans (Nat.le_of_ble_eq_true rfl) hR.2⟩) rfl hl.1 rfl (Nat.le_of_ble_eq_true rfl) dX5_sailing_30 ⟨Nat.le_trans (Nat.le_of_ble_eq_true rfl) hfm.1, Nat.le_trans (Nat.le_of_ble_eq_true rfl) hfm.2⟩ (fun c_3 => ?_) (fun c_3 => ?_)
  · have hq := hq.trans (if_neg c_3)
    have ht := ht.trans (if_neg c_3)
    intro q9 ce H locs hP hS hce hcv hcl
    exact vx_out (fun x hx => (htab x hx).elim) hlocks hce hcv hcl (fun t9 ht9 hW9 => kt _ t9 (by rw [ht]; rfl) (by rw [ht]; decide) hW9 (by rw [ht9]; exact hP) (hS.F ht9)) hS.2.2 (Nat.le_of_ble_eq_true rfl) (Nat.le_of_ble_eq_true rfl)
  have hq := hq.trans (if_pos c_3)
  have ht := ht.trans (if_pos c_3)
  intro H locs hP hS
  have hf : 0 + 1 + 1 + 1 ≤ R.cells ∧ 0 + 6 + 6 + 6 ≤ R.slots := ⟨Nat.le_trans (Nat.le_of_ble_eq_true rfl) hfm.1, Nat.le_trans (Nat.le_of_ble_eq_true rfl) hfm.2⟩
  refine lv_iload_n hx hb dX5_sailing_33 rfl (lv_at hl 2 rfl) ?_
  refine lv_iload_n hx hb dX5_sailing_34 rfl (lv_at hl 3 rfl) ?_
  refine lv_icmp_ne (tgt := 48) hx hb dX5_sailing_35 (by decide) (fun c_4 => ?_) (fun c_4 => ?_)
  · have hq := hq.trans (if_neg c_4)
    have ht := ht.trans (if_neg c_4)
    refine lv_iload hx hb dX5_sailing_48 (lv_at hl 4 rfl) ?_
    refine lv_iconst (v := 1) hx hb dX5_sailing_50 (by decide) ?_
    refine lv_sipush (v := 20000) hx hb dX5_sailing_51 (by decide) ?_
    refine kxS E hml hX hP hS (c_X5_needWithin l hst σ ahead (1 : Int32) (20000 : Int32)) (va_cwS 3 hts gX5_sailing_X5_needWithin rfl rfl rfl (by decide +kernel) ⟨Nat.le_trans (Nat.le_of_ble_eq_true rfl) hR.1, Nat.le_trans (Nat.le_of_ble_eq_true rfl) hR.2⟩) rfl hl.1 rfl (Nat.le_of_ble_eq_true rfl) dX5_sailing_54 ⟨Nat.le_trans (Nat.le_of_ble_eq_true rfl) hfm.1, Nat.le_trans (Nat.le_of_ble_eq_true rfl) hfm.2⟩ (fun c_5 => ?_) (fun c_5 => ?_)
    · have hq := hq.trans (if_neg c_5)
      have ht := ht.trans (if_neg c_5)
      intro q9 ce H locs hP hS hce hcv hcl
      exact vx_out (fun x hx => (htab x hx).elim) hlocks hce hcv hcl (fun t9 ht9 hW9 => kt _ t9 (by rw [ht]; rfl) (by rw [ht]; decide) hW9 (by rw [ht9]; exact hP) (hS.F ht9)) hS.2.2 (Nat.le_of_ble_eq_true rfl) (Nat.le_of_ble_eq_true rfl)
    have hq := hq.trans (if_pos c_5)
    have ht := ht.trans (if_pos c_5)
    intro H locs hP hS
    have hf : 0 + 1 + 1 + 1 + 1 ≤ R.cells ∧ 0 + 6 + 6 + 6 + 6 ≤ R.slots := ⟨Nat.le_trans (Nat.le_of_ble_eq_true rfl) hfm.1, Nat.le_trans (Nat.le_of_ble_eq_true rfl) hfm.2⟩
    refine lv_iload hx hb dX5_sailing_57 (lv_at hl 5 rfl) ?_
    refine lv_iconst (v := 1) hx hb dX5_sailing_59 (by decide) ?_
    refine lv_sipush (v := 700) hx hb dX5_sailing_60 (by decide) ?_
    refine kxS E hml hX hP hS (c_X5_needWithin l hst σ duration (1 : Int32) (700 : Int32)) (va_cwS 3 hts gX5_sailing_X5_needWithin rfl rfl rfl (by decide +kernel) ⟨Nat.le_trans (Nat.le_of_ble_eq_true rfl) hR.1, Nat.le_trans (Nat.le_of_ble_eq_true rfl) hR.2⟩) rfl hl.1 rfl (Nat.le_of_ble_eq_true rfl) dX5_sailing_63 ⟨Nat.le_trans (Nat.le_of_ble_eq_true rfl) hfm.1, Nat.le_trans (Nat.le_of_ble_eq_true rfl) hfm.2⟩ (fun c_6 => ?_) (fun c_6 => ?_)
    · have hq := hq.trans (if_neg c_6)
      have ht := ht.trans (if_neg c_6)
      intro q9 ce H locs hP hS hce hcv hcl
      exact vx_out (fun x hx => (htab x hx).elim) hlocks hce hcv hcl (fun t9 ht9 hW9 => kt _ t9 (by rw [ht]; rfl) (by rw [ht]; decide) hW9 (by rw [ht9]; exact hP) (hS.F ht9)) hS.2.2 (Nat.le_of_ble_eq_true rfl) (Nat.le_of_ble_eq_true rfl)
    have hq := hq.trans (if_pos c_6)
    have ht := ht.trans (if_pos c_6)
    intro H locs hP hS
    have hf : 0 + 1 + 1 + 1 + 1 + 1 ≤ R.cells ∧ 0 + 6 + 6 + 6 + 6 + 6 ≤ R.slots := ⟨Nat.le_trans (Nat.le_of_ble_eq_true rfl) hfm.1, Nat.le_trans (Nat.le_of_ble_eq_true rfl) hfm.2⟩
    refine lv_aload_n hx hb dX5_sailing_66 rfl (lv_at hl 0 rfl) ?_
    refine cg_X5_sailings E i_X5 hP (by omega) (by decide +kernel) dX5_sailing_67 ?_
    refine kcV_i E hml hP hS (kr_1 E.2.2.2 hP ⟨by decide, by omega, fun z => absurd z (by decide)⟩) (c_AL_size l σ 2 ⟨by decide, by omega, fun z => absurd z (by decide)⟩) (cwV 0 hts gX5_sailing_Jx4a65c_size_8abf5 rfl rfl rfl (by decide +kernel) ⟨Nat.le_trans (Nat.le_of_ble_eq_true rfl) hR.1, Nat.le_trans (Nat.le_of_ble_eq_true rfl) hR.2⟩) rfl hl.1 rfl (Nat.le_of_ble_eq_true rfl) dX5_sailing_70 hf (fun H locs hP hS => ?_)
    refine lv_bipush (v := 60) hx hb dX5_sailing_73 (by decide) ?_
    refine kxS E hml hX hP hS (c_X5_needRoom l hst σ (σ 54 2) (60 : Int32)) (va_cwS 2 hts gX5_sailing_X5_needRoom rfl rfl rfl (by decide +kernel) ⟨Nat.le_trans (Nat.le_of_ble_eq_true rfl) hR.1, Nat.le_trans (Nat.le_of_ble_eq_true rfl) hR.2⟩) rfl hl.1 rfl (Nat.le_of_ble_eq_true rfl) dX5_sailing_75 ⟨Nat.le_trans (Nat.le_of_ble_eq_true rfl) hfm.1, Nat.le_trans (Nat.le_of_ble_eq_true rfl) hfm.2⟩ (fun c_7 => ?_) (fun c_7 => ?_)
    · have hq := hq.trans (if_neg c_7)
      have ht := ht.trans (if_neg c_7)
      intro q9 ce H locs hP hS hce hcv hcl
      exact vx_out (fun x hx => (htab x hx).elim) hlocks hce hcv hcl (fun t9 ht9 hW9 => kt _ t9 (by rw [ht]; rfl) (by rw [ht]; decide) hW9 (by rw [ht9]; exact hP) (hS.F ht9)) hS.2.2 (Nat.le_of_ble_eq_true rfl) (Nat.le_of_ble_eq_true rfl)
    have hq := hq.trans (if_pos c_7)
    have ht := ht.trans (if_pos c_7)
    intro H locs hP hS
    have hf : 0 + 1 + 1 + 1 + 1 + 1 + 1 ≤ R.cells ∧ 0 + 6 + 6 + 6 + 6 + 6 + 6 ≤ R.slots := ⟨Nat.le_trans (Nat.le_of_ble_eq_true rfl) hfm.1, Nat.le_trans (Nat.le_of_ble_eq_true rfl) hfm.2⟩
    exact kn H locs ls ht c_1 c_2 c_3 c_5 c_6 c_7 hP hS hl
  have hq := hq.trans (if_pos c_4)
  have ht := ht.trans (if_pos c_4)
  obtain ⟨sa, hsa⟩ := hX.2.2.1 (96, "a sailing goes to another pier") (by decide +kernel)
  exact vx_throwS (cls := "java/lang/IllegalArgumentException") (text := "a sailing goes to another pier") (names := ["java/lang/RuntimeException", "java/lang/Exception"]) (ik := 80) (is := 96) (ic := 84) (sa := sa) (A := A) hx hb hst E.2.2.1 (by decide +kernel) (by decide +kernel) (hts (.classLink RX5 80 "java/lang/IllegalArgumentException") (by decide +kernel)) (hts (.initialized "java/lang/IllegalArgumentException") (by decide +kernel)) hsa (vx_hat (B := xwd) (fun w hw => hts w (by unfold wsX5_sailing; first | with_reducible exact List.mem_cons_of_mem _ (List.mem_append_right _ hw) | with_reducible exact List.mem_cons_of_mem _ (List.mem_append_left _ (List.mem_append_right _ hw)) | with_reducible exact List.mem_cons_of_mem _ (List.mem_append_left _ (List.mem_append_left _ (List.mem_append_right _ hw))))) (by decide +kernel) (fun w hw => (hX.2.2.2.1 w hw).use (xwd_on w hw))) (by decide +kernel) hX.1 hX.2.1 hS (hl.1.trans hml.symm) dX5_sailing_38 dX5_sailing_41 dX5_sailing_42 dX5_sailing_44 dX5_sailing_47 (fun x hx => (htab x hx).elim) (Nat.lt_of_lt_of_le (by decide) hR.1) (Nat.le_trans (Nat.le_of_ble_eq_true rfl) hR.2) (Nat.le_trans (Nat.le_of_ble_eq_true rfl) hfm.1) (Nat.le_trans (Nat.le_of_ble_eq_true rfl) hfm.2) hlocks (fun t9 hA hz hk => kt _ t9 (by rw [ht]; rfl) (by rw [ht]; decide) hA (by exact cP_kept hP (fun q hq _ => hk q hq)) ⟨Nat.le_trans hS.1 hz, fun q h1 h2 => (hk q (Nat.lt_of_lt_of_le h1 hS.1)).trans (hS.2.1 q h1 h2)⟩) hS.2.2 (Nat.le_of_ble_eq_true rfl) (Nat.le_of_ble_eq_true rfl)
