/-! plain facts of the reference's state -/
def isB (x : Int32) : Prop := x = 0 ∨ x = 1
theorem isB0 : isB 0 := Or.inl rfl
theorem isB1 : isB 1 := Or.inr rfl
theorem isB_n {x : Int32} (hx : isB x) : narrow .boolean (.int x) = .int x := by rcases hx with rfl | rfl <;> rfl
theorem isB_if {P : Prop} {hd : Decidable P} {a b : Int32} (ha : isB a) (hb : isB b) : isB (if P then a else b) := by by_cases hp : P <;> simp [hp, ha, hb]
theorem isB_nar (x : Int32) : isB (vp_nar .boolean x) := by
  have h : vp_nar .boolean x = x &&& 1 := rfl
  rw [h]
  have h2 := pk_andE x (m := 1) 1 rfl
  obtain ⟨j, hj, e⟩ := h2
  rw [e]
  have : j = 0 ∨ j = 1 := by omega
  rcases this with rfl | rfl
  · exact Or.inl rfl
  · exact Or.inr rfl
theorem m_lt {x : Int32} {C i : Nat} (e : x = nI C) (hn : ¬ x ≤ nI i) (hi : i < 2 ^ 31) (hC : C < 2 ^ 31) : i < C := by
  subst e
  rcases Nat.lt_or_ge i C with q | q
  · exact q
  · exact absurd (nI_le q hi) hn
theorem isB_sub {x : Int32} (hx : isB x) : isB (1 - x) := by
  rcases hx with rfl | rfl
  · exact Or.inr rfl
  · exact Or.inl rfl
theorem in2 {x y : Int32} (hx : vp_in x 60) (hy : isB y) : vp_in (2 * x + y) 120 := by
  obtain ⟨j, hj, rfl⟩ := vp_in_of hx (by omega)
  rcases hy with rfl | rfl
  · rw [show (2 : Int32) * nI j + 0 = nI (2 * j) from by rw [show (2 : Int32) = nI 2 from rfl, pk_mul, show (0 : Int32) = nI 0 from rfl, nI_add]; rfl]
    exact vp_in_nI (by omega) (by omega)
  · rw [show (2 : Int32) * nI j + 1 = nI (2 * j + 1) from by rw [show (2 : Int32) = nI 2 from rfl, pk_mul, nI_1]]
    exact vp_in_nI (by omega) (by omega)
theorem in2z {x : Int32} (hx : vp_in x 60) : vp_in (2 * x) 120 := by
  obtain ⟨j, hj, rfl⟩ := vp_in_of hx (by omega)
  rw [show (2 : Int32) * nI j = nI (2 * j) from by rw [show (2 : Int32) = nI 2 from rfl, pk_mul]]
  exact vp_in_nI (by omega) (by omega)
theorem in2m {x y : Int32} (hx : vp_in x 60) (hy : isB y) : vp_in (2 * x + 1 - y) 120 := by
  rcases hy with rfl | rfl
  · have h := in2 hx isB1
    rwa [show (2 : Int32) * x + 1 - 0 = 2 * x + 1 from by simp]
  · have h := in2z hx
    rwa [show (2 : Int32) * x + 1 - 1 = 2 * x from by simp]
def rng (x : Int32) (n : Nat) : Prop := ∃ k : Nat, k ≤ n ∧ x = nI k
def MI (σ : St) : Prop := (rng (σ 2 0) 8 ∧ rng (σ 12 0) 6 ∧ rng (σ 21 0) 60 ∧ rng (σ 34 0) 100) ∧ (∀ j, vp_in (σ 23 j) 6) ∧ (∀ j, vp_in (σ 24 j) 8) ∧ (∀ j, vp_in (σ 25 j) 8) ∧ (∀ j, vp_in (σ 36 j) 60) ∧ (∀ j, vp_in (σ 37 j) 3) ∧ (∀ j, isB (σ 6 j)) ∧ (∀ j, isB (σ 20 j)) ∧ (∀ j, isB (σ 28 j)) ∧ (∀ j, isB (σ 41 j)) ∧ (∀ j, isB (σ 42 j))
theorem MI_n2 {σ : St} (h : MI σ) : ∃ C : Nat, C ≤ 8 ∧ σ 2 0 = nI C := h.1.1
theorem MI_n12 {σ : St} (h : MI σ) : ∃ C : Nat, C ≤ 6 ∧ σ 12 0 = nI C := h.1.2.1
theorem MI_n21 {σ : St} (h : MI σ) : ∃ C : Nat, C ≤ 60 ∧ σ 21 0 = nI C := h.1.2.2.1
theorem MI_n34 {σ : St} (h : MI σ) : ∃ C : Nat, C ≤ 100 ∧ σ 34 0 = nI C := h.1.2.2.2
theorem MI_bo {σ : St} (h : MI σ) : ∀ j, vp_in (σ 23 j) 6 := h.2.1
theorem MI_fr {σ : St} (h : MI σ) : ∀ j, vp_in (σ 24 j) 8 := h.2.2.1
theorem MI_to {σ : St} (h : MI σ) : ∀ j, vp_in (σ 25 j) 8 := h.2.2.2.1
theorem MI_on {σ : St} (h : MI σ) : ∀ j, vp_in (σ 36 j) 60 := h.2.2.2.2.1
theorem MI_kd {σ : St} (h : MI σ) : ∀ j, vp_in (σ 37 j) 3 := h.2.2.2.2.2.1
theorem MI_z6 {σ : St} (h : MI σ) : ∀ j, isB (σ 6 j) := h.2.2.2.2.2.2.1
theorem MI_z20 {σ : St} (h : MI σ) : ∀ j, isB (σ 20 j) := h.2.2.2.2.2.2.2.1
theorem MI_z28 {σ : St} (h : MI σ) : ∀ j, isB (σ 28 j) := h.2.2.2.2.2.2.2.2.1
theorem MI_z41 {σ : St} (h : MI σ) : ∀ j, isB (σ 41 j) := h.2.2.2.2.2.2.2.2.2.1
theorem MI_z42 {σ : St} (h : MI σ) : ∀ j, isB (σ 42 j) := h.2.2.2.2.2.2.2.2.2.2
theorem MI_o {σ : St} (h : MI σ) {f j : Nat} {v : Int32} (hf : f ∉ [2, 12, 21, 34, 23, 24, 25, 36, 37, 6, 20, 28, 41, 42]) : MI (st σ f j v) := by
  simp only [List.mem_cons, List.not_mem_nil, or_false, not_or] at hf
  have e : ∀ g, g ≠ f → st σ f j v g = σ g := fun g hg => st_nf σ j v hg
  obtain ⟨h1, h2, h3, h4, h5, h6, h7, h8, h9, h10, h11⟩ := h
  unfold MI
  rw [e 2 (by omega), e 12 (by omega), e 21 (by omega), e 34 (by omega), e 23 (by omega), e 24 (by omega), e 25 (by omega), e 36 (by omega), e 37 (by omega), e 6 (by omega), e 20 (by omega), e 28 (by omega), e 41 (by omega), e 42 (by omega)]
  exact ⟨h1, h2, h3, h4, h5, h6, h7, h8, h9, h10, h11⟩
/-- the counts stay, and what MI says -/
def MK (σ τ : St) : Prop := MI τ ∧ τ 2 0 = σ 2 0 ∧ τ 12 0 = σ 12 0 ∧ τ 21 0 = σ 21 0 ∧ τ 34 0 = σ 34 0
theorem MK_refl {σ : St} (h : MI σ) : MK σ σ := ⟨h, rfl, rfl, rfl, rfl⟩
theorem MK_trans {σ τ ρ : St} (h1 : MK σ τ) (h2 : MK τ ρ) : MK σ ρ := ⟨h2.1, h2.2.1.trans h1.2.1, h2.2.2.1.trans h1.2.2.1, h2.2.2.2.1.trans h1.2.2.2.1, h2.2.2.2.2.trans h1.2.2.2.2⟩
theorem MK_n21 {σ τ : St} (h : MK σ τ) : τ 21 0 = σ 21 0 := h.2.2.2.1
theorem MK_n34 {σ τ : St} (h : MK σ τ) : τ 34 0 = σ 34 0 := h.2.2.2.2
theorem MK_o {σ τ : St} (h : MK σ τ) {f j : Nat} {v : Int32} (hf : f ∉ [2, 12, 21, 34, 23, 24, 25, 36, 37, 6, 20, 28, 41, 42]) : MK σ (st τ f j v) := by
  refine ⟨MI_o h.1 hf, ?_⟩
  simp only [List.mem_cons, List.not_mem_nil, or_false, not_or] at hf
  rw [st_nf τ j v (g := 2) (by omega), st_nf τ j v (g := 12) (by omega), st_nf τ j v (g := 21) (by omega), st_nf τ j v (g := 34) (by omega)]
  exact h.2

def q_thrown (σ : St) : Int32 := σ 0 0
set_option maxHeartbeats 4000000 in
set_option maxRecDepth 100000 in
theorem w_thrown {p : Program} {l : Launch} {e : Env} {R : Room} {s : State} {m : MethodId} {args : Array Value} {below : List Frame} {meth : Method} {c : Code} {H : Heap} {locs : List Loc} {cells slots : Nat} {Q : State → Prop} {D : va_G} {A : Nat → Prop} {cI cZ : ClassId} {h : Nat} {ls : Array Slot} (σ : St) (E : mE p c cX6_thrown s m args wsX6_thrown D cI cZ) (hml : c.maxLocals = 1) (hA : ∀ i, i < 44 → A (h + i)) (hR : 0 ≤ R.frames ∧ 0 ≤ R.locals) (hf : cells ≤ R.cells ∧ slots ≤ R.slots) (hP : va_P D vwCl (mW cI cZ h σ) H) (hS : va_S A s.heap H locs) (hl : lv_has ls 1 [(0, .ref h)]) (kr : ∀ (pc : Nat) (rv : Int32) (H1 : Heap) (locs1 : List Loc) (ls1 : Array Slot), decode cX6_thrown pc = .ok (.ireturn, 1) → rv = q_thrown σ → va_P D vwCl (mW cI cZ h (σ)) H1 → va_S A s.heap H1 locs1 → W p l e R s m args below meth c H1 locs1 cells slots Q (F0 m pc ls1 [.int rv])) : W p l e R s m args below meth c H locs cells slots Q (F0 m 0 ls []) := by
  have hx := E.1.1
  have hb := E.1.2
  have hts := E.2.1
  have hq : q_thrown σ = σ 0 0 := rfl
  refine lv_aload_n hx hb dX6_thrown_0 rfl (lv_at hl 0 rfl) ?_
  refine mg_thrown E hP (by decide +kernel) dX6_thrown_1 ?_
  exact kr _ (σ 0 0) H locs ls dX6_thrown_4 hq.symm hP hS
set_option maxHeartbeats 4000000 in
set_option maxRecDepth 100000 in
theorem c_thrown (l : Launch) {D : va_G} {A : Nat → Prop} {cI cZ : ClassId} {h : Nat} (hA : ∀ i, i < 44 → A (h + i)) (σ : St) : Met l yX6_thrown wsX6_thrown ({ frames := 0, cells := 0, slots := 0, locals := 0 }) (va_Pc [.ref h] (mU D cI cZ h σ)) (va_Qi (fun r (_ : Unit) => r = q_thrown σ) (fun _ t => mU D cI cZ h (σ) t) A) 0 0 A := by
  refine Met.ofW (cc := cX6_thrown) (maxL := 1) (ret := (some .int)) (by decide) rfl ?_
  intro p e s m args below meth c s₁ B hml hv
  obtain ⟨rfl, hP, hK⟩ := hv
  have E : mE p c cX6_thrown s m ([.ref h] : List Value).toArray wsX6_thrown D cI cZ := ⟨⟨B.exec, B.bytes⟩, atoms_spec (ws := wsX6_thrown) B.pre, (by decide +kernel), findClass_of_methodNamed B.named, hK⟩
  have hr := B.returns
  have hlocks := B.notSynchronized
  have hl := lv_entry ([.ref h]) (n := 1) (Nat.le_of_ble_eq_true rfl)
  rw [lg_entry_eq]
  generalize (lg_sl ([.ref h]) ++ List.replicate (1 - (lg_sl ([.ref h])).length) Slot.unset).toArray = ls at hl ⊢
  refine w_thrown σ  E hml hA ⟨Nat.le_of_ble_eq_true rfl, Nat.le_of_ble_eq_true rfl⟩ ⟨Nat.zero_le _, Nat.zero_le _⟩ hP va_S.rf hl (fun pc v H1 locs1 ls1 hd hv hP1 hS1 => ?_)
  exact W.iret (v := v) B.exec B.bytes hr (fun t ht hW => ⟨⟨v, (), rfl, hv, by rw [ht]; exact hP1, va_K.moved hW.alike hK⟩, hS1.F ht⟩) hS1.2.2 hd
def q_in (a : Int32) (lo : Int32) (hi : Int32) : Int32 := if a < lo then (0 : Int32) else (if hi < a then (0 : Int32) else (1 : Int32))
set_option maxHeartbeats 4000000 in
set_option maxRecDepth 100000 in
theorem w_in {p : Program} {l : Launch} {e : Env} {R : Room} {s : State} {m : MethodId} {args : Array Value} {below : List Frame} {meth : Method} {c : Code} {H : Heap} {locs : List Loc} {cells slots : Nat} {Q : State → Prop} {D : va_G} {A : Nat → Prop} {cI cZ : ClassId} {h : Nat} {ls : Array Slot} (σ : St) (a : Int32) (lo : Int32) (hi : Int32) (E : (p.tables.exec = Jvm.exec ∧ c.code = cX6_in) ∧ (∀ w ∈ wsX6_in, w.before args s = true)) (hml : c.maxLocals = 3) (hA : ∀ i, i < 44 → A (h + i)) (hR : 0 ≤ R.frames ∧ 0 ≤ R.locals) (hf : cells ≤ R.cells ∧ slots ≤ R.slots) (hP : va_P D vwCl (mW cI cZ h σ) H) (hS : va_S A s.heap H locs) (hl : lv_has ls 3 [(0, .int a), (1, .int lo), (2, .int hi)]) (kr : ∀ (pc : Nat) (rv : Int32) (H1 : Heap) (locs1 : List Loc) (ls1 : Array Slot), decode cX6_in pc = .ok (.ireturn, 1) → rv = q_in a lo hi → va_P D vwCl (mW cI cZ h (σ)) H1 → va_S A s.heap H1 locs1 → W p l e R s m args below meth c H1 locs1 cells slots Q (F0 m pc ls1 [.int rv])) : W p l e R s m args below meth c H locs cells slots Q (F0 m 0 ls []) := by
  have hx := E.1.1
  have hb := E.1.2
  have hts := E.2
  have hq : q_in a lo hi = if a < lo then (0 : Int32) else (if hi < a then (0 : Int32) else (1 : Int32)) := rfl
  refine lv_iload_n hx hb dX6_in_0 rfl (lv_at hl 0 rfl) ?_
  refine lv_iload_n hx hb dX6_in_1 rfl (lv_at hl 1 rfl) ?_
  have J_1 : ∀ (y1_t0 : Int32) (H : Heap) (locs : List Loc) (ls : Array Slot), y1_t0 = (if a < lo then (0 : Int32) else (if hi < a then (0 : Int32) else (1 : Int32))) → va_P D vwCl (mW cI cZ h σ) H → va_S A s.heap H locs → lv_has ls 3 [(0, .int a), (1, .int lo), (2, .int hi)] → W p l e R s m args below meth c H locs cells slots Q (F0 m 15 ls [.int y1_t0]) := by
    intro y1_t0 H locs ls e_y1_t0 hP hS hl
    subst e_y1_t0
    exact kr _ (if a < lo then (0 : Int32) else (if hi < a then (0 : Int32) else (1 : Int32))) H locs ls dX6_in_15 hq.symm hP hS
  refine lv_icmp_lt (tgt := 14) hx hb dX6_in_2 (by decide) (fun c_1 => ?_) (fun c_1 => ?_)
  · refine lv_iconst (v := 0) hx hb dX6_in_14 (by decide) ?_
    exact J_1 (0 : Int32) H locs ls (if_pos c_1).symm hP hS (lv_sub hl [0, 1, 2] rfl)
  refine lv_iload_n hx hb dX6_in_5 rfl (lv_at hl 0 rfl) ?_
  refine lv_iload_n hx hb dX6_in_6 rfl (lv_at hl 2 rfl) ?_
  refine lv_icmp_gt (tgt := 14) hx hb dX6_in_7 (by decide) (fun c_2 => ?_) (fun c_2 => ?_)
  · refine lv_iconst (v := 0) hx hb dX6_in_14 (by decide) ?_
    exact J_1 (0 : Int32) H locs ls ((if_pos c_2).symm.trans (if_neg c_1).symm) hP hS (lv_sub hl [0, 1, 2] rfl)
  refine lv_iconst (v := 1) hx hb dX6_in_10 (by decide) ?_
  refine lv_goto (tgt := 15) hx hb dX6_in_11 (by decide) ?_
  exact J_1 (1 : Int32) H locs ls ((if_neg c_2).symm.trans (if_neg c_1).symm) hP hS (lv_sub hl [0, 1, 2] rfl)
theorem b_in (a : Int32) (lo : Int32) (hi : Int32) : isB (q_in a lo hi) := by
  unfold q_in;  repeat (first | exact isB0 | exact isB1 | apply isB_if)
set_option maxHeartbeats 4000000 in
set_option maxRecDepth 100000 in
theorem c_in (l : Launch) {D : va_G} {A : Nat → Prop} {cI cZ : ClassId} {h : Nat} (hA : ∀ i, i < 44 → A (h + i)) (σ : St) (a : Int32) (lo : Int32) (hi : Int32) : Met l yX6_in wsX6_in ({ frames := 0, cells := 0, slots := 0, locals := 0 }) (va_Pc [.int a, .int lo, .int hi] (mU D cI cZ h σ)) (va_Qi (fun r (_ : Unit) => r = q_in a lo hi) (fun _ t => mU D cI cZ h (σ) t) A) 0 0 A := by
  refine Met.ofW (cc := cX6_in) (maxL := 3) (ret := (some .boolean)) (by decide) rfl ?_
  intro p e s m args below meth c s₁ B hml hv
  obtain ⟨rfl, hP, hK⟩ := hv
  have E : (p.tables.exec = Jvm.exec ∧ c.code = cX6_in) ∧ (∀ w ∈ wsX6_in, w.before ([.int a, .int lo, .int hi] : List Value).toArray s = true) := ⟨⟨B.exec, B.bytes⟩, atoms_spec (ws := wsX6_in) B.pre⟩
  have hr := B.returns
  have hlocks := B.notSynchronized
  have hl := lv_entry ([.int a, .int lo, .int hi]) (n := 3) (Nat.le_of_ble_eq_true rfl)
  rw [lg_entry_eq]
  generalize (lg_sl ([.int a, .int lo, .int hi]) ++ List.replicate (3 - (lg_sl ([.int a, .int lo, .int hi])).length) Slot.unset).toArray = ls at hl ⊢
  refine w_in σ a lo hi E hml hA ⟨Nat.le_of_ble_eq_true rfl, Nat.le_of_ble_eq_true rfl⟩ ⟨Nat.zero_le _, Nat.zero_le _⟩ hP va_S.rf hl (fun pc v H1 locs1 ls1 hd hv hP1 hS1 => ?_)
  exact W.zret (v := v) B.exec B.bytes hr (by rw [hv]; exact isB_n (b_in a lo hi)) (fun t ht hW => ⟨⟨v, (), rfl, hv, by rw [ht]; exact hP1, va_K.moved hW.alike hK⟩, hS1.F ht⟩) hS1.2.2 hd
def q_refused (σ : St) (w : Int32) : Int32 := if w = 0 then (0 : Int32) else (1 : Int32)
def s_refused (σ : St) (w : Int32) : St := st σ 0 0 w
set_option maxHeartbeats 4000000 in
set_option maxRecDepth 100000 in
theorem w_refused {p : Program} {l : Launch} {e : Env} {R : Room} {s : State} {m : MethodId} {args : Array Value} {below : List Frame} {meth : Method} {c : Code} {H : Heap} {locs : List Loc} {cells slots : Nat} {Q : State → Prop} {D : va_G} {A : Nat → Prop} {cI cZ : ClassId} {h : Nat} {ls : Array Slot} (σ : St) (w : Int32) (E : mE p c cX6_refused s m args wsX6_refused D cI cZ) (hml : c.maxLocals = 2) (hA : ∀ i, i < 44 → A (h + i)) (hR : 0 ≤ R.frames ∧ 0 ≤ R.locals) (hf : cells ≤ R.cells ∧ slots ≤ R.slots) (hP : va_P D vwCl (mW cI cZ h σ) H) (hS : va_S A s.heap H locs) (hl : lv_has ls 2 [(0, .ref h), (1, .int w)]) (kr : ∀ (pc : Nat) (rv : Int32) (H1 : Heap) (locs1 : List Loc) (ls1 : Array Slot), decode cX6_refused pc = .ok (.ireturn, 1) → rv = q_refused σ w → va_P D vwCl (mW cI cZ h (s_refused σ w)) H1 → va_S A s.heap H1 locs1 → W p l e R s m args below meth c H1 locs1 cells slots Q (F0 m pc ls1 [.int rv])) : W p l e R s m args below meth c H locs cells slots Q (F0 m 0 ls []) := by
  have hx := E.1.1
  have hb := E.1.2
  have hts := E.2.1
  have hq : q_refused σ w = if w = 0 then (0 : Int32) else (1 : Int32) := rfl
  have hs : s_refused σ w = st σ 0 0 w := rfl
  refine lv_aload_n hx hb dX6_refused_0 rfl (lv_at hl 0 rfl) ?_
  refine lv_iload_n hx hb dX6_refused_1 rfl (lv_at hl 1 rfl) ?_
  refine mp_thrown E hP hA hS (by decide +kernel) dX6_refused_2 (fun H locs hP hS => ?_)
  refine lv_iload_n hx hb dX6_refused_5 rfl (lv_at hl 1 rfl) ?_
  have J_1 : ∀ (y1_t0 : Int32) (H : Heap) (locs : List Loc) (ls : Array Slot), y1_t0 = (if w = 0 then (0 : Int32) else (1 : Int32)) → va_P D vwCl (mW cI cZ h (st σ 0 0 w)) H → va_S A s.heap H locs → lv_has ls 2 [(0, .ref h), (1, .int w)] → W p l e R s m args below meth c H locs cells slots Q (F0 m 14 ls [.int y1_t0]) := by
    intro y1_t0 H locs ls e_y1_t0 hP hS hl
    subst e_y1_t0
    exact kr _ (if w = 0 then (0 : Int32) else (1 : Int32)) H locs ls dX6_refused_14 hq.symm (by rw [hs]; exact hP) hS
  refine lv_if_eq (tgt := 13) hx hb dX6_refused_6 (by decide) (fun c_1 => ?_) (fun c_1 => ?_)
  · refine lv_iconst (v := 0) hx hb dX6_refused_13 (by decide) ?_
    exact J_1 (0 : Int32) H locs ls (if_pos c_1).symm hP hS (lv_sub hl [0, 1] rfl)
  refine lv_iconst (v := 1) hx hb dX6_refused_9 (by decide) ?_
  refine lv_goto (tgt := 14) hx hb dX6_refused_10 (by decide) ?_
  exact J_1 (1 : Int32) H locs ls (if_neg c_1).symm hP hS (lv_sub hl [0, 1] rfl)
theorem b_refused (σ : St) (w : Int32) : isB (q_refused σ w) := by
  unfold q_refused;  repeat (first | exact isB0 | exact isB1 | apply isB_if)
set_option maxHeartbeats 4000000 in
set_option maxRecDepth 100000 in
theorem c_refused (l : Launch) {D : va_G} {A : Nat → Prop} {cI cZ : ClassId} {h : Nat} (hA : ∀ i, i < 44 → A (h + i)) (σ : St) (w : Int32) : Met l yX6_refused wsX6_refused ({ frames := 0, cells := 0, slots := 0, locals := 0 }) (va_Pc [.ref h, .int w] (mU D cI cZ h σ)) (va_Qi (fun r (_ : Unit) => r = q_refused σ w) (fun _ t => mU D cI cZ h (s_refused σ w) t) A) 0 0 A := by
  refine Met.ofW (cc := cX6_refused) (maxL := 2) (ret := (some .boolean)) (by decide) rfl ?_
  intro p e s m args below meth c s₁ B hml hv
  obtain ⟨rfl, hP, hK⟩ := hv
  have E : mE p c cX6_refused s m ([.ref h, .int w] : List Value).toArray wsX6_refused D cI cZ := ⟨⟨B.exec, B.bytes⟩, atoms_spec (ws := wsX6_refused) B.pre, (by decide +kernel), findClass_of_methodNamed B.named, hK⟩
  have hr := B.returns
  have hlocks := B.notSynchronized
  have hl := lv_entry ([.ref h, .int w]) (n := 2) (Nat.le_of_ble_eq_true rfl)
  rw [lg_entry_eq]
  generalize (lg_sl ([.ref h, .int w]) ++ List.replicate (2 - (lg_sl ([.ref h, .int w])).length) Slot.unset).toArray = ls at hl ⊢
  refine w_refused σ w E hml hA ⟨Nat.le_of_ble_eq_true rfl, Nat.le_of_ble_eq_true rfl⟩ ⟨Nat.zero_le _, Nat.zero_le _⟩ hP va_S.rf hl (fun pc v H1 locs1 ls1 hd hv hP1 hS1 => ?_)
  exact W.zret (v := v) B.exec B.bytes hr (by rw [hv]; exact isB_n (b_refused σ w)) (fun t ht hW => ⟨⟨v, (), rfl, hv, by rw [ht]; exact hP1, va_K.moved hW.alike hK⟩, hS1.F ht⟩) hS1.2.2 hd
def q_isPier (σ : St) (own : Int32) : Int32 := q_in own (0 : Int32) ((σ 2 0) - (1 : Int32))
set_option maxHeartbeats 4000000 in
set_option maxRecDepth 100000 in
theorem w_isPier {p : Program} {l : Launch} {e : Env} {R : Room} {s : State} {m : MethodId} {args : Array Value} {below : List Frame} {meth : Method} {c : Code} {H : Heap} {locs : List Loc} {cells slots : Nat} {Q : State → Prop} {D : va_G} {A : Nat → Prop} {cI cZ : ClassId} {h : Nat} {ls : Array Slot} (σ : St) (own : Int32) (E : mE p c cX6_isPier s m args wsX6_isPier D cI cZ) (hml : c.maxLocals = 2) (hA : ∀ i, i < 44 → A (h + i)) (hR : 1 ≤ R.frames ∧ 22 ≤ R.locals) (hf : cells ≤ R.cells ∧ slots ≤ R.slots) (hP : va_P D vwCl (mW cI cZ h σ) H) (hS : va_S A s.heap H locs) (hl : lv_has ls 2 [(0, .ref h), (1, .int own)]) (kr : ∀ (pc : Nat) (rv : Int32) (H1 : Heap) (locs1 : List Loc) (ls1 : Array Slot), decode cX6_isPier pc = .ok (.ireturn, 1) → rv = q_isPier σ own → va_P D vwCl (mW cI cZ h (σ)) H1 → va_S A s.heap H1 locs1 → W p l e R s m args below meth c H1 locs1 cells slots Q (F0 m pc ls1 [.int rv])) : W p l e R s m args below meth c H locs cells slots Q (F0 m 0 ls []) := by
  have hx := E.1.1
  have hb := E.1.2
  have hts := E.2.1
  have hq : q_isPier σ own = q_in own (0 : Int32) ((σ 2 0) - (1 : Int32)) := rfl
  refine lv_iload_n hx hb dX6_isPier_0 rfl (lv_at hl 1 rfl) ?_
  refine lv_iconst (v := 0) hx hb dX6_isPier_1 (by decide) ?_
  refine lv_aload_n hx hb dX6_isPier_2 rfl (lv_at hl 0 rfl) ?_
  refine mg_piers E hP (by decide +kernel) dX6_isPier_3 ?_
  refine lv_iconst (v := 1) hx hb dX6_isPier_6 (by decide) ?_
  refine lv_isub hx hb dX6_isPier_7 ?_
  refine mcS_i E hml hP hS (c_in l hA σ own (0 : Int32) ((σ 2 0) - (1 : Int32))) (va_cwS 3 hts gX6_isPier_X6_in rfl rfl rfl (by decide +kernel) ⟨Nat.le_trans (Nat.le_of_ble_eq_true rfl) hR.1, Nat.le_trans (Nat.le_of_ble_eq_true rfl) hR.2⟩) rfl hl.1 rfl (Nat.le_of_ble_eq_true rfl) dX6_isPier_8 hf (fun H locs hP hS => ?_)
  exact kr _ (q_in own (0 : Int32) ((σ 2 0) - (1 : Int32))) H locs ls dX6_isPier_11 hq.symm hP hS
theorem b_isPier (σ : St) (own : Int32) : isB (q_isPier σ own) := by
  exact b_in _ _ _
set_option maxHeartbeats 4000000 in
set_option maxRecDepth 100000 in
theorem c_isPier (l : Launch) {D : va_G} {A : Nat → Prop} {cI cZ : ClassId} {h : Nat} (hA : ∀ i, i < 44 → A (h + i)) (σ : St) (own : Int32) : Met l yX6_isPier wsX6_isPier ({ frames := 1, cells := 0, slots := 0, locals := 22 }) (va_Pc [.ref h, .int own] (mU D cI cZ h σ)) (va_Qi (fun r (_ : Unit) => r = q_isPier σ own) (fun _ t => mU D cI cZ h (σ) t) A) 0 0 A := by
  refine Met.ofW (cc := cX6_isPier) (maxL := 2) (ret := (some .boolean)) (by decide) rfl ?_
  intro p e s m args below meth c s₁ B hml hv
  obtain ⟨rfl, hP, hK⟩ := hv
  have E : mE p c cX6_isPier s m ([.ref h, .int own] : List Value).toArray wsX6_isPier D cI cZ := ⟨⟨B.exec, B.bytes⟩, atoms_spec (ws := wsX6_isPier) B.pre, (by decide +kernel), findClass_of_methodNamed B.named, hK⟩
  have hr := B.returns
  have hlocks := B.notSynchronized
  have hl := lv_entry ([.ref h, .int own]) (n := 2) (Nat.le_of_ble_eq_true rfl)
  rw [lg_entry_eq]
  generalize (lg_sl ([.ref h, .int own]) ++ List.replicate (2 - (lg_sl ([.ref h, .int own])).length) Slot.unset).toArray = ls at hl ⊢
  refine w_isPier σ own E hml hA ⟨Nat.le_of_ble_eq_true rfl, Nat.le_of_ble_eq_true rfl⟩ ⟨Nat.zero_le _, Nat.zero_le _⟩ hP va_S.rf hl (fun pc v H1 locs1 ls1 hd hv hP1 hS1 => ?_)
  exact W.zret (v := v) B.exec B.bytes hr (by rw [hv]; exact isB_n (b_isPier σ own)) (fun t ht hW => ⟨⟨v, (), rfl, hv, by rw [ht]; exact hP1, va_K.moved hW.alike hK⟩, hS1.F ht⟩) hS1.2.2 hd
def q_isBoat (σ : St) (own : Int32) : Int32 := q_in own (0 : Int32) ((σ 12 0) - (1 : Int32))
set_option maxHeartbeats 4000000 in
set_option maxRecDepth 100000 in
theorem w_isBoat {p : Program} {l : Launch} {e : Env} {R : Room} {s : State} {m : MethodId} {args : Array Value} {below : List Frame} {meth : Method} {c : Code} {H : Heap} {locs : List Loc} {cells slots : Nat} {Q : State → Prop} {D : va_G} {A : Nat → Prop} {cI cZ : ClassId} {h : Nat} {ls : Array Slot} (σ : St) (own : Int32) (E : mE p c cX6_isBoat s m args wsX6_isBoat D cI cZ) (hml : c.maxLocals = 2) (hA : ∀ i, i < 44 → A (h + i)) (hR : 1 ≤ R.frames ∧ 22 ≤ R.locals) (hf : cells ≤ R.cells ∧ slots ≤ R.slots) (hP : va_P D vwCl (mW cI cZ h σ) H) (hS : va_S A s.heap H locs) (hl : lv_has ls 2 [(0, .ref h), (1, .int own)]) (kr : ∀ (pc : Nat) (rv : Int32) (H1 : Heap) (locs1 : List Loc) (ls1 : Array Slot), decode cX6_isBoat pc = .ok (.ireturn, 1) → rv = q_isBoat σ own → va_P D vwCl (mW cI cZ h (σ)) H1 → va_S A s.heap H1 locs1 → W p l e R s m args below meth c H1 locs1 cells slots Q (F0 m pc ls1 [.int rv])) : W p l e R s m args below meth c H locs cells slots Q (F0 m 0 ls []) := by
  have hx := E.1.1
  have hb := E.1.2
  have hts := E.2.1
  have hq : q_isBoat σ own = q_in own (0 : Int32) ((σ 12 0) - (1 : Int32)) := rfl
  refine lv_iload_n hx hb dX6_isBoat_0 rfl (lv_at hl 1 rfl) ?_
  refine lv_iconst (v := 0) hx hb dX6_isBoat_1 (by decide) ?_
  refine lv_aload_n hx hb dX6_isBoat_2 rfl (lv_at hl 0 rfl) ?_
  refine mg_boats E hP (by decide +kernel) dX6_isBoat_3 ?_
  refine lv_iconst (v := 1) hx hb dX6_isBoat_6 (by decide) ?_
  refine lv_isub hx hb dX6_isBoat_7 ?_
  refine mcS_i E hml hP hS (c_in l hA σ own (0 : Int32) ((σ 12 0) - (1 : Int32))) (va_cwS 3 hts gX6_isBoat_X6_in rfl rfl rfl (by decide +kernel) ⟨Nat.le_trans (Nat.le_of_ble_eq_true rfl) hR.1, Nat.le_trans (Nat.le_of_ble_eq_true rfl) hR.2⟩) rfl hl.1 rfl (Nat.le_of_ble_eq_true rfl) dX6_isBoat_8 hf (fun H locs hP hS => ?_)
  exact kr _ (q_in own (0 : Int32) ((σ 12 0) - (1 : Int32))) H locs ls dX6_isBoat_11 hq.symm hP hS
theorem b_isBoat (σ : St) (own : Int32) : isB (q_isBoat σ own) := by
  exact b_in _ _ _
set_option maxHeartbeats 4000000 in
set_option maxRecDepth 100000 in
theorem c_isBoat (l : Launch) {D : va_G} {A : Nat → Prop} {cI cZ : ClassId} {h : Nat} (hA : ∀ i, i < 44 → A (h + i)) (σ : St) (own : Int32) : Met l yX6_isBoat wsX6_isBoat ({ frames := 1, cells := 0, slots := 0, locals := 22 }) (va_Pc [.ref h, .int own] (mU D cI cZ h σ)) (va_Qi (fun r (_ : Unit) => r = q_isBoat σ own) (fun _ t => mU D cI cZ h (σ) t) A) 0 0 A := by
  refine Met.ofW (cc := cX6_isBoat) (maxL := 2) (ret := (some .boolean)) (by decide) rfl ?_
  intro p e s m args below meth c s₁ B hml hv
  obtain ⟨rfl, hP, hK⟩ := hv
  have E : mE p c cX6_isBoat s m ([.ref h, .int own] : List Value).toArray wsX6_isBoat D cI cZ := ⟨⟨B.exec, B.bytes⟩, atoms_spec (ws := wsX6_isBoat) B.pre, (by decide +kernel), findClass_of_methodNamed B.named, hK⟩
  have hr := B.returns
  have hlocks := B.notSynchronized
  have hl := lv_entry ([.ref h, .int own]) (n := 2) (Nat.le_of_ble_eq_true rfl)
  rw [lg_entry_eq]
  generalize (lg_sl ([.ref h, .int own]) ++ List.replicate (2 - (lg_sl ([.ref h, .int own])).length) Slot.unset).toArray = ls at hl ⊢
  refine w_isBoat σ own E hml hA ⟨Nat.le_of_ble_eq_true rfl, Nat.le_of_ble_eq_true rfl⟩ ⟨Nat.zero_le _, Nat.zero_le _⟩ hP va_S.rf hl (fun pc v H1 locs1 ls1 hd hv hP1 hS1 => ?_)
  exact W.zret (v := v) B.exec B.bytes hr (by rw [hv]; exact isB_n (b_isBoat σ own)) (fun t ht hW => ⟨⟨v, (), rfl, hv, by rw [ht]; exact hP1, va_K.moved hW.alike hK⟩, hS1.F ht⟩) hS1.2.2 hd
def q_isSailing (σ : St) (own : Int32) : Int32 := q_in own (0 : Int32) ((σ 21 0) - (1 : Int32))
set_option maxHeartbeats 4000000 in
set_option maxRecDepth 100000 in
theorem w_isSailing {p : Program} {l : Launch} {e : Env} {R : Room} {s : State} {m : MethodId} {args : Array Value} {below : List Frame} {meth : Method} {c : Code} {H : Heap} {locs : List Loc} {cells slots : Nat} {Q : State → Prop} {D : va_G} {A : Nat → Prop} {cI cZ : ClassId} {h : Nat} {ls : Array Slot} (σ : St) (own : Int32) (E : mE p c cX6_isSailing s m args wsX6_isSailing D cI cZ) (hml : c.maxLocals = 2) (hA : ∀ i, i < 44 → A (h + i)) (hR : 1 ≤ R.frames ∧ 22 ≤ R.locals) (hf : cells ≤ R.cells ∧ slots ≤ R.slots) (hP : va_P D vwCl (mW cI cZ h σ) H) (hS : va_S A s.heap H locs) (hl : lv_has ls 2 [(0, .ref h), (1, .int own)]) (kr : ∀ (pc : Nat) (rv : Int32) (H1 : Heap) (locs1 : List Loc) (ls1 : Array Slot), decode cX6_isSailing pc = .ok (.ireturn, 1) → rv = q_isSailing σ own → va_P D vwCl (mW cI cZ h (σ)) H1 → va_S A s.heap H1 locs1 → W p l e R s m args below meth c H1 locs1 cells slots Q (F0 m pc ls1 [.int rv])) : W p l e R s m args below meth c H locs cells slots Q (F0 m 0 ls []) := by
  have hx := E.1.1
  have hb := E.1.2
  have hts := E.2.1
  have hq : q_isSailing σ own = q_in own (0 : Int32) ((σ 21 0) - (1 : Int32)) := rfl
  refine lv_iload_n hx hb dX6_isSailing_0 rfl (lv_at hl 1 rfl) ?_
  refine lv_iconst (v := 0) hx hb dX6_isSailing_1 (by decide) ?_
  refine lv_aload_n hx hb dX6_isSailing_2 rfl (lv_at hl 0 rfl) ?_
  refine mg_sailings E hP (by decide +kernel) dX6_isSailing_3 ?_
  refine lv_iconst (v := 1) hx hb dX6_isSailing_6 (by decide) ?_
  refine lv_isub hx hb dX6_isSailing_7 ?_
  refine mcS_i E hml hP hS (c_in l hA σ own (0 : Int32) ((σ 21 0) - (1 : Int32))) (va_cwS 3 hts gX6_isSailing_X6_in rfl rfl rfl (by decide +kernel) ⟨Nat.le_trans (Nat.le_of_ble_eq_true rfl) hR.1, Nat.le_trans (Nat.le_of_ble_eq_true rfl) hR.2⟩) rfl hl.1 rfl (Nat.le_of_ble_eq_true rfl) dX6_isSailing_8 hf (fun H locs hP hS => ?_)
  exact kr _ (q_in own (0 : Int32) ((σ 21 0) - (1 : Int32))) H locs ls dX6_isSailing_11 hq.symm hP hS
theorem b_isSailing (σ : St) (own : Int32) : isB (q_isSailing σ own) := by
  exact b_in _ _ _
set_option maxHeartbeats 4000000 in
set_option maxRecDepth 100000 in
theorem c_isSailing (l : Launch) {D : va_G} {A : Nat → Prop} {cI cZ : ClassId} {h : Nat} (hA : ∀ i, i < 44 → A (h + i)) (σ : St) (own : Int32) : Met l yX6_isSailing wsX6_isSailing ({ frames := 1, cells := 0, slots := 0, locals := 22 }) (va_Pc [.ref h, .int own] (mU D cI cZ h σ)) (va_Qi (fun r (_ : Unit) => r = q_isSailing σ own) (fun _ t => mU D cI cZ h (σ) t) A) 0 0 A := by
  refine Met.ofW (cc := cX6_isSailing) (maxL := 2) (ret := (some .boolean)) (by decide) rfl ?_
  intro p e s m args below meth c s₁ B hml hv
  obtain ⟨rfl, hP, hK⟩ := hv
  have E : mE p c cX6_isSailing s m ([.ref h, .int own] : List Value).toArray wsX6_isSailing D cI cZ := ⟨⟨B.exec, B.bytes⟩, atoms_spec (ws := wsX6_isSailing) B.pre, (by decide +kernel), findClass_of_methodNamed B.named, hK⟩
  have hr := B.returns
  have hlocks := B.notSynchronized
  have hl := lv_entry ([.ref h, .int own]) (n := 2) (Nat.le_of_ble_eq_true rfl)
  rw [lg_entry_eq]
  generalize (lg_sl ([.ref h, .int own]) ++ List.replicate (2 - (lg_sl ([.ref h, .int own])).length) Slot.unset).toArray = ls at hl ⊢
  refine w_isSailing σ own E hml hA ⟨Nat.le_of_ble_eq_true rfl, Nat.le_of_ble_eq_true rfl⟩ ⟨Nat.zero_le _, Nat.zero_le _⟩ hP va_S.rf hl (fun pc v H1 locs1 ls1 hd hv hP1 hS1 => ?_)
  exact W.zret (v := v) B.exec B.bytes hr (by rw [hv]; exact isB_n (b_isSailing σ own)) (fun t ht hW => ⟨⟨v, (), rfl, hv, by rw [ht]; exact hP1, va_K.moved hW.alike hK⟩, hS1.F ht⟩) hS1.2.2 hd
theorem MK_s_refused {σ : St} {w : Int32} (hI : MI σ) : MK σ (s_refused σ w) := MK_o (MK_refl hI) (by decide)
theorem rf0 {σ : St} {w : Int32} (c : (q_refused σ w) = 0) : w = 0 := by
  unfold q_refused at c
  by_cases hw : w = 0
  · exact hw
  · rw [if_neg hw] at c; exact absurd c (by decide)
theorem ifz {P k W : Int32} (hk : ¬ k = 0) (c : (if P = 0 then k else W) = 0) : ¬ P = 0 ∧ W = 0 := by
  by_cases hp : P = 0
  · rw [if_pos hp] at c; exact absurd c hk
  · rw [if_neg hp] at c; exact ⟨hp, c⟩
theorem rfp {σ : St} {P W : Int32} (c : (q_refused σ (if P = 0 then (1 : Int32) else W)) = 0) : ¬ P = 0 := (ifz (by decide) (rf0 c)).1
theorem ifa {P : Prop} {hd : Decidable P} {W : Int32} (c : ¬ (if P then (0 : Int32) else W) = 0) : ¬ P ∧ ¬ W = 0 := by
  by_cases hp : P
  · rw [if_pos hp] at c; exact absurd rfl c
  · rw [if_neg hp] at c; exact ⟨hp, c⟩
theorem in_in {x M : Int32} {C n : Nat} (hC : C ≤ n) (hn : n < 2 ^ 31) (e : M = nI C) (h : ¬ (q_in x (0 : Int32) (M - (1 : Int32))) = 0) : vp_in x n := by
  unfold q_in at h
  by_cases h1 : x < 0
  · rw [if_pos h1] at h; exact absurd rfl h
  · rw [if_neg h1] at h
    by_cases h2 : M - (1 : Int32) < x
    · rw [if_pos h2] at h; exact absurd rfl h
    · obtain ⟨j, hj, rfl⟩ := nI_of h1
      subst e
      rcases Nat.eq_zero_or_pos C with hc | hc
      · subst hc
        exfalso
        apply h2
        show (-1 : Int32) < nI j
        have := nI_toInt hj
        rw [Int32.lt_iff_toInt_lt, this]
        show (-1 : Int) < (j : Int)
        omega
      · obtain ⟨d, rfl⟩ : ∃ d, C = d + 1 := ⟨C - 1, by omega⟩
        rw [nI_pred] at h2
        refine vp_in_nI ?_ hn
        rcases Nat.lt_or_ge d j with q | q
        · exact absurd (nI_lt q hj) h2
        · omega
theorem isPier_in {σ : St} {x : Int32} (hI : MI σ) (h : ¬ (q_isPier σ x) = 0) : vp_in x 8 := by
  obtain ⟨C, hC, e⟩ := MI_n2 hI
  exact in_in hC (by omega) e h
theorem isBoat_in {σ : St} {x : Int32} (hI : MI σ) (h : ¬ (q_isBoat σ x) = 0) : vp_in x 6 := by
  obtain ⟨C, hC, e⟩ := MI_n12 hI
  exact in_in hC (by omega) e h
theorem isSailing_in {σ : St} {x : Int32} (hI : MI σ) (h : ¬ (q_isSailing σ x) = 0) : vp_in x 60 := by
  obtain ⟨C, hC, e⟩ := MI_n21 hI
  exact in_in hC (by omega) e h
theorem booking_in {σ : St} {x : Int32} (hI : MI σ) (h : ¬ (q_in x (0 : Int32) ((σ 34 0) - (1 : Int32))) = 0) : vp_in x 100 := by
  obtain ⟨C, hC, e⟩ := MI_n34 hI
  exact in_in hC (by omega) e h
theorem rng_in {x : Int32} {n : Nat} (hn : n < 2 ^ 31) (h : rng x n) (hx : ¬ x = nI n) : vp_in x n := by
  obtain ⟨k, hk, rfl⟩ := h
  refine vp_in_nI ?_ hn
  rcases Nat.lt_or_ge k n with q | q
  · exact q
  · exact absurd (by rw [show k = n by omega]) hx
