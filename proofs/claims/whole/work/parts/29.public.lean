/-! the public methods that may throw -/
def exN (c : Int32) : String := if c = 1 then "java/lang/IllegalArgumentException" else if c = 2 then "java/lang/IllegalStateException" else "java/lang/IndexOutOfBoundsException"
theorem num_in {x y : Int32} {n : Nat} (h : ¬ x < 0 ∧ x < y) (e : y = nI n) (hn : n < 2 ^ 31) : vp_in x n := by
  obtain ⟨j, hj, rfl⟩ := nI_of h.1
  refine vp_in_nI ?_ (by omega)
  rcases Nat.lt_or_ge j n with q | q
  · exact q
  · exact absurd (by rw [← e]; exact h.2) (nI_nlt q hj)
theorem cs_48 {cI cO : ClassId} {g : Gh} {cap N : Nat → Nat} {τ : St} {j : Nat} {v : Int32} (h3 : N 3 = 1) : ∀ k' n', lv N cap k' n' → ¬ (k' = 3 ∧ n' = 0) → cC cI cO g cap (st τ 48 j v) k' n' = cC cI cO g cap τ k' n' := by
  intro k n' hl hne
  obtain ⟨h9, hn, -⟩ := hl
  have h10 : k = 0 ∨ k = 1 ∨ k = 2 ∨ k = 3 ∨ k = 4 ∨ k = 5 ∨ k = 6 ∨ k = 7 ∨ k = 8 := by omega
  clear h9
  rcases h10 with rfl | rfl | rfl | rfl | rfl | rfl | rfl | rfl | rfl
  · rw [cC_0, cC_0, st_nf τ j v (f := 48) (g := 1) (by decide)]
  · rw [cC_1, cC_1, st_nf τ j v (f := 48) (g := 52) (by decide), st_nf τ j v (f := 48) (g := 54) (by decide)]
  · exact congrArg (fun z => (Sum.inl (cO, cap n', .inr (.inr (.inr (.inr z)))) : va_E)) (crow_st (by decide) (by decide) n')
  · exact absurd ⟨rfl, by omega⟩ hne
  · rw [cC_4, cC_4, st_nf τ j v (f := 48) (g := 3) (by decide), st_nf τ j v (f := 48) (g := 4) (by decide), st_nf τ j v (f := 48) (g := 5) (by decide), st_nf τ j v (f := 48) (g := 6) (by decide), st_nf τ j v (f := 48) (g := 7) (by decide), st_nf τ j v (f := 48) (g := 8) (by decide), st_nf τ j v (f := 48) (g := 9) (by decide), st_nf τ j v (f := 48) (g := 10) (by decide), st_nf τ j v (f := 48) (g := 11) (by decide)]
  · rw [cC_5, cC_5, st_nf τ j v (f := 48) (g := 13) (by decide), st_nf τ j v (f := 48) (g := 14) (by decide), st_nf τ j v (f := 48) (g := 15) (by decide), st_nf τ j v (f := 48) (g := 16) (by decide), st_nf τ j v (f := 48) (g := 17) (by decide), st_nf τ j v (f := 48) (g := 18) (by decide), st_nf τ j v (f := 48) (g := 19) (by decide), st_nf τ j v (f := 48) (g := 20) (by decide)]
  · rw [cC_6, cC_6, st_nf τ j v (f := 48) (g := 23) (by decide), st_nf τ j v (f := 48) (g := 24) (by decide), st_nf τ j v (f := 48) (g := 25) (by decide), st_nf τ j v (f := 48) (g := 26) (by decide), st_nf τ j v (f := 48) (g := 27) (by decide), st_nf τ j v (f := 48) (g := 28) (by decide), st_nf τ j v (f := 48) (g := 50) (by decide), st_nf τ j v (f := 48) (g := 51) (by decide), st_nf τ j v (f := 48) (g := 22) (by decide), st_nf τ j v (f := 48) (g := 29) (by decide), st_nf τ j v (f := 48) (g := 31) (by decide)]
  · rw [cC_7, cC_7, st_nf τ j v (f := 48) (g := 32) (by decide), st_nf τ j v (f := 48) (g := 33) (by decide)]
  · rw [cC_8, cC_8, st_nf τ j v (f := 48) (g := 55) (by decide), st_nf τ j v (f := 48) (g := 36) (by decide), st_nf τ j v (f := 48) (g := 37) (by decide), st_nf τ j v (f := 48) (g := 38) (by decide), st_nf τ j v (f := 48) (g := 39) (by decide), st_nf τ j v (f := 48) (g := 40) (by decide), st_nf τ j v (f := 48) (g := 41) (by decide), st_nf τ j v (f := 48) (g := 42) (by decide), st_nf τ j v (f := 48) (g := 35) (by decide), st_nf τ j v (f := 48) (g := 44) (by decide), st_nf τ j v (f := 48) (g := 43) (by decide), st_nf τ j v (f := 48) (g := 45) (by decide)]
section KX
variable {p : Program} {l : Launch} {e : Env} {R : Room} {s : State} {m : MethodId} {args : Array Value} {below : List Frame} {meth : Method} {c : Code} {H : Heap} {locs : List Loc} {cells slots : Nat} {Q : State → Prop}
variable {cc : ByteArray} {pc : Nat} {ls : Array Slot} {rest : List Value} {D : va_G} {A : Nat → Prop} {Ts : List Cond} {own : String} {cI cO : ClassId} {g : Gh} {cap N : Nat → Nat} {τ : St}
theorem kxS {exc : String} {cnd : Prop} {y : MethodName} {ws : List Cond} {rm : Room} {bytes : ByteArray} {maxL nL n index : Nat} {ret : Option FieldType} {As st0 : List Value} (E : kE p c cc s m args Ts own D cI cO) (hml : c.maxLocals = nL) (hX : cX A s) (hP : cP D cI cO A g cap N τ H) (hS : va_S A s.heap H locs) (ct : vx_Met l y ws rm (va_Pc As (cUX D cI cO A g cap N τ)) (va_Qv (fun (_ : Unit) => cnd) (fun _ t => cU D cI cO A g cap N τ t) A) (vx_X (fun (_ : Unit) => ¬ cnd) (fun E _ t => E = exc ∧ cU D cI cO A g cap N τ t) A) 1 6 A) (cw : CallB R s args own index y bytes maxL ret ws rm 1 6 n ∧ (Cond.static y).before args s = true) (hn : As.length = n) (hsz : ls.size = nL) (hst : st0 = As.reverse ++ rest) (hW : (rest.map fun v => v.category).sum ≤ 8) (hdg : decode cc pc = .ok (.invokestatic index, 3)) (hf : cells + 1 ≤ R.cells ∧ slots + 6 ≤ R.slots)
    (kx : ¬ cnd → ∀ (q9 : Addr) (ce : Cell) (H1 : Heap) (locs1 : List Loc), cP D cI cO A g cap N τ H1 → va_S A s.heap H1 locs1 → H1[q9]? = some ce → ce.vm = .none → s.vm.findClass exc = some ce.cls → vx_W p l e R s m args below meth c H1 locs1 (cells + 1) (slots + 6) Q (F0 m pc ls rest) q9)
    (kk : cnd → ∀ (H1 : Heap) (locs1 : List Loc), cP D cI cO A g cap N τ H1 → va_S A s.heap H1 locs1 → W p l e R s m args below meth c H1 locs1 (cells + 1) (slots + 6) Q (F0 m (pc + 3) ls rest)) : W p l e R s m args below meth c H locs cells slots Q (F0 m pc ls st0) := by
  refine vx_callv (vx_runS (As := As) (rest := rest) ⟨E.1.1, E.1.2, hml, E.2.2.1, E.2.1⟩ ct cw ⟨xBl, fun U hU hW => ⟨rfl, ⟨by rw [hU]; exact hP, va_K.moved hW.alike E.2.2.2⟩, cX_at hX hS hU hW⟩⟩ rfl hn hsz hst (lv_room hW) hdg hf) hS (fun _ _ q => q) (fun _ q => q) (fun _ _ q => q) ?_ ?_
  · intro E9 ce q9 u t H1 locs1 ht hvm hpx hBX hz hk hS1 hce hcv hcl
    obtain ⟨rfl, hB⟩ := hBX
    exact kx hpx q9 ce H1 locs1 (by rw [← ht]; exact hB.1) hS1 hce hcv hcl
  · intro u t H1 locs1 ht hvm hw hB hz hk hS1
    exact kk hw H1 locs1 (by rw [← ht]; exact hB.1) hS1
theorem kg_rates_st {H0 : Heap} (E : kE p c cc s m args Ts own D cI cO) (hP : cP D cI cO A g cap N τ H) (hS : va_S A H0 H locs) (h3 : N 3 = 1) {i x : Int32} (hin : vp_in i 3) (hdg : decode cc pc = .ok (.iastore, 1)) (kk : ∀ (H1 : Heap) (locs1 : List Loc), cP D cI cO A g cap N (st τ 48 i.toNatClampNeg x) H1 → va_S A H0 H1 locs1 → W p l e R s m args below meth c H1 locs1 cells slots Q (F0 m (pc + 1) ls rest)) : W p l e R s m args below meth c H locs cells slots Q (F0 m pc ls (.int x :: .int i :: .ref (g 3 0) :: rest)) := by
  have hlv : lv N cap 3 0 := ⟨by decide, by omega, fun z => absurd z (by decide)⟩
  refine W.iast E.1.1 E.1.2 (hP.1 3 0 hlv).1 ((E.2.2.2.2 0 _ rfl).1 3 (fun j => .int (τ 48 j))) (fun q => by cases q) (by show ¬ (i < 0 ∨ (arrV _ _ _).slots.size ≤ _); rw [arrV_size]; exact hin) rfl rfl hdg fun H1 e z oq => ?_
  refine kk H1 _ (cP_set hP hlv ?_ oq (cs_48 h3)) (hS.put z oq (hP.1 3 0 hlv).2)
  have e9 : st τ 48 i.toNatClampNeg x 48 = upd (τ 48) i.toNatClampNeg x := by
    funext q
    by_cases hq : q = i.toNatClampNeg <;> simp [st, upd, hq]
  rw [cC_3, e9]
  show H1[g 3 0]? = some (vp_cell _ _)
  rw [e]
  rw [vp_cell_i, vp_cell_i, arrV_store]
  congr 2
  funext q
  by_cases hq : q = i.toNatClampNeg
  · subst hq
    simp [updV, upd]
  · simp [updV, upd, hq]
end KX
def q_X5_rate (σ : St) (kind : Int32) (cents : Int32) : Int32 := if ¬ kind < 0 ∧ kind < (3 : Int32) then (if ¬ cents < (0 : Int32) ∧ cents ≤ (10000 : Int32) then (σ 48 kind.toNatClampNeg) else (0 : Int32)) else (0 : Int32)
def s_X5_rate (σ : St) (kind : Int32) (cents : Int32) : St := if ¬ kind < 0 ∧ kind < (3 : Int32) then (if ¬ cents < (0 : Int32) ∧ cents ≤ (10000 : Int32) then (st σ 48 kind.toNatClampNeg cents) else σ) else σ
def t_X5_rate (σ : St) (kind : Int32) (cents : Int32) : Int32 := if ¬ kind < 0 ∧ kind < (3 : Int32) then (if ¬ cents < (0 : Int32) ∧ cents ≤ (10000 : Int32) then (0 : Int32) else (1 : Int32)) else (3 : Int32)
set_option maxHeartbeats 1000000 in
set_option maxRecDepth 100000 in
theorem w_X5_rate {p : Program} {l : Launch} {e : Env} {R : Room} {s : State} {m : MethodId} {args : Array Value} {below : List Frame} {meth : Method} {c : Code} {H : Heap} {locs : List Loc} {Qc : Array Value → State → Outcome → State → Prop} {XC : String → State → State → Prop} {D : va_G} {A : Nat → Prop} {cI cO : ClassId} {g : Gh} {cap N : Nat → Nat} {ls : Array Slot} (hst : l.stackTraces = false) (σ : St) (kind : Int32) (cents : Int32) (hI : KI cap N σ) (E : kE p c cX5_rate s m args wsX5_rate RX5 D cI cO) (hml : c.maxLocals = 4) (hR : 7 ≤ R.frames ∧ 104 ≤ R.locals) (hfm : 2 ≤ R.cells ∧ 12 ≤ R.slots) (hlocks : meth.locks = false) (htab : ∀ x ∈ c.exceptionTable.toList, False) (hX : cX A s) (hP : cP D cI cO A g cap N σ H) (hS : va_S A s.heap H locs) (hl : lv_has ls 4 [(0, .ref (g 0 0)), (1, .int kind), (2, .int cents)]) (kr : ∀ (pc : Nat) (rv : Int32) (H1 : Heap) (locs1 : List Loc) (ls1 : Array Slot), decode cX5_rate pc = .ok (.ireturn, 1) → rv = q_X5_rate σ kind cents → t_X5_rate σ kind cents = 0 → cP D cI cO A g cap N (s_X5_rate σ kind cents) H1 → va_S A s.heap H1 locs1 → W p l e R s m args below meth c H1 locs1 2 12 (vx_MQ below Qc XC args s 2 12 A) (F0 m pc ls1 [.int rv])) (kt : ∀ (E9 : String) (t9 : State), E9 = exN (t_X5_rate σ kind cents) → ¬ t_X5_rate σ kind cents = 0 → s.vm.Alike t9.vm → cP D cI cO A g cap N (s_X5_rate σ kind cents) t9.heap → va_F A s t9 → XC E9 s t9) : W p l e R s m args below meth c H locs 0 0 (vx_MQ below Qc XC args s 2 12 A) (F0 m 0 ls []) := by
  have hx := E.1.1
  have hb := E.1.2
  have hts := E.2.1
  obtain ⟨n0, n4, n5, n6, n8, n7, n1, n2, n3⟩ := id hI.1
  have i_X5 : ∀ w ∈ wsX50, w ∈ wsX5_rate := by decide +kernel
  have hq : q_X5_rate σ kind cents = if ¬ kind < 0 ∧ kind < (3 : Int32) then (if ¬ cents < (0 : Int32) ∧ cents ≤ (10000 : Int32) then (σ 48 kind.toNatClampNeg) else (0 : Int32)) else (0 : Int32) := rfl
  have hs : s_X5_rate σ kind cents = if ¬ kind < 0 ∧ kind < (3 : Int32) then (if ¬ cents < (0 : Int32) ∧ cents ≤ (10000 : Int32) then (st σ 48 kind.toNatClampNeg cents) else σ) else σ := rfl
  have ht : t_X5_rate σ kind cents = if ¬ kind < 0 ∧ kind < (3 : Int32) then (if ¬ cents < (0 : Int32) ∧ cents ≤ (10000 : Int32) then (0 : Int32) else (1 : Int32)) else (3 : Int32) := rfl
  have hf : 0 ≤ R.cells ∧ 0 ≤ R.slots := ⟨Nat.zero_le _, Nat.zero_le _⟩
  refine lv_iload_n hx hb dX5_rate_0 rfl (lv_at hl 1 rfl) ?_
  refine lv_aload_n hx hb dX5_rate_1 rfl (lv_at hl 0 rfl) ?_
  refine cg_X5_rates E i_X5 hP (by omega) (by decide +kernel) dX5_rate_2 ?_
  refine kg_rates_len E hP n3 dX5_rate_5 ?_
  refine kxS E hml hX hP hS (c_X5_needNumber l hst σ kind (3 : Int32)) (va_cwS 2 hts gX5_rate_X5_needNumber rfl rfl rfl (by decide +kernel) ⟨Nat.le_trans (Nat.le_of_ble_eq_true rfl) hR.1, Nat.le_trans (Nat.le_of_ble_eq_true rfl) hR.2⟩) rfl hl.1 rfl (Nat.le_of_ble_eq_true rfl) dX5_rate_6 ⟨Nat.le_trans (Nat.le_of_ble_eq_true rfl) hfm.1, Nat.le_trans (Nat.le_of_ble_eq_true rfl) hfm.2⟩ (fun c_1 => ?_) (fun c_1 => ?_)
  · have hq := hq.trans (if_neg c_1)
    have hs := hs.trans (if_neg c_1)
    have ht := ht.trans (if_neg c_1)
    intro q9 ce H locs hP hS hce hcv hcl
    exact vx_out (fun x hx => (htab x hx).elim) hlocks hce hcv hcl (fun t9 ht9 hW9 => kt _ t9 (by rw [ht]; rfl) (by rw [ht]; decide) hW9 (by rw [ht9, hs]; exact hP) (hS.F ht9)) hS.2.2 (Nat.le_of_ble_eq_true rfl) (Nat.le_of_ble_eq_true rfl)
  have hq := hq.trans (if_pos c_1)
  have hs := hs.trans (if_pos c_1)
  have ht := ht.trans (if_pos c_1)
  intro H locs hP hS
  have hf : 0 + 1 ≤ R.cells ∧ 0 + 6 ≤ R.slots := ⟨Nat.le_trans (Nat.le_of_ble_eq_true rfl) hfm.1, Nat.le_trans (Nat.le_of_ble_eq_true rfl) hfm.2⟩
  refine lv_iload_n hx hb dX5_rate_9 rfl (lv_at hl 2 rfl) ?_
  refine lv_iconst (v := 0) hx hb dX5_rate_10 (by decide) ?_
  refine lv_sipush (v := 10000) hx hb dX5_rate_11 (by decide) ?_
  refine kxS E hml hX hP hS (c_X5_needWithin l hst σ cents (0 : Int32) (10000 : Int32)) (va_cwS 3 hts gX5_rate_X5_needWithin rfl rfl rfl (by decide +kernel) ⟨Nat.le_trans (Nat.le_of_ble_eq_true rfl) hR.1, Nat.le_trans (Nat.le_of_ble_eq_true rfl) hR.2⟩) rfl hl.1 rfl (Nat.le_of_ble_eq_true rfl) dX5_rate_14 ⟨Nat.le_trans (Nat.le_of_ble_eq_true rfl) hfm.1, Nat.le_trans (Nat.le_of_ble_eq_true rfl) hfm.2⟩ (fun c_2 => ?_) (fun c_2 => ?_)
  · have hq := hq.trans (if_neg c_2)
    have hs := hs.trans (if_neg c_2)
    have ht := ht.trans (if_neg c_2)
    intro q9 ce H locs hP hS hce hcv hcl
    exact vx_out (fun x hx => (htab x hx).elim) hlocks hce hcv hcl (fun t9 ht9 hW9 => kt _ t9 (by rw [ht]; rfl) (by rw [ht]; decide) hW9 (by rw [ht9, hs]; exact hP) (hS.F ht9)) hS.2.2 (Nat.le_of_ble_eq_true rfl) (Nat.le_of_ble_eq_true rfl)
  have hq := hq.trans (if_pos c_2)
  have hs := hs.trans (if_pos c_2)
  have ht := ht.trans (if_pos c_2)
  intro H locs hP hS
  have hf : 0 + 1 + 1 ≤ R.cells ∧ 0 + 6 + 6 ≤ R.slots := ⟨Nat.le_trans (Nat.le_of_ble_eq_true rfl) hfm.1, Nat.le_trans (Nat.le_of_ble_eq_true rfl) hfm.2⟩
  refine lv_aload_n hx hb dX5_rate_17 rfl (lv_at hl 0 rfl) ?_
  refine cg_X5_rates E i_X5 hP (by omega) (by decide +kernel) dX5_rate_18 ?_
  refine lv_iload_n hx hb dX5_rate_21 rfl (lv_at hl 1 rfl) ?_
  refine kg_rates_ld E hP n3 (num_in c_1 (n := 3) rfl (by decide)) dX5_rate_22 ?_
  refine lv_istore_n (lv' := [(3, .int (σ 48 kind.toNatClampNeg)), (0, .ref (g 0 0)), (1, .int kind), (2, .int cents)]) hx hb dX5_rate_23 rfl hl (by decide) rfl (fun ls hl => ?_)
  refine lv_aload_n hx hb dX5_rate_24 rfl (lv_at hl 1 rfl) ?_
  refine cg_X5_rates E i_X5 hP (by omega) (by decide +kernel) dX5_rate_25 ?_
  refine lv_iload_n hx hb dX5_rate_28 rfl (lv_at hl 2 rfl) ?_
  refine lv_iload_n hx hb dX5_rate_29 rfl (lv_at hl 3 rfl) ?_
  refine kg_rates_st E hP hS n3 (num_in c_1 (n := 3) rfl (by decide)) dX5_rate_30 (fun H locs hP hS => ?_)
  refine lv_iload_n hx hb dX5_rate_31 rfl (lv_at hl 0 rfl) ?_
  exact W.widen (k := 2) (n := 12) (Nat.le_of_ble_eq_true rfl) (Nat.le_of_ble_eq_true rfl) (kr _ (σ 48 kind.toNatClampNeg) H locs ls dX5_rate_32 hq.symm ht (by rw [hs]; exact hP) hS)
set_option maxHeartbeats 4000000 in
set_option maxRecDepth 100000 in
theorem c_X5_rate (l : Launch) (hst : l.stackTraces = false) {D : va_G} {A : Nat → Prop} {cI cO : ClassId} {g : Gh} {cap N : Nat → Nat} (σ : St) (kind : Int32) (cents : Int32) (hI : KI cap N σ) : vx_Met l yX5_rate wsX5_rate ({ frames := 7, cells := 2, slots := 12, locals := 104 }) (va_Pc [.ref (g 0 0), .int kind, .int cents] (cUX D cI cO A g cap N σ)) (va_Qi (fun r (_ : Unit) => r = q_X5_rate σ kind cents ∧ t_X5_rate σ kind cents = 0) (fun _ t => cU D cI cO A g cap N (s_X5_rate σ kind cents) t) A) (vx_X (fun (_ : Unit) => ¬ t_X5_rate σ kind cents = 0) (fun E _ t => E = exN (t_X5_rate σ kind cents) ∧ cU D cI cO A g cap N (s_X5_rate σ kind cents) t) A) 2 12 A := by
  refine vx_ofW (cc := cX5_rate) (maxL := 4) (ret := (some .int)) (by decide) rfl ?_
  intro p e s m args below meth c s₁ B hml htab hv
  obtain ⟨rfl, ⟨hP, hK⟩, hX⟩ := hv
  have E : kE p c cX5_rate s m ([.ref (g 0 0), .int kind, .int cents] : List Value).toArray wsX5_rate RX5 D cI cO := ⟨⟨B.exec, B.bytes⟩, atoms_spec (ws := wsX5_rate) B.pre, findClass_of_methodNamed B.named, hK⟩
  have hr := B.returns
  have hlocks := B.notSynchronized
  have hl := lv_entry ([.ref (g 0 0), .int kind, .int cents]) (n := 4) (Nat.le_of_ble_eq_true rfl)
  rw [lg_entry_eq]
  generalize (lg_sl ([.ref (g 0 0), .int kind, .int cents]) ++ List.replicate (4 - (lg_sl ([.ref (g 0 0), .int kind, .int cents])).length) Slot.unset).toArray = ls at hl ⊢
  refine w_X5_rate hst σ kind cents hI E hml ⟨Nat.le_of_ble_eq_true rfl, Nat.le_of_ble_eq_true rfl⟩ ⟨Nat.le_refl _, Nat.le_refl _⟩ hlocks htab hX hP va_S.rf hl (fun pc v H1 locs1 ls1 hd hv h0 hP1 hS1 => ?_) (fun E9 t9 h1 h2 hW9 hP9 hF9 => ⟨(), h2, ⟨h1, hP9, va_K.moved hW9 hK⟩, hF9⟩)
  exact vx_ret (W.iret (v := v) B.exec B.bytes hr (fun t ht hW => ⟨⟨v, (), rfl, ⟨hv, h0⟩, by rw [ht]; exact hP1, va_K.moved hW.alike hK⟩, hS1.F ht⟩) hS1.2.2 hd)
def q_X5_swell (σ : St) (pier : Int32) (sw : Int32) : Int32 := if ¬ pier < 0 ∧ pier < (σ 54 0) then (if ¬ sw < (0 : Int32) ∧ sw ≤ (9 : Int32) then (σ 7 pier.toNatClampNeg) else (0 : Int32)) else (0 : Int32)
def s_X5_swell (σ : St) (pier : Int32) (sw : Int32) : St := if ¬ pier < 0 ∧ pier < (σ 54 0) then (if ¬ sw < (0 : Int32) ∧ sw ≤ (9 : Int32) then (st σ 7 pier.toNatClampNeg sw) else σ) else σ
def t_X5_swell (σ : St) (pier : Int32) (sw : Int32) : Int32 := if ¬ pier < 0 ∧ pier < (σ 54 0) then (if ¬ sw < (0 : Int32) ∧ sw ≤ (9 : Int32) then (0 : Int32) else (1 : Int32)) else (3 : Int32)
set_option maxHeartbeats 1000000 in
set_option maxRecDepth 100000 in
theorem w_X5_swell {p : Program} {l : Launch} {e : Env} {R : Room} {s : State} {m : MethodId} {args : Array Value} {below : List Frame} {meth : Method} {c : Code} {H : Heap} {locs : List Loc} {Qc : Array Value → State → Outcome → State → Prop} {XC : String → State → State → Prop} {D : va_G} {A : Nat → Prop} {cI cO : ClassId} {g : Gh} {cap N : Nat → Nat} {ls : Array Slot} (hst : l.stackTraces = false) (σ : St) (pier : Int32) (sw : Int32) (hI : KI cap N σ) (E : kE p c cX5_swell s m args wsX5_swell RX5 D cI cO) (hml : c.maxLocals = 5) (hR : 7 ≤ R.frames ∧ 104 ≤ R.locals) (hfm : 2 ≤ R.cells ∧ 12 ≤ R.slots) (hlocks : meth.locks = false) (htab : ∀ x ∈ c.exceptionTable.toList, False) (hX : cX A s) (hP : cP D cI cO A g cap N σ H) (hS : va_S A s.heap H locs) (hl : lv_has ls 5 [(0, .ref (g 0 0)), (1, .int pier), (2, .int sw)]) (kr : ∀ (pc : Nat) (rv : Int32) (H1 : Heap) (locs1 : List Loc) (ls1 : Array Slot), decode cX5_swell pc = .ok (.ireturn, 1) → rv = q_X5_swell σ pier sw → t_X5_swell σ pier sw = 0 → cP D cI cO A g cap N (s_X5_swell σ pier sw) H1 → va_S A s.heap H1 locs1 → W p l e R s m args below meth c H1 locs1 2 12 (vx_MQ below Qc XC args s 2 12 A) (F0 m pc ls1 [.int rv])) (kt : ∀ (E9 : String) (t9 : State), E9 = exN (t_X5_swell σ pier sw) → ¬ t_X5_swell σ pier sw = 0 → s.vm.Alike t9.vm → cP D cI cO A g cap N (s_X5_swell σ pier sw) t9.heap → va_F A s t9 → XC E9 s t9) : W p l e R s m args below meth c H locs 0 0 (vx_MQ below Qc XC args s 2 12 A) (F0 m 0 ls []) := by
  have hx := E.1.1
  have hb := E.1.2
  have hts := E.2.1
  obtain ⟨n0, n4, n5, n6, n8, n7, n1, n2, n3⟩ := id hI.1
  have i_X2 : ∀ w ∈ wsX20, w ∈ wsX5_swell := by decide +kernel
  have i_X5 : ∀ w ∈ wsX50, w ∈ wsX5_swell := by decide +kernel
  have hq : q_X5_swell σ pier sw = if ¬ pier < 0 ∧ pier < (σ 54 0) then (if ¬ sw < (0 : Int32) ∧ sw ≤ (9 : Int32) then (σ 7 pier.toNatClampNeg) else (0 : Int32)) else (0 : Int32) := rfl
  have hs : s_X5_swell σ pier sw = if ¬ pier < 0 ∧ pier < (σ 54 0) then (if ¬ sw < (0 : Int32) ∧ sw ≤ (9 : Int32) then (st σ 7 pier.toNatClampNeg sw) else σ) else σ := rfl
  have ht : t_X5_swell σ pier sw = if ¬ pier < 0 ∧ pier < (σ 54 0) then (if ¬ sw < (0 : Int32) ∧ sw ≤ (9 : Int32) then (0 : Int32) else (1 : Int32)) else (3 : Int32) := rfl
  have hf : 0 ≤ R.cells ∧ 0 ≤ R.slots := ⟨Nat.zero_le _, Nat.zero_le _⟩
  refine lv_iload_n hx hb dX5_swell_0 rfl (lv_at hl 1 rfl) ?_
  refine lv_aload_n hx hb dX5_swell_1 rfl (lv_at hl 0 rfl) ?_
  refine cg_X5_piers E i_X5 hP (by omega) (by decide +kernel) dX5_swell_2 ?_
  refine kcV_i E hml hP hS (kr_1 E.2.2.2 hP ⟨by decide, by omega, fun z => absurd z (by decide)⟩) (c_AL_size l σ 0 ⟨by decide, by omega, fun z => absurd z (by decide)⟩) (cwV 0 hts gX5_swell_Jx4a65c_size_8abf5 rfl rfl rfl (by decide +kernel) ⟨Nat.le_trans (Nat.le_of_ble_eq_true rfl) hR.1, Nat.le_trans (Nat.le_of_ble_eq_true rfl) hR.2⟩) rfl hl.1 rfl (Nat.le_of_ble_eq_true rfl) dX5_swell_5 hf (fun H locs hP hS => ?_)
  refine kxS E hml hX hP hS (c_X5_needNumber l hst σ pier (σ 54 0)) (va_cwS 2 hts gX5_swell_X5_needNumber rfl rfl rfl (by decide +kernel) ⟨Nat.le_trans (Nat.le_of_ble_eq_true rfl) hR.1, Nat.le_trans (Nat.le_of_ble_eq_true rfl) hR.2⟩) rfl hl.1 rfl (Nat.le_of_ble_eq_true rfl) dX5_swell_8 ⟨Nat.le_trans (Nat.le_of_ble_eq_true rfl) hfm.1, Nat.le_trans (Nat.le_of_ble_eq_true rfl) hfm.2⟩ (fun c_1 => ?_) (fun c_1 => ?_)
  · have hq := hq.trans (if_neg c_1)
    have hs := hs.trans (if_neg c_1)
    have ht := ht.trans (if_neg c_1)
    intro q9 ce H locs hP hS hce hcv hcl
    exact vx_out (fun x hx => (htab x hx).elim) hlocks hce hcv hcl (fun t9 ht9 hW9 => kt _ t9 (by rw [ht]; rfl) (by rw [ht]; decide) hW9 (by rw [ht9, hs]; exact hP) (hS.F ht9)) hS.2.2 (Nat.le_of_ble_eq_true rfl) (Nat.le_of_ble_eq_true rfl)
  have hq := hq.trans (if_pos c_1)
  have hs := hs.trans (if_pos c_1)
  have ht := ht.trans (if_pos c_1)
  intro H locs hP hS
  have hf : 0 + 1 ≤ R.cells ∧ 0 + 6 ≤ R.slots := ⟨Nat.le_trans (Nat.le_of_ble_eq_true rfl) hfm.1, Nat.le_trans (Nat.le_of_ble_eq_true rfl) hfm.2⟩
  refine lv_iload_n hx hb dX5_swell_11 rfl (lv_at hl 2 rfl) ?_
  refine lv_iconst (v := 0) hx hb dX5_swell_12 (by decide) ?_
  refine lv_bipush (v := 9) hx hb dX5_swell_13 (by decide) ?_
  refine kxS E hml hX hP hS (c_X5_needWithin l hst σ sw (0 : Int32) (9 : Int32)) (va_cwS 3 hts gX5_swell_X5_needWithin rfl rfl rfl (by decide +kernel) ⟨Nat.le_trans (Nat.le_of_ble_eq_true rfl) hR.1, Nat.le_trans (Nat.le_of_ble_eq_true rfl) hR.2⟩) rfl hl.1 rfl (Nat.le_of_ble_eq_true rfl) dX5_swell_15 ⟨Nat.le_trans (Nat.le_of_ble_eq_true rfl) hfm.1, Nat.le_trans (Nat.le_of_ble_eq_true rfl) hfm.2⟩ (fun c_2 => ?_) (fun c_2 => ?_)
  · have hq := hq.trans (if_neg c_2)
    have hs := hs.trans (if_neg c_2)
    have ht := ht.trans (if_neg c_2)
    intro q9 ce H locs hP hS hce hcv hcl
    exact vx_out (fun x hx => (htab x hx).elim) hlocks hce hcv hcl (fun t9 ht9 hW9 => kt _ t9 (by rw [ht]; rfl) (by rw [ht]; decide) hW9 (by rw [ht9, hs]; exact hP) (hS.F ht9)) hS.2.2 (Nat.le_of_ble_eq_true rfl) (Nat.le_of_ble_eq_true rfl)
  have hq := hq.trans (if_pos c_2)
  have hs := hs.trans (if_pos c_2)
  have ht := ht.trans (if_pos c_2)
  intro H locs hP hS
  have hf : 0 + 1 + 1 ≤ R.cells ∧ 0 + 6 + 6 ≤ R.slots := ⟨Nat.le_trans (Nat.le_of_ble_eq_true rfl) hfm.1, Nat.le_trans (Nat.le_of_ble_eq_true rfl) hfm.2⟩
  refine lv_aload_n hx hb dX5_swell_18 rfl (lv_at hl 0 rfl) ?_
  refine cg_X5_piers E i_X5 hP (by omega) (by decide +kernel) dX5_swell_19 ?_
  refine lv_iload_n hx hb dX5_swell_22 rfl (lv_at hl 1 rfl) ?_
  refine kcV_r (v := g 4 pier.toNatClampNeg) E hml hP hS (kr_1 E.2.2.2 hP ⟨by decide, by omega, fun z => absurd z (by decide)⟩) (c_AL_get l σ 0 pier ⟨by decide, by omega, fun z => absurd z (by decide)⟩ n2 (hI.2.2.2.2.2 _ (by omega)) (by rw [hI.2.1.1, nI_clamp (by omega)]; exact (num_in c_1 hI.2.1.1 (by omega)))) (cwV 1 hts gX5_swell_Jx4a65c_get_915e3 rfl rfl rfl (by decide +kernel) ⟨Nat.le_trans (Nat.le_of_ble_eq_true rfl) hR.1, Nat.le_trans (Nat.le_of_ble_eq_true rfl) hR.2⟩) rfl hl.1 rfl (Nat.le_of_ble_eq_true rfl) dX5_swell_23 hf (fun H locs hP hS => ?_)
  refine kcast E (E.2.2.2.1 5 _ rfl).2 (kr_4 E.2.2.2 hP ⟨by decide, vp_lt (num_in c_1 hI.2.1.1 (by omega)), fun z => absurd z (by decide)⟩) (by decide +kernel) dX5_swell_26 ?_
  refine lv_astore_n (lv' := [(3, .ref (g 4 pier.toNatClampNeg)), (0, .ref (g 0 0)), (1, .int pier), (2, .int sw)]) hx hb dX5_swell_29 rfl hl (by decide) rfl (fun ls hl => ?_)
  refine lv_aload_n hx hb dX5_swell_30 rfl (lv_at hl 0 rfl) ?_
  refine cg_X2_swell E i_X2 hP (num_in c_1 hI.2.1.1 (by omega)) (by decide +kernel) dX5_swell_31 ?_
  refine lv_istore (lv' := [(4, .int (σ 7 pier.toNatClampNeg)), (3, .ref (g 4 pier.toNatClampNeg)), (0, .ref (g 0 0)), (1, .int pier), (2, .int sw)]) hx hb dX5_swell_34 hl (by decide) rfl (fun ls hl => ?_)
  refine lv_aload_n hx hb dX5_swell_36 rfl (lv_at hl 1 rfl) ?_
  refine lv_iload_n hx hb dX5_swell_37 rfl (lv_at hl 4 rfl) ?_
  refine cp_X2_swell E i_X2 hP hS (num_in c_1 hI.2.1.1 (by omega)) (by decide +kernel) dX5_swell_38 (fun H locs hP hS => ?_)
  refine lv_iload hx hb dX5_swell_41 (lv_at hl 0 rfl) ?_
  exact W.widen (k := 2) (n := 12) (Nat.le_of_ble_eq_true rfl) (Nat.le_of_ble_eq_true rfl) (kr _ (σ 7 pier.toNatClampNeg) H locs ls dX5_swell_43 hq.symm ht (by rw [hs]; exact hP) hS)
set_option maxHeartbeats 4000000 in
set_option maxRecDepth 100000 in
theorem c_X5_swell (l : Launch) (hst : l.stackTraces = false) {D : va_G} {A : Nat → Prop} {cI cO : ClassId} {g : Gh} {cap N : Nat → Nat} (σ : St) (pier : Int32) (sw : Int32) (hI : KI cap N σ) : vx_Met l yX5_swell wsX5_swell ({ frames := 7, cells := 2, slots := 12, locals := 104 }) (va_Pc [.ref (g 0 0), .int pier, .int sw] (cUX D cI cO A g cap N σ)) (va_Qi (fun r (_ : Unit) => r = q_X5_swell σ pier sw ∧ t_X5_swell σ pier sw = 0) (fun _ t => cU D cI cO A g cap N (s_X5_swell σ pier sw) t) A) (vx_X (fun (_ : Unit) => ¬ t_X5_swell σ pier sw = 0) (fun E _ t => E = exN (t_X5_swell σ pier sw) ∧ cU D cI cO A g cap N (s_X5_swell σ pier sw) t) A) 2 12 A := by
  refine vx_ofW (cc := cX5_swell) (maxL := 5) (ret := (some .int)) (by decide) rfl ?_
  intro p e s m args below meth c s₁ B hml htab hv
  obtain ⟨rfl, ⟨hP, hK⟩, hX⟩ := hv
  have E : kE p c cX5_swell s m ([.ref (g 0 0), .int pier, .int sw] : List Value).toArray wsX5_swell RX5 D cI cO := ⟨⟨B.exec, B.bytes⟩, atoms_spec (ws := wsX5_swell) B.pre, findClass_of_methodNamed B.named, hK⟩
  have hr := B.returns
  have hlocks := B.notSynchronized
  have hl := lv_entry ([.ref (g 0 0), .int pier, .int sw]) (n := 5) (Nat.le_of_ble_eq_true rfl)
  rw [lg_entry_eq]
  generalize (lg_sl ([.ref (g 0 0), .int pier, .int sw]) ++ List.replicate (5 - (lg_sl ([.ref (g 0 0), .int pier, .int sw])).length) Slot.unset).toArray = ls at hl ⊢
  refine w_X5_swell hst σ pier sw hI E hml ⟨Nat.le_of_ble_eq_true rfl, Nat.le_of_ble_eq_true rfl⟩ ⟨Nat.le_refl _, Nat.le_refl _⟩ hlocks htab hX hP va_S.rf hl (fun pc v H1 locs1 ls1 hd hv h0 hP1 hS1 => ?_) (fun E9 t9 h1 h2 hW9 hP9 hF9 => ⟨(), h2, ⟨h1, hP9, va_K.moved hW9 hK⟩, hF9⟩)
  exact vx_ret (W.iret (v := v) B.exec B.bytes hr (fun t ht hW => ⟨⟨v, (), rfl, ⟨hv, h0⟩, by rw [ht]; exact hP1, va_K.moved hW.alike hK⟩, hS1.F ht⟩) hS1.2.2 hd)
def q_X5_breakDown (σ : St) (boat : Int32) : Int32 := if ¬ boat < 0 ∧ boat < (σ 54 1) then ((st σ 20 boat.toNatClampNeg (if (σ 20 boat.toNatClampNeg) = 0 then (1 : Int32) else (0 : Int32))) 20 boat.toNatClampNeg) else (0 : Int32)
def s_X5_breakDown (σ : St) (boat : Int32) : St := if ¬ boat < 0 ∧ boat < (σ 54 1) then (st σ 20 boat.toNatClampNeg (if (σ 20 boat.toNatClampNeg) = 0 then (1 : Int32) else (0 : Int32))) else σ
def t_X5_breakDown (σ : St) (boat : Int32) : Int32 := if ¬ boat < 0 ∧ boat < (σ 54 1) then (0 : Int32) else (3 : Int32)
set_option maxHeartbeats 1000000 in
set_option maxRecDepth 100000 in
theorem w_X5_breakDown {p : Program} {l : Launch} {e : Env} {R : Room} {s : State} {m : MethodId} {args : Array Value} {below : List Frame} {meth : Method} {c : Code} {H : Heap} {locs : List Loc} {Qc : Array Value → State → Outcome → State → Prop} {XC : String → State → State → Prop} {D : va_G} {A : Nat → Prop} {cI cO : ClassId} {g : Gh} {cap N : Nat → Nat} {ls : Array Slot} (hst : l.stackTraces = false) (σ : St) (boat : Int32) (hI : KI cap N σ) (E : kE p c cX5_breakDown s m args wsX5_breakDown RX5 D cI cO) (hml : c.maxLocals = 3) (hR : 7 ≤ R.frames ∧ 103 ≤ R.locals) (hfm : 1 ≤ R.cells ∧ 6 ≤ R.slots) (hlocks : meth.locks = false) (htab : ∀ x ∈ c.exceptionTable.toList, False) (hX : cX A s) (hP : cP D cI cO A g cap N σ H) (hS : va_S A s.heap H locs) (hl : lv_has ls 3 [(0, .ref (g 0 0)), (1, .int boat)]) (kr : ∀ (pc : Nat) (rv : Int32) (H1 : Heap) (locs1 : List Loc) (ls1 : Array Slot), decode cX5_breakDown pc = .ok (.ireturn, 1) → rv = q_X5_breakDown σ boat → t_X5_breakDown σ boat = 0 → cP D cI cO A g cap N (s_X5_breakDown σ boat) H1 → va_S A s.heap H1 locs1 → W p l e R s m args below meth c H1 locs1 1 6 (vx_MQ below Qc XC args s 1 6 A) (F0 m pc ls1 [.int rv])) (kt : ∀ (E9 : String) (t9 : State), E9 = exN (t_X5_breakDown σ boat) → ¬ t_X5_breakDown σ boat = 0 → s.vm.Alike t9.vm → cP D cI cO A g cap N (s_X5_breakDown σ boat) t9.heap → va_F A s t9 → XC E9 s t9) : W p l e R s m args below meth c H locs 0 0 (vx_MQ below Qc XC args s 1 6 A) (F0 m 0 ls []) := by
  have hx := E.1.1
  have hb := E.1.2
  have hts := E.2.1
  obtain ⟨n0, n4, n5, n6, n8, n7, n1, n2, n3⟩ := id hI.1
  have i_X0 : ∀ w ∈ wsX00, w ∈ wsX5_breakDown := by decide +kernel
  have i_X5 : ∀ w ∈ wsX50, w ∈ wsX5_breakDown := by decide +kernel
  have hq : q_X5_breakDown σ boat = if ¬ boat < 0 ∧ boat < (σ 54 1) then ((st σ 20 boat.toNatClampNeg (if (σ 20 boat.toNatClampNeg) = 0 then (1 : Int32) else (0 : Int32))) 20 boat.toNatClampNeg) else (0 : Int32) := rfl
  have hs : s_X5_breakDown σ boat = if ¬ boat < 0 ∧ boat < (σ 54 1) then (st σ 20 boat.toNatClampNeg (if (σ 20 boat.toNatClampNeg) = 0 then (1 : Int32) else (0 : Int32))) else σ := rfl
  have ht : t_X5_breakDown σ boat = if ¬ boat < 0 ∧ boat < (σ 54 1) then (0 : Int32) else (3 : Int32) := rfl
  have hf : 0 ≤ R.cells ∧ 0 ≤ R.slots := ⟨Nat.zero_le _, Nat.zero_le _⟩
  refine lv_iload_n hx hb dX5_breakDown_0 rfl (lv_at hl 1 rfl) ?_
  refine lv_aload_n hx hb dX5_breakDown_1 rfl (lv_at hl 0 rfl) ?_
  refine cg_X5_boats E i_X5 hP (by omega) (by decide +kernel) dX5_breakDown_2 ?_
  refine kcV_i E hml hP hS (kr_1 E.2.2.2 hP ⟨by decide, by omega, fun z => absurd z (by decide)⟩) (c_AL_size l σ 1 ⟨by decide, by omega, fun z => absurd z (by decide)⟩) (cwV 0 hts gX5_breakDown_Jx4a65c_size_8abf5 rfl rfl rfl (by decide +kernel) ⟨Nat.le_trans (Nat.le_of_ble_eq_true rfl) hR.1, Nat.le_trans (Nat.le_of_ble_eq_true rfl) hR.2⟩) rfl hl.1 rfl (Nat.le_of_ble_eq_true rfl) dX5_breakDown_5 hf (fun H locs hP hS => ?_)
  refine kxS E hml hX hP hS (c_X5_needNumber l hst σ boat (σ 54 1)) (va_cwS 2 hts gX5_breakDown_X5_needNumber rfl rfl rfl (by decide +kernel) ⟨Nat.le_trans (Nat.le_of_ble_eq_true rfl) hR.1, Nat.le_trans (Nat.le_of_ble_eq_true rfl) hR.2⟩) rfl hl.1 rfl (Nat.le_of_ble_eq_true rfl) dX5_breakDown_8 ⟨Nat.le_trans (Nat.le_of_ble_eq_true rfl) hfm.1, Nat.le_trans (Nat.le_of_ble_eq_true rfl) hfm.2⟩ (fun c_1 => ?_) (fun c_1 => ?_)
  · have hq := hq.trans (if_neg c_1)
    have hs := hs.trans (if_neg c_1)
    have ht := ht.trans (if_neg c_1)
    intro q9 ce H locs hP hS hce hcv hcl
    exact vx_out (fun x hx => (htab x hx).elim) hlocks hce hcv hcl (fun t9 ht9 hW9 => kt _ t9 (by rw [ht]; rfl) (by rw [ht]; decide) hW9 (by rw [ht9, hs]; exact hP) (hS.F ht9)) hS.2.2 (Nat.le_of_ble_eq_true rfl) (Nat.le_of_ble_eq_true rfl)
  have hq := hq.trans (if_pos c_1)
  have hs := hs.trans (if_pos c_1)
  have ht := ht.trans (if_pos c_1)
  intro H locs hP hS
  have hf : 0 + 1 ≤ R.cells ∧ 0 + 6 ≤ R.slots := ⟨Nat.le_trans (Nat.le_of_ble_eq_true rfl) hfm.1, Nat.le_trans (Nat.le_of_ble_eq_true rfl) hfm.2⟩
  refine lv_aload_n hx hb dX5_breakDown_11 rfl (lv_at hl 0 rfl) ?_
  refine cg_X5_boats E i_X5 hP (by omega) (by decide +kernel) dX5_breakDown_12 ?_
  refine lv_iload_n hx hb dX5_breakDown_15 rfl (lv_at hl 1 rfl) ?_
  refine kcV_r (v := g 5 boat.toNatClampNeg) E hml hP hS (kr_1 E.2.2.2 hP ⟨by decide, by omega, fun z => absurd z (by decide)⟩) (c_AL_get l σ 1 boat ⟨by decide, by omega, fun z => absurd z (by decide)⟩ n2 (hI.2.2.2.2.2 _ (by omega)) (by rw [hI.2.1.2.1, nI_clamp (by omega)]; exact (num_in c_1 hI.2.1.2.1 (by omega)))) (cwV 1 hts gX5_breakDown_Jx4a65c_get_915e3 rfl rfl rfl (by decide +kernel) ⟨Nat.le_trans (Nat.le_of_ble_eq_true rfl) hR.1, Nat.le_trans (Nat.le_of_ble_eq_true rfl) hR.2⟩) rfl hl.1 rfl (Nat.le_of_ble_eq_true rfl) dX5_breakDown_16 hf (fun H locs hP hS => ?_)
  refine kcast E (E.2.2.2.1 3 _ rfl).2 (kr_5 E.2.2.2 hP ⟨by decide, vp_lt (num_in c_1 hI.2.1.2.1 (by omega)), fun z => absurd z (by decide)⟩) (by decide +kernel) dX5_breakDown_19 ?_
  refine lv_astore_n (lv' := [(2, .ref (g 5 boat.toNatClampNeg)), (0, .ref (g 0 0)), (1, .int boat)]) hx hb dX5_breakDown_22 rfl hl (by decide) rfl (fun ls hl => ?_)
  refine lv_aload_n hx hb dX5_breakDown_23 rfl (lv_at hl 0 rfl) ?_
  refine lv_aload_n hx hb dX5_breakDown_24 rfl (lv_at hl 0 rfl) ?_
  refine cg_X0_isBroken E i_X0 hP (num_in c_1 hI.2.1.2.1 (by omega)) (by decide +kernel) dX5_breakDown_25 ?_
  have J_2 : ∀ (y2_t0 : Int32) (H : Heap) (locs : List Loc) (ls : Array Slot), y2_t0 = (if (σ 20 boat.toNatClampNeg) = 0 then (1 : Int32) else (0 : Int32)) → cP D cI cO A g cap N σ H → va_S A s.heap H locs → lv_has ls 3 [(2, .ref (g 5 boat.toNatClampNeg)), (0, .ref (g 0 0)), (1, .int boat)] → W p l e R s m args below meth c H locs (0 + 1) (0 + 6) (vx_MQ below Qc XC args s 1 6 A) (F0 m 36 ls [.int y2_t0, .ref (g 5 boat.toNatClampNeg)]) := by
    intro y2_t0 H locs ls e_y2_t0 hP hS hl
    subst e_y2_t0
    refine cp_X0_isBroken E i_X0 hP hS (num_in c_1 hI.2.1.2.1 (by omega)) (isB_n (isB_if isB1 isB0)) (isB_f (isB_if isB1 isB0)) (by decide +kernel) dX5_breakDown_36 (fun H locs hP hS => ?_)
    refine lv_aload_n hx hb dX5_breakDown_39 rfl (lv_at hl 0 rfl) ?_
    refine cg_X0_isBroken E i_X0 hP (num_in c_1 hI.2.1.2.1 (by omega)) (by decide +kernel) dX5_breakDown_40 ?_
    exact W.widen (k := 1) (n := 6) (Nat.le_of_ble_eq_true rfl) (Nat.le_of_ble_eq_true rfl) (kr _ ((st σ 20 boat.toNatClampNeg (if (σ 20 boat.toNatClampNeg) = 0 then (1 : Int32) else (0 : Int32))) 20 boat.toNatClampNeg) H locs ls dX5_breakDown_43 hq.symm ht (by rw [hs]; exact hP) hS)
  refine lv_if_ne (tgt := 35) hx hb dX5_breakDown_28 (by decide) (fun c_2 => ?_) (fun c_2 => ?_)
  · refine lv_iconst (v := 0) hx hb dX5_breakDown_35 (by decide) ?_
    exact J_2 (0 : Int32) H locs ls (if_neg c_2).symm hP hS (lv_sub hl [0, 1, 2] rfl)
  refine lv_iconst (v := 1) hx hb dX5_breakDown_31 (by decide) ?_
  refine lv_goto (tgt := 36) hx hb dX5_breakDown_32 (by decide) ?_
  exact J_2 (1 : Int32) H locs ls (if_pos c_2).symm hP hS (lv_sub hl [0, 1, 2] rfl)
theorem b_X5_breakDown (σ : St) (boat : Int32) {cap N : Nat → Nat} (hI : KI cap N σ) : isB (q_X5_breakDown σ boat) := by
  unfold q_X5_breakDown; repeat (first | exact isB0 | exact isB1 | exact (hI.2.2.2.2.1 _).1 | apply isB_if)
set_option maxHeartbeats 4000000 in
set_option maxRecDepth 100000 in
theorem c_X5_breakDown (l : Launch) (hst : l.stackTraces = false) {D : va_G} {A : Nat → Prop} {cI cO : ClassId} {g : Gh} {cap N : Nat → Nat} (σ : St) (boat : Int32) (hI : KI cap N σ) : vx_Met l yX5_breakDown wsX5_breakDown ({ frames := 7, cells := 1, slots := 6, locals := 103 }) (va_Pc [.ref (g 0 0), .int boat] (cUX D cI cO A g cap N σ)) (va_Qi (fun r (_ : Unit) => r = q_X5_breakDown σ boat ∧ t_X5_breakDown σ boat = 0) (fun _ t => cU D cI cO A g cap N (s_X5_breakDown σ boat) t) A) (vx_X (fun (_ : Unit) => ¬ t_X5_breakDown σ boat = 0) (fun E _ t => E = exN (t_X5_breakDown σ boat) ∧ cU D cI cO A g cap N (s_X5_breakDown σ boat) t) A) 1 6 A := by
  refine vx_ofW (cc := cX5_breakDown) (maxL := 3) (ret := (some .boolean)) (by decide) rfl ?_
  intro p e s m args below meth c s₁ B hml htab hv
  obtain ⟨rfl, ⟨hP, hK⟩, hX⟩ := hv
  have E : kE p c cX5_breakDown s m ([.ref (g 0 0), .int boat] : List Value).toArray wsX5_breakDown RX5 D cI cO := ⟨⟨B.exec, B.bytes⟩, atoms_spec (ws := wsX5_breakDown) B.pre, findClass_of_methodNamed B.named, hK⟩
  have hr := B.returns
  have hlocks := B.notSynchronized
  have hl := lv_entry ([.ref (g 0 0), .int boat]) (n := 3) (Nat.le_of_ble_eq_true rfl)
  rw [lg_entry_eq]
  generalize (lg_sl ([.ref (g 0 0), .int boat]) ++ List.replicate (3 - (lg_sl ([.ref (g 0 0), .int boat])).length) Slot.unset).toArray = ls at hl ⊢
  refine w_X5_breakDown hst σ boat hI E hml ⟨Nat.le_of_ble_eq_true rfl, Nat.le_of_ble_eq_true rfl⟩ ⟨Nat.le_refl _, Nat.le_refl _⟩ hlocks htab hX hP va_S.rf hl (fun pc v H1 locs1 ls1 hd hv h0 hP1 hS1 => ?_) (fun E9 t9 h1 h2 hW9 hP9 hF9 => ⟨(), h2, ⟨h1, hP9, va_K.moved hW9 hK⟩, hF9⟩)
  exact vx_ret (W.zret (v := v) B.exec B.bytes hr (by rw [hv]; exact isB_n (b_X5_breakDown σ boat hI)) (fun t ht hW => ⟨⟨v, (), rfl, ⟨hv, h0⟩, by rw [ht]; exact hP1, va_K.moved hW.alike hK⟩, hS1.F ht⟩) hS1.2.2 hd)
def q_X5_tide (σ : St) (pier : Int32) (minute : Int32) : Int32 := if ¬ pier < 0 ∧ pier < (σ 54 0) then (if ¬ minute < (0 : Int32) ∧ minute ≤ (1000000 : Int32) then (q_X2_tideAt σ pier minute) else (0 : Int32)) else (0 : Int32)
def t_X5_tide (σ : St) (pier : Int32) (minute : Int32) : Int32 := if ¬ pier < 0 ∧ pier < (σ 54 0) then (if ¬ minute < (0 : Int32) ∧ minute ≤ (1000000 : Int32) then (0 : Int32) else (1 : Int32)) else (3 : Int32)
set_option maxHeartbeats 1000000 in
set_option maxRecDepth 100000 in
theorem w_X5_tide {p : Program} {l : Launch} {e : Env} {R : Room} {s : State} {m : MethodId} {args : Array Value} {below : List Frame} {meth : Method} {c : Code} {H : Heap} {locs : List Loc} {Qc : Array Value → State → Outcome → State → Prop} {XC : String → State → State → Prop} {D : va_G} {A : Nat → Prop} {cI cO : ClassId} {g : Gh} {cap N : Nat → Nat} {ls : Array Slot} (hst : l.stackTraces = false) (σ : St) (pier : Int32) (minute : Int32) (hI : KI cap N σ) (E : kE p c cX5_tide s m args wsX5_tide RX5 D cI cO) (hml : c.maxLocals = 3) (hR : 7 ≤ R.frames ∧ 104 ≤ R.locals) (hfm : 2 ≤ R.cells ∧ 12 ≤ R.slots) (hlocks : meth.locks = false) (htab : ∀ x ∈ c.exceptionTable.toList, False) (hX : cX A s) (hP : cP D cI cO A g cap N σ H) (hS : va_S A s.heap H locs) (hl : lv_has ls 3 [(0, .ref (g 0 0)), (1, .int pier), (2, .int minute)]) (kr : ∀ (pc : Nat) (rv : Int32) (H1 : Heap) (locs1 : List Loc) (ls1 : Array Slot), decode cX5_tide pc = .ok (.ireturn, 1) → rv = q_X5_tide σ pier minute → t_X5_tide σ pier minute = 0 → cP D cI cO A g cap N σ H1 → va_S A s.heap H1 locs1 → W p l e R s m args below meth c H1 locs1 2 12 (vx_MQ below Qc XC args s 2 12 A) (F0 m pc ls1 [.int rv])) (kt : ∀ (E9 : String) (t9 : State), E9 = exN (t_X5_tide σ pier minute) → ¬ t_X5_tide σ pier minute = 0 → s.vm.Alike t9.vm → cP D cI cO A g cap N σ t9.heap → va_F A s t9 → XC E9 s t9) : W p l e R s m args below meth c H locs 0 0 (vx_MQ below Qc XC args s 2 12 A) (F0 m 0 ls []) := by
  have hx := E.1.1
  have hb := E.1.2
  have hts := E.2.1
  obtain ⟨n0, n4, n5, n6, n8, n7, n1, n2, n3⟩ := id hI.1
  have i_X5 : ∀ w ∈ wsX50, w ∈ wsX5_tide := by decide +kernel
  have hq : q_X5_tide σ pier minute = if ¬ pier < 0 ∧ pier < (σ 54 0) then (if ¬ minute < (0 : Int32) ∧ minute ≤ (1000000 : Int32) then (q_X2_tideAt σ pier minute) else (0 : Int32)) else (0 : Int32) := rfl
  have ht : t_X5_tide σ pier minute = if ¬ pier < 0 ∧ pier < (σ 54 0) then (if ¬ minute < (0 : Int32) ∧ minute ≤ (1000000 : Int32) then (0 : Int32) else (1 : Int32)) else (3 : Int32) := rfl
  have hf : 0 ≤ R.cells ∧ 0 ≤ R.slots := ⟨Nat.zero_le _, Nat.zero_le _⟩
  refine lv_iload_n hx hb dX5_tide_0 rfl (lv_at hl 1 rfl) ?_
  refine lv_aload_n hx hb dX5_tide_1 rfl (lv_at hl 0 rfl) ?_
  refine cg_X5_piers E i_X5 hP (by omega) (by decide +kernel) dX5_tide_2 ?_
  refine kcV_i E hml hP hS (kr_1 E.2.2.2 hP ⟨by decide, by omega, fun z => absurd z (by decide)⟩) (c_AL_size l σ 0 ⟨by decide, by omega, fun z => absurd z (by decide)⟩) (cwV 0 hts gX5_tide_Jx4a65c_size_8abf5 rfl rfl rfl (by decide +kernel) ⟨Nat.le_trans (Nat.le_of_ble_eq_true rfl) hR.1, Nat.le_trans (Nat.le_of_ble_eq_true rfl) hR.2⟩) rfl hl.1 rfl (Nat.le_of_ble_eq_true rfl) dX5_tide_5 hf (fun H locs hP hS => ?_)
  refine kxS E hml hX hP hS (c_X5_needNumber l hst σ pier (σ 54 0)) (va_cwS 2 hts gX5_tide_X5_needNumber rfl rfl rfl (by decide +kernel) ⟨Nat.le_trans (Nat.le_of_ble_eq_true rfl) hR.1, Nat.le_trans (Nat.le_of_ble_eq_true rfl) hR.2⟩) rfl hl.1 rfl (Nat.le_of_ble_eq_true rfl) dX5_tide_8 ⟨Nat.le_trans (Nat.le_of_ble_eq_true rfl) hfm.1, Nat.le_trans (Nat.le_of_ble_eq_true rfl) hfm.2⟩ (fun c_1 => ?_) (fun c_1 => ?_)
  · have hq := hq.trans (if_neg c_1)
    have ht := ht.trans (if_neg c_1)
    intro q9 ce H locs hP hS hce hcv hcl
    exact vx_out (fun x hx => (htab x hx).elim) hlocks hce hcv hcl (fun t9 ht9 hW9 => kt _ t9 (by rw [ht]; rfl) (by rw [ht]; decide) hW9 (by rw [ht9]; exact hP) (hS.F ht9)) hS.2.2 (Nat.le_of_ble_eq_true rfl) (Nat.le_of_ble_eq_true rfl)
  have hq := hq.trans (if_pos c_1)
  have ht := ht.trans (if_pos c_1)
  intro H locs hP hS
  have hf : 0 + 1 ≤ R.cells ∧ 0 + 6 ≤ R.slots := ⟨Nat.le_trans (Nat.le_of_ble_eq_true rfl) hfm.1, Nat.le_trans (Nat.le_of_ble_eq_true rfl) hfm.2⟩
  refine lv_iload_n hx hb dX5_tide_11 rfl (lv_at hl 2 rfl) ?_
  refine lv_iconst (v := 0) hx hb dX5_tide_12 (by decide) ?_
  refine lv_ldc (v := 1000000) hx hb E.2.2.1 (E.2.1 (.constant RX5 125 (1000000)) (by decide +kernel)) dX5_tide_13 ?_
  refine kxS E hml hX hP hS (c_X5_needWithin l hst σ minute (0 : Int32) (1000000 : Int32)) (va_cwS 3 hts gX5_tide_X5_needWithin rfl rfl rfl (by decide +kernel) ⟨Nat.le_trans (Nat.le_of_ble_eq_true rfl) hR.1, Nat.le_trans (Nat.le_of_ble_eq_true rfl) hR.2⟩) rfl hl.1 rfl (Nat.le_of_ble_eq_true rfl) dX5_tide_15 ⟨Nat.le_trans (Nat.le_of_ble_eq_true rfl) hfm.1, Nat.le_trans (Nat.le_of_ble_eq_true rfl) hfm.2⟩ (fun c_2 => ?_) (fun c_2 => ?_)
  · have hq := hq.trans (if_neg c_2)
    have ht := ht.trans (if_neg c_2)
    intro q9 ce H locs hP hS hce hcv hcl
    exact vx_out (fun x hx => (htab x hx).elim) hlocks hce hcv hcl (fun t9 ht9 hW9 => kt _ t9 (by rw [ht]; rfl) (by rw [ht]; decide) hW9 (by rw [ht9]; exact hP) (hS.F ht9)) hS.2.2 (Nat.le_of_ble_eq_true rfl) (Nat.le_of_ble_eq_true rfl)
  have hq := hq.trans (if_pos c_2)
  have ht := ht.trans (if_pos c_2)
  intro H locs hP hS
  have hf : 0 + 1 + 1 ≤ R.cells ∧ 0 + 6 + 6 ≤ R.slots := ⟨Nat.le_trans (Nat.le_of_ble_eq_true rfl) hfm.1, Nat.le_trans (Nat.le_of_ble_eq_true rfl) hfm.2⟩
  refine lv_aload_n hx hb dX5_tide_18 rfl (lv_at hl 0 rfl) ?_
  refine cg_X5_piers E i_X5 hP (by omega) (by decide +kernel) dX5_tide_19 ?_
  refine lv_iload_n hx hb dX5_tide_22 rfl (lv_at hl 1 rfl) ?_
  refine kcV_r (v := g 4 pier.toNatClampNeg) E hml hP hS (kr_1 E.2.2.2 hP ⟨by decide, by omega, fun z => absurd z (by decide)⟩) (c_AL_get l σ 0 pier ⟨by decide, by omega, fun z => absurd z (by decide)⟩ n2 (hI.2.2.2.2.2 _ (by omega)) (by rw [hI.2.1.1, nI_clamp (by omega)]; exact (num_in c_1 hI.2.1.1 (by omega)))) (cwV 1 hts gX5_tide_Jx4a65c_get_915e3 rfl rfl rfl (by decide +kernel) ⟨Nat.le_trans (Nat.le_of_ble_eq_true rfl) hR.1, Nat.le_trans (Nat.le_of_ble_eq_true rfl) hR.2⟩) rfl hl.1 rfl (Nat.le_of_ble_eq_true rfl) dX5_tide_23 hf (fun H locs hP hS => ?_)
  refine kcast E (E.2.2.2.1 5 _ rfl).2 (kr_4 E.2.2.2 hP ⟨by decide, vp_lt (num_in c_1 hI.2.1.1 (by omega)), fun z => absurd z (by decide)⟩) (by decide +kernel) dX5_tide_26 ?_
  refine lv_iload_n hx hb dX5_tide_29 rfl (lv_at hl 2 rfl) ?_
  refine kcV_i E hml hP hS (kr_4 E.2.2.2 hP ⟨by decide, vp_lt (num_in c_1 hI.2.1.1 (by omega)), fun z => absurd z (by decide)⟩) (c_X2_tideAt l σ pier minute hI (num_in c_1 hI.2.1.1 (by omega))) (cwV 1 hts gX5_tide_X2_tideAt rfl rfl rfl (by decide +kernel) ⟨Nat.le_trans (Nat.le_of_ble_eq_true rfl) hR.1, Nat.le_trans (Nat.le_of_ble_eq_true rfl) hR.2⟩) rfl hl.1 rfl (Nat.le_of_ble_eq_true rfl) dX5_tide_30 hf (fun H locs hP hS => ?_)
  exact W.widen (k := 2) (n := 12) (Nat.le_of_ble_eq_true rfl) (Nat.le_of_ble_eq_true rfl) (kr _ (q_X2_tideAt σ pier minute) H locs ls dX5_tide_33 hq.symm ht hP hS)
set_option maxHeartbeats 4000000 in
set_option maxRecDepth 100000 in
theorem c_X5_tide (l : Launch) (hst : l.stackTraces = false) {D : va_G} {A : Nat → Prop} {cI cO : ClassId} {g : Gh} {cap N : Nat → Nat} (σ : St) (pier : Int32) (minute : Int32) (hI : KI cap N σ) : vx_Met l yX5_tide wsX5_tide ({ frames := 7, cells := 2, slots := 12, locals := 104 }) (va_Pc [.ref (g 0 0), .int pier, .int minute] (cUX D cI cO A g cap N σ)) (va_Qi (fun r (_ : Unit) => r = q_X5_tide σ pier minute ∧ t_X5_tide σ pier minute = 0) (fun _ t => cU D cI cO A g cap N (σ) t) A) (vx_X (fun (_ : Unit) => ¬ t_X5_tide σ pier minute = 0) (fun E _ t => E = exN (t_X5_tide σ pier minute) ∧ cU D cI cO A g cap N (σ) t) A) 2 12 A := by
  refine vx_ofW (cc := cX5_tide) (maxL := 3) (ret := (some .int)) (by decide) rfl ?_
  intro p e s m args below meth c s₁ B hml htab hv
  obtain ⟨rfl, ⟨hP, hK⟩, hX⟩ := hv
  have E : kE p c cX5_tide s m ([.ref (g 0 0), .int pier, .int minute] : List Value).toArray wsX5_tide RX5 D cI cO := ⟨⟨B.exec, B.bytes⟩, atoms_spec (ws := wsX5_tide) B.pre, findClass_of_methodNamed B.named, hK⟩
  have hr := B.returns
  have hlocks := B.notSynchronized
  have hl := lv_entry ([.ref (g 0 0), .int pier, .int minute]) (n := 3) (Nat.le_of_ble_eq_true rfl)
  rw [lg_entry_eq]
  generalize (lg_sl ([.ref (g 0 0), .int pier, .int minute]) ++ List.replicate (3 - (lg_sl ([.ref (g 0 0), .int pier, .int minute])).length) Slot.unset).toArray = ls at hl ⊢
  refine w_X5_tide hst σ pier minute hI E hml ⟨Nat.le_of_ble_eq_true rfl, Nat.le_of_ble_eq_true rfl⟩ ⟨Nat.le_refl _, Nat.le_refl _⟩ hlocks htab hX hP va_S.rf hl (fun pc v H1 locs1 ls1 hd hv h0 hP1 hS1 => ?_) (fun E9 t9 h1 h2 hW9 hP9 hF9 => ⟨(), h2, ⟨h1, hP9, va_K.moved hW9 hK⟩, hF9⟩)
  exact vx_ret (W.iret (v := v) B.exec B.bytes hr (fun t ht hW => ⟨⟨v, (), rfl, ⟨hv, h0⟩, by rw [ht]; exact hP1, va_K.moved hW.alike hK⟩, hS1.F ht⟩) hS1.2.2 hd)
def q_X5_boatOf (σ : St) (boat : Int32) (what : Int32) : Int32 := if ¬ boat < 0 ∧ boat < (σ 54 1) then (if ¬ what < (0 : Int32) ∧ what ≤ (2 : Int32) then (if what = 0 then (σ 19 boat.toNatClampNeg) else (if what = (1 : Int32) then (if (σ 20 boat.toNatClampNeg) = 0 then (0 : Int32) else (1 : Int32)) else (q_X5_crewMinutes σ boat ((σ 1 0) / (1440 : Int32))))) else (0 : Int32)) else (0 : Int32)
def t_X5_boatOf (σ : St) (boat : Int32) (what : Int32) : Int32 := if ¬ boat < 0 ∧ boat < (σ 54 1) then (if ¬ what < (0 : Int32) ∧ what ≤ (2 : Int32) then (if what = 0 then (0 : Int32) else (if what = (1 : Int32) then (0 : Int32) else (0 : Int32))) else (1 : Int32)) else (3 : Int32)
set_option maxHeartbeats 1000000 in
set_option maxRecDepth 100000 in
theorem w_X5_boatOf {p : Program} {l : Launch} {e : Env} {R : Room} {s : State} {m : MethodId} {args : Array Value} {below : List Frame} {meth : Method} {c : Code} {H : Heap} {locs : List Loc} {Qc : Array Value → State → Outcome → State → Prop} {XC : String → State → State → Prop} {D : va_G} {A : Nat → Prop} {cI cO : ClassId} {g : Gh} {cap N : Nat → Nat} {ls : Array Slot} (hst : l.stackTraces = false) (σ : St) (boat : Int32) (what : Int32) (hI : KI cap N σ) (E : kE p c cX5_boatOf s m args wsX5_boatOf RX5 D cI cO) (hml : c.maxLocals = 4) (hR : 7 ≤ R.frames ∧ 104 ≤ R.locals) (hfm : 2 ≤ R.cells ∧ 12 ≤ R.slots) (hlocks : meth.locks = false) (htab : ∀ x ∈ c.exceptionTable.toList, False) (hX : cX A s) (hP : cP D cI cO A g cap N σ H) (hS : va_S A s.heap H locs) (hl : lv_has ls 4 [(0, .ref (g 0 0)), (1, .int boat), (2, .int what)]) (kr : ∀ (pc : Nat) (rv : Int32) (H1 : Heap) (locs1 : List Loc) (ls1 : Array Slot), decode cX5_boatOf pc = .ok (.ireturn, 1) → rv = q_X5_boatOf σ boat what → t_X5_boatOf σ boat what = 0 → cP D cI cO A g cap N σ H1 → va_S A s.heap H1 locs1 → W p l e R s m args below meth c H1 locs1 2 12 (vx_MQ below Qc XC args s 2 12 A) (F0 m pc ls1 [.int rv])) (kt : ∀ (E9 : String) (t9 : State), E9 = exN (t_X5_boatOf σ boat what) → ¬ t_X5_boatOf σ boat what = 0 → s.vm.Alike t9.vm → cP D cI cO A g cap N σ t9.heap → va_F A s t9 → XC E9 s t9) : W p l e R s m args below meth c H locs 0 0 (vx_MQ below Qc XC args s 2 12 A) (F0 m 0 ls []) := by
  have hx := E.1.1
  have hb := E.1.2
  have hts := E.2.1
  obtain ⟨n0, n4, n5, n6, n8, n7, n1, n2, n3⟩ := id hI.1
  have i_X0 : ∀ w ∈ wsX00, w ∈ wsX5_boatOf := by decide +kernel
  have i_X5 : ∀ w ∈ wsX50, w ∈ wsX5_boatOf := by decide +kernel
  have hq : q_X5_boatOf σ boat what = if ¬ boat < 0 ∧ boat < (σ 54 1) then (if ¬ what < (0 : Int32) ∧ what ≤ (2 : Int32) then (if what = 0 then (σ 19 boat.toNatClampNeg) else (if what = (1 : Int32) then (if (σ 20 boat.toNatClampNeg) = 0 then (0 : Int32) else (1 : Int32)) else (q_X5_crewMinutes σ boat ((σ 1 0) / (1440 : Int32))))) else (0 : Int32)) else (0 : Int32) := rfl
  have ht : t_X5_boatOf σ boat what = if ¬ boat < 0 ∧ boat < (σ 54 1) then (if ¬ what < (0 : Int32) ∧ what ≤ (2 : Int32) then (if what = 0 then (0 : Int32) else (if what = (1 : Int32) then (0 : Int32) else (0 : Int32))) else (1 : Int32)) else (3 : Int32) := rfl
  have hf : 0 ≤ R.cells ∧ 0 ≤ R.slots := ⟨Nat.zero_le _, Nat.zero_le _⟩
  refine lv_iload_n hx hb dX5_boatOf_0 rfl (lv_at hl 1 rfl) ?_
  refine lv_aload_n hx hb dX5_boatOf_1 rfl (lv_at hl 0 rfl) ?_
  refine cg_X5_boats E i_X5 hP (by omega) (by decide +kernel) dX5_boatOf_2 ?_
  refine kcV_i E hml hP hS (kr_1 E.2.2.2 hP ⟨by decide, by omega, fun z => absurd z (by decide)⟩) (c_AL_size l σ 1 ⟨by decide, by omega, fun z => absurd z (by decide)⟩) (cwV 0 hts gX5_boatOf_Jx4a65c_size_8abf5 rfl rfl rfl (by decide +kernel) ⟨Nat.le_trans (Nat.le_of_ble_eq_true rfl) hR.1, Nat.le_trans (Nat.le_of_ble_eq_true rfl) hR.2⟩) rfl hl.1 rfl (Nat.le_of_ble_eq_true rfl) dX5_boatOf_5 hf (fun H locs hP hS => ?_)
  refine kxS E hml hX hP hS (c_X5_needNumber l hst σ boat (σ 54 1)) (va_cwS 2 hts gX5_boatOf_X5_needNumber rfl rfl rfl (by decide +kernel) ⟨Nat.le_trans (Nat.le_of_ble_eq_true rfl) hR.1, Nat.le_trans (Nat.le_of_ble_eq_true rfl) hR.2⟩) rfl hl.1 rfl (Nat.le_of_ble_eq_true rfl) dX5_boatOf_8 ⟨Nat.le_trans (Nat.le_of_ble_eq_true rfl) hfm.1, Nat.le_trans (Nat.le_of_ble_eq_true rfl) hfm.2⟩ (fun c_1 => ?_) (fun c_1 => ?_)
  · have hq := hq.trans (if_neg c_1)
    have ht := ht.trans (if_neg c_1)
    intro q9 ce H locs hP hS hce hcv hcl
    exact vx_out (fun x hx => (htab x hx).elim) hlocks hce hcv hcl (fun t9 ht9 hW9 => kt _ t9 (by rw [ht]; rfl) (by rw [ht]; decide) hW9 (by rw [ht9]; exact hP) (hS.F ht9)) hS.2.2 (Nat.le_of_ble_eq_true rfl) (Nat.le_of_ble_eq_true rfl)
  have hq := hq.trans (if_pos c_1)
  have ht := ht.trans (if_pos c_1)
  intro H locs hP hS
  have hf : 0 + 1 ≤ R.cells ∧ 0 + 6 ≤ R.slots := ⟨Nat.le_trans (Nat.le_of_ble_eq_true rfl) hfm.1, Nat.le_trans (Nat.le_of_ble_eq_true rfl) hfm.2⟩
  refine lv_iload_n hx hb dX5_boatOf_11 rfl (lv_at hl 2 rfl) ?_
  refine lv_iconst (v := 0) hx hb dX5_boatOf_12 (by decide) ?_
  refine lv_iconst (v := 2) hx hb dX5_boatOf_13 (by decide) ?_
  refine kxS E hml hX hP hS (c_X5_needWithin l hst σ what (0 : Int32) (2 : Int32)) (va_cwS 3 hts gX5_boatOf_X5_needWithin rfl rfl rfl (by decide +kernel) ⟨Nat.le_trans (Nat.le_of_ble_eq_true rfl) hR.1, Nat.le_trans (Nat.le_of_ble_eq_true rfl) hR.2⟩) rfl hl.1 rfl (Nat.le_of_ble_eq_true rfl) dX5_boatOf_14 ⟨Nat.le_trans (Nat.le_of_ble_eq_true rfl) hfm.1, Nat.le_trans (Nat.le_of_ble_eq_true rfl) hfm.2⟩ (fun c_2 => ?_) (fun c_2 => ?_)
  · have hq := hq.trans (if_neg c_2)
    have ht := ht.trans (if_neg c_2)
    intro q9 ce H locs hP hS hce hcv hcl
    exact vx_out (fun x hx => (htab x hx).elim) hlocks hce hcv hcl (fun t9 ht9 hW9 => kt _ t9 (by rw [ht]; rfl) (by rw [ht]; decide) hW9 (by rw [ht9]; exact hP) (hS.F ht9)) hS.2.2 (Nat.le_of_ble_eq_true rfl) (Nat.le_of_ble_eq_true rfl)
  have hq := hq.trans (if_pos c_2)
  have ht := ht.trans (if_pos c_2)
  intro H locs hP hS
  have hf : 0 + 1 + 1 ≤ R.cells ∧ 0 + 6 + 6 ≤ R.slots := ⟨Nat.le_trans (Nat.le_of_ble_eq_true rfl) hfm.1, Nat.le_trans (Nat.le_of_ble_eq_true rfl) hfm.2⟩
  refine lv_aload_n hx hb dX5_boatOf_17 rfl (lv_at hl 0 rfl) ?_
  refine cg_X5_boats E i_X5 hP (by omega) (by decide +kernel) dX5_boatOf_18 ?_
  refine lv_iload_n hx hb dX5_boatOf_21 rfl (lv_at hl 1 rfl) ?_
  refine kcV_r (v := g 5 boat.toNatClampNeg) E hml hP hS (kr_1 E.2.2.2 hP ⟨by decide, by omega, fun z => absurd z (by decide)⟩) (c_AL_get l σ 1 boat ⟨by decide, by omega, fun z => absurd z (by decide)⟩ n2 (hI.2.2.2.2.2 _ (by omega)) (by rw [hI.2.1.2.1, nI_clamp (by omega)]; exact (num_in c_1 hI.2.1.2.1 (by omega)))) (cwV 1 hts gX5_boatOf_Jx4a65c_get_915e3 rfl rfl rfl (by decide +kernel) ⟨Nat.le_trans (Nat.le_of_ble_eq_true rfl) hR.1, Nat.le_trans (Nat.le_of_ble_eq_true rfl) hR.2⟩) rfl hl.1 rfl (Nat.le_of_ble_eq_true rfl) dX5_boatOf_22 hf (fun H locs hP hS => ?_)
  refine kcast E (E.2.2.2.1 3 _ rfl).2 (kr_5 E.2.2.2 hP ⟨by decide, vp_lt (num_in c_1 hI.2.1.2.1 (by omega)), fun z => absurd z (by decide)⟩) (by decide +kernel) dX5_boatOf_25 ?_
  refine lv_astore_n (lv' := [(3, .ref (g 5 boat.toNatClampNeg)), (0, .ref (g 0 0)), (1, .int boat), (2, .int what)]) hx hb dX5_boatOf_28 rfl hl (by decide) rfl (fun ls hl => ?_)
  refine lv_iload_n hx hb dX5_boatOf_29 rfl (lv_at hl 3 rfl) ?_
  refine lv_if_ne (tgt := 38) hx hb dX5_boatOf_30 (by decide) (fun c_3 => ?_) (fun c_3 => ?_)
  · have hq := hq.trans (if_neg c_3)
    have ht := ht.trans (if_neg c_3)
    refine lv_iload_n hx hb dX5_boatOf_38 rfl (lv_at hl 3 rfl) ?_
    refine lv_iconst (v := 1) hx hb dX5_boatOf_39 (by decide) ?_
    refine lv_icmp_ne (tgt := 56) hx hb dX5_boatOf_40 (by decide) (fun c_4 => ?_) (fun c_4 => ?_)
    · have hq := hq.trans (if_neg c_4)
      have ht := ht.trans (if_neg c_4)
      refine lv_aload_n hx hb dX5_boatOf_56 rfl (lv_at hl 1 rfl) ?_
      refine lv_aload_n hx hb dX5_boatOf_57 rfl (lv_at hl 0 rfl) ?_
      refine lv_aload_n hx hb dX5_boatOf_58 rfl (lv_at hl 1 rfl) ?_
      refine cg_X5_now E i_X5 hP (by omega) (by decide +kernel) dX5_boatOf_59 ?_
      refine lv_sipush (v := 1440) hx hb dX5_boatOf_62 (by decide) ?_
      refine lv_idiv hx hb dX5_boatOf_65 (by decide) ?_
      refine kcV_i E hml hP hS (kr_0 E.2.2.2 hP ⟨by decide, by omega, fun z => absurd z (by decide)⟩) (c_X5_crewMinutes l σ boat ((σ 1 0) / (1440 : Int32)) hI (num_in c_1 hI.2.1.2.1 (by omega))) (cwV 2 hts gX5_boatOf_X5_crewMinutes rfl rfl rfl (by decide +kernel) ⟨Nat.le_trans (Nat.le_of_ble_eq_true rfl) hR.1, Nat.le_trans (Nat.le_of_ble_eq_true rfl) hR.2⟩) rfl hl.1 rfl (Nat.le_of_ble_eq_true rfl) dX5_boatOf_66 hf (fun H locs hP hS => ?_)
      exact W.widen (k := 2) (n := 12) (Nat.le_of_ble_eq_true rfl) (Nat.le_of_ble_eq_true rfl) (kr _ (q_X5_crewMinutes σ boat ((σ 1 0) / (1440 : Int32))) H locs ls dX5_boatOf_69 hq.symm ht hP hS)
    have hq := hq.trans (if_pos c_4)
    have ht := ht.trans (if_pos c_4)
    refine lv_aload_n hx hb dX5_boatOf_43 rfl (lv_at hl 0 rfl) ?_
    refine cg_X0_isBroken E i_X0 hP (num_in c_1 hI.2.1.2.1 (by omega)) (by decide +kernel) dX5_boatOf_44 ?_
    have J_5 : ∀ (y5_t0 : Int32) (H : Heap) (locs : List Loc) (ls : Array Slot), y5_t0 = (if (σ 20 boat.toNatClampNeg) = 0 then (0 : Int32) else (1 : Int32)) → cP D cI cO A g cap N σ H → va_S A s.heap H locs → lv_has ls 4 [(3, .ref (g 5 boat.toNatClampNeg)), (0, .ref (g 0 0)), (1, .int boat), (2, .int what)] → W p l e R s m args below meth c H locs (0 + 1 + 1) (0 + 6 + 6) (vx_MQ below Qc XC args s 2 12 A) (F0 m 55 ls [.int y5_t0]) := by
      intro y5_t0 H locs ls e_y5_t0 hP hS hl
      subst e_y5_t0
      exact W.widen (k := 2) (n := 12) (Nat.le_of_ble_eq_true rfl) (Nat.le_of_ble_eq_true rfl) (kr _ (if (σ 20 boat.toNatClampNeg) = 0 then (0 : Int32) else (1 : Int32)) H locs ls dX5_boatOf_55 hq.symm ht hP hS)
    refine lv_if_eq (tgt := 54) hx hb dX5_boatOf_47 (by decide) (fun c_5 => ?_) (fun c_5 => ?_)
    · refine lv_iconst (v := 0) hx hb dX5_boatOf_54 (by decide) ?_
      exact J_5 (0 : Int32) H locs ls (if_pos c_5).symm hP hS (lv_sub hl [0, 1, 2, 3] rfl)
    refine lv_iconst (v := 1) hx hb dX5_boatOf_50 (by decide) ?_
    refine lv_goto (tgt := 55) hx hb dX5_boatOf_51 (by decide) ?_
    exact J_5 (1 : Int32) H locs ls (if_neg c_5).symm hP hS (lv_sub hl [0, 1, 2, 3] rfl)
  have hq := hq.trans (if_pos c_3)
  have ht := ht.trans (if_pos c_3)
  refine lv_aload_n hx hb dX5_boatOf_33 rfl (lv_at hl 0 rfl) ?_
  refine cg_X0_pier E i_X0 hP (num_in c_1 hI.2.1.2.1 (by omega)) (by decide +kernel) dX5_boatOf_34 ?_
  exact W.widen (k := 2) (n := 12) (Nat.le_of_ble_eq_true rfl) (Nat.le_of_ble_eq_true rfl) (kr _ (σ 19 boat.toNatClampNeg) H locs ls dX5_boatOf_37 hq.symm ht hP hS)
set_option maxHeartbeats 4000000 in
set_option maxRecDepth 100000 in
theorem c_X5_boatOf (l : Launch) (hst : l.stackTraces = false) {D : va_G} {A : Nat → Prop} {cI cO : ClassId} {g : Gh} {cap N : Nat → Nat} (σ : St) (boat : Int32) (what : Int32) (hI : KI cap N σ) : vx_Met l yX5_boatOf wsX5_boatOf ({ frames := 7, cells := 2, slots := 12, locals := 104 }) (va_Pc [.ref (g 0 0), .int boat, .int what] (cUX D cI cO A g cap N σ)) (va_Qi (fun r (_ : Unit) => r = q_X5_boatOf σ boat what ∧ t_X5_boatOf σ boat what = 0) (fun _ t => cU D cI cO A g cap N (σ) t) A) (vx_X (fun (_ : Unit) => ¬ t_X5_boatOf σ boat what = 0) (fun E _ t => E = exN (t_X5_boatOf σ boat what) ∧ cU D cI cO A g cap N (σ) t) A) 2 12 A := by
  refine vx_ofW (cc := cX5_boatOf) (maxL := 4) (ret := (some .int)) (by decide) rfl ?_
  intro p e s m args below meth c s₁ B hml htab hv
  obtain ⟨rfl, ⟨hP, hK⟩, hX⟩ := hv
  have E : kE p c cX5_boatOf s m ([.ref (g 0 0), .int boat, .int what] : List Value).toArray wsX5_boatOf RX5 D cI cO := ⟨⟨B.exec, B.bytes⟩, atoms_spec (ws := wsX5_boatOf) B.pre, findClass_of_methodNamed B.named, hK⟩
  have hr := B.returns
  have hlocks := B.notSynchronized
  have hl := lv_entry ([.ref (g 0 0), .int boat, .int what]) (n := 4) (Nat.le_of_ble_eq_true rfl)
  rw [lg_entry_eq]
  generalize (lg_sl ([.ref (g 0 0), .int boat, .int what]) ++ List.replicate (4 - (lg_sl ([.ref (g 0 0), .int boat, .int what])).length) Slot.unset).toArray = ls at hl ⊢
  refine w_X5_boatOf hst σ boat what hI E hml ⟨Nat.le_of_ble_eq_true rfl, Nat.le_of_ble_eq_true rfl⟩ ⟨Nat.le_refl _, Nat.le_refl _⟩ hlocks htab hX hP va_S.rf hl (fun pc v H1 locs1 ls1 hd hv h0 hP1 hS1 => ?_) (fun E9 t9 h1 h2 hW9 hP9 hF9 => ⟨(), h2, ⟨h1, hP9, va_K.moved hW9 hK⟩, hF9⟩)
  exact vx_ret (W.iret (v := v) B.exec B.bytes hr (fun t ht hW => ⟨⟨v, (), rfl, ⟨hv, h0⟩, by rw [ht]; exact hP1, va_K.moved hW.alike hK⟩, hS1.F ht⟩) hS1.2.2 hd)
def q_X5_sailingOf (σ : St) (sailing : Int32) (what : Int32) : Int32 := if ¬ sailing < 0 ∧ sailing < (σ 54 2) then (if ¬ what < (0 : Int32) ∧ what ≤ (6 : Int32) then (if what.toInt = 0 then (σ 22 sailing.toNatClampNeg) else (if what.toInt = 1 then (σ 29 sailing.toNatClampNeg) else (if what.toInt = 2 then (σ 23 sailing.toNatClampNeg) else (if what.toInt = 3 then (σ 54 (((2 : Int32) * sailing + 4).toNatClampNeg)) else (if what.toInt = 4 then (σ 32 ((2 : Int32) * sailing).toNatClampNeg) else (if what.toInt = 5 then (σ 32 (((2 : Int32) * sailing) + (1 : Int32)).toNatClampNeg) else (σ 31 sailing.toNatClampNeg))))))) else (0 : Int32)) else (0 : Int32)
def t_X5_sailingOf (σ : St) (sailing : Int32) (what : Int32) : Int32 := if ¬ sailing < 0 ∧ sailing < (σ 54 2) then (if ¬ what < (0 : Int32) ∧ what ≤ (6 : Int32) then (if what.toInt = 0 then (0 : Int32) else (if what.toInt = 1 then (0 : Int32) else (if what.toInt = 2 then (0 : Int32) else (if what.toInt = 3 then (0 : Int32) else (if what.toInt = 4 then (0 : Int32) else (if what.toInt = 5 then (0 : Int32) else (0 : Int32))))))) else (1 : Int32)) else (3 : Int32)
set_option maxHeartbeats 1000000 in
set_option maxRecDepth 100000 in
theorem w_X5_sailingOf {p : Program} {l : Launch} {e : Env} {R : Room} {s : State} {m : MethodId} {args : Array Value} {below : List Frame} {meth : Method} {c : Code} {H : Heap} {locs : List Loc} {Qc : Array Value → State → Outcome → State → Prop} {XC : String → State → State → Prop} {D : va_G} {A : Nat → Prop} {cI cO : ClassId} {g : Gh} {cap N : Nat → Nat} {ls : Array Slot} (hst : l.stackTraces = false) (σ : St) (sailing : Int32) (what : Int32) (hI : KI cap N σ) (E : kE p c cX5_sailingOf s m args wsX5_sailingOf RX5 D cI cO) (hml : c.maxLocals = 4) (hR : 7 ≤ R.frames ∧ 104 ≤ R.locals) (hfm : 2 ≤ R.cells ∧ 12 ≤ R.slots) (hlocks : meth.locks = false) (htab : ∀ x ∈ c.exceptionTable.toList, False) (hX : cX A s) (hP : cP D cI cO A g cap N σ H) (hS : va_S A s.heap H locs) (hl : lv_has ls 4 [(0, .ref (g 0 0)), (1, .int sailing), (2, .int what)]) (kr : ∀ (pc : Nat) (rv : Int32) (H1 : Heap) (locs1 : List Loc) (ls1 : Array Slot), decode cX5_sailingOf pc = .ok (.ireturn, 1) → rv = q_X5_sailingOf σ sailing what → t_X5_sailingOf σ sailing what = 0 → cP D cI cO A g cap N σ H1 → va_S A s.heap H1 locs1 → W p l e R s m args below meth c H1 locs1 2 12 (vx_MQ below Qc XC args s 2 12 A) (F0 m pc ls1 [.int rv])) (kt : ∀ (E9 : String) (t9 : State), E9 = exN (t_X5_sailingOf σ sailing what) → ¬ t_X5_sailingOf σ sailing what = 0 → s.vm.Alike t9.vm → cP D cI cO A g cap N σ t9.heap → va_F A s t9 → XC E9 s t9) : W p l e R s m args below meth c H locs 0 0 (vx_MQ below Qc XC args s 2 12 A) (F0 m 0 ls []) := by
  have hx := E.1.1
  have hb := E.1.2
  have hts := E.2.1
  obtain ⟨n0, n4, n5, n6, n8, n7, n1, n2, n3⟩ := id hI.1
  have i_X0 : ∀ w ∈ wsX00, w ∈ wsX5_sailingOf := by decide +kernel
  have i_X3 : ∀ w ∈ wsX30, w ∈ wsX5_sailingOf := by decide +kernel
  have i_X4 : ∀ w ∈ wsX40, w ∈ wsX5_sailingOf := by decide +kernel
  have i_X5 : ∀ w ∈ wsX50, w ∈ wsX5_sailingOf := by decide +kernel
  have hq : q_X5_sailingOf σ sailing what = if ¬ sailing < 0 ∧ sailing < (σ 54 2) then (if ¬ what < (0 : Int32) ∧ what ≤ (6 : Int32) then (if what.toInt = 0 then (σ 22 sailing.toNatClampNeg) else (if what.toInt = 1 then (σ 29 sailing.toNatClampNeg) else (if what.toInt = 2 then (σ 23 sailing.toNatClampNeg) else (if what.toInt = 3 then (σ 54 (((2 : Int32) * sailing + 4).toNatClampNeg)) else (if what.toInt = 4 then (σ 32 ((2 : Int32) * sailing).toNatClampNeg) else (if what.toInt = 5 then (σ 32 (((2 : Int32) * sailing) + (1 : Int32)).toNatClampNeg) else (σ 31 sailing.toNatClampNeg))))))) else (0 : Int32)) else (0 : Int32) := rfl
  have ht : t_X5_sailingOf σ sailing what = if ¬ sailing < 0 ∧ sailing < (σ 54 2) then (if ¬ what < (0 : Int32) ∧ what ≤ (6 : Int32) then (if what.toInt = 0 then (0 : Int32) else (if what.toInt = 1 then (0 : Int32) else (if what.toInt = 2 then (0 : Int32) else (if what.toInt = 3 then (0 : Int32) else (if what.toInt = 4 then (0 : Int32) else (if what.toInt = 5 then (0 : Int32) else (0 : Int32))))))) else (1 : Int32)) else (3 : Int32) := rfl
  have hf : 0 ≤ R.cells ∧ 0 ≤ R.slots := ⟨Nat.zero_le _, Nat.zero_le _⟩
  refine lv_iload_n hx hb dX5_sailingOf_0 rfl (lv_at hl 1 rfl) ?_
  refine lv_aload_n hx hb dX5_sailingOf_1 rfl (lv_at hl 0 rfl) ?_
  refine cg_X5_sailings E i_X5 hP (by omega) (by decide +kernel) dX5_sailingOf_2 ?_
  refine kcV_i E hml hP hS (kr_1 E.2.2.2 hP ⟨by decide, by omega, fun z => absurd z (by decide)⟩) (c_AL_size l σ 2 ⟨by decide, by omega, fun z => absurd z (by decide)⟩) (cwV 0 hts gX5_sailingOf_Jx4a65c_size_8abf5 rfl rfl rfl (by decide +kernel) ⟨Nat.le_trans (Nat.le_of_ble_eq_true rfl) hR.1, Nat.le_trans (Nat.le_of_ble_eq_true rfl) hR.2⟩) rfl hl.1 rfl (Nat.le_of_ble_eq_true rfl) dX5_sailingOf_5 hf (fun H locs hP hS => ?_)
  refine kxS E hml hX hP hS (c_X5_needNumber l hst σ sailing (σ 54 2)) (va_cwS 2 hts gX5_sailingOf_X5_needNumber rfl rfl rfl (by decide +kernel) ⟨Nat.le_trans (Nat.le_of_ble_eq_true rfl) hR.1, Nat.le_trans (Nat.le_of_ble_eq_true rfl) hR.2⟩) rfl hl.1 rfl (Nat.le_of_ble_eq_true rfl) dX5_sailingOf_8 ⟨Nat.le_trans (Nat.le_of_ble_eq_true rfl) hfm.1, Nat.le_trans (Nat.le_of_ble_eq_true rfl) hfm.2⟩ (fun c_1 => ?_) (fun c_1 => ?_)
  · have hq := hq.trans (if_neg c_1)
    have ht := ht.trans (if_neg c_1)
    intro q9 ce H locs hP hS hce hcv hcl
    exact vx_out (fun x hx => (htab x hx).elim) hlocks hce hcv hcl (fun t9 ht9 hW9 => kt _ t9 (by rw [ht]; rfl) (by rw [ht]; decide) hW9 (by rw [ht9]; exact hP) (hS.F ht9)) hS.2.2 (Nat.le_of_ble_eq_true rfl) (Nat.le_of_ble_eq_true rfl)
  have hq := hq.trans (if_pos c_1)
  have ht := ht.trans (if_pos c_1)
  intro H locs hP hS
  have hf : 0 + 1 ≤ R.cells ∧ 0 + 6 ≤ R.slots := ⟨Nat.le_trans (Nat.le_of_ble_eq_true rfl) hfm.1, Nat.le_trans (Nat.le_of_ble_eq_true rfl) hfm.2⟩
  refine lv_iload_n hx hb dX5_sailingOf_11 rfl (lv_at hl 2 rfl) ?_
  refine lv_iconst (v := 0) hx hb dX5_sailingOf_12 (by decide) ?_
  refine lv_bipush (v := 6) hx hb dX5_sailingOf_13 (by decide) ?_
  refine kxS E hml hX hP hS (c_X5_needWithin l hst σ what (0 : Int32) (6 : Int32)) (va_cwS 3 hts gX5_sailingOf_X5_needWithin rfl rfl rfl (by decide +kernel) ⟨Nat.le_trans (Nat.le_of_ble_eq_true rfl) hR.1, Nat.le_trans (Nat.le_of_ble_eq_true rfl) hR.2⟩) rfl hl.1 rfl (Nat.le_of_ble_eq_true rfl) dX5_sailingOf_15 ⟨Nat.le_trans (Nat.le_of_ble_eq_true rfl) hfm.1, Nat.le_trans (Nat.le_of_ble_eq_true rfl) hfm.2⟩ (fun c_2 => ?_) (fun c_2 => ?_)
  · have hq := hq.trans (if_neg c_2)
    have ht := ht.trans (if_neg c_2)
    intro q9 ce H locs hP hS hce hcv hcl
    exact vx_out (fun x hx => (htab x hx).elim) hlocks hce hcv hcl (fun t9 ht9 hW9 => kt _ t9 (by rw [ht]; rfl) (by rw [ht]; decide) hW9 (by rw [ht9]; exact hP) (hS.F ht9)) hS.2.2 (Nat.le_of_ble_eq_true rfl) (Nat.le_of_ble_eq_true rfl)
  have hq := hq.trans (if_pos c_2)
  have ht := ht.trans (if_pos c_2)
  intro H locs hP hS
  have hf : 0 + 1 + 1 ≤ R.cells ∧ 0 + 6 + 6 ≤ R.slots := ⟨Nat.le_trans (Nat.le_of_ble_eq_true rfl) hfm.1, Nat.le_trans (Nat.le_of_ble_eq_true rfl) hfm.2⟩
  refine lv_aload_n hx hb dX5_sailingOf_18 rfl (lv_at hl 0 rfl) ?_
  refine cg_X5_sailings E i_X5 hP (by omega) (by decide +kernel) dX5_sailingOf_19 ?_
  refine lv_iload_n hx hb dX5_sailingOf_22 rfl (lv_at hl 1 rfl) ?_
  refine kcV_r (v := g 6 sailing.toNatClampNeg) E hml hP hS (kr_1 E.2.2.2 hP ⟨by decide, by omega, fun z => absurd z (by decide)⟩) (c_AL_get l σ 2 sailing ⟨by decide, by omega, fun z => absurd z (by decide)⟩ n2 (hI.2.2.2.2.2 _ (by omega)) (by rw [hI.2.1.2.2.1, nI_clamp (by omega)]; exact (num_in c_1 hI.2.1.2.2.1 (by omega)))) (cwV 1 hts gX5_sailingOf_Jx4a65c_get_915e3 rfl rfl rfl (by decide +kernel) ⟨Nat.le_trans (Nat.le_of_ble_eq_true rfl) hR.1, Nat.le_trans (Nat.le_of_ble_eq_true rfl) hR.2⟩) rfl hl.1 rfl (Nat.le_of_ble_eq_true rfl) dX5_sailingOf_23 hf (fun H locs hP hS => ?_)
  refine kcast E (E.2.2.2.1 6 _ rfl).2 (kr_6 E.2.2.2 hP ⟨by decide, vp_lt (num_in c_1 hI.2.1.2.2.1 (by omega)), fun z => absurd z (by decide)⟩) (by decide +kernel) dX5_sailingOf_26 ?_
  refine lv_astore_n (lv' := [(3, .ref (g 6 sailing.toNatClampNeg)), (0, .ref (g 0 0)), (1, .int sailing), (2, .int what)]) hx hb dX5_sailingOf_29 rfl hl (by decide) rfl (fun ls hl => ?_)
  refine lv_iload_n hx hb dX5_sailingOf_30 rfl (lv_at hl 3 rfl) ?_
  by_cases c_3_0 : what.toInt = 0
  · have hq := hq.trans (if_pos c_3_0)
    have ht := ht.trans (if_pos c_3_0)
    refine lv_tableIn (tgt := 68) hx hb dX5_sailingOf_31 (by omega) (by omega) (by rw [c_3_0]; rfl) (by decide) ?_
    refine lv_aload_n hx hb dX5_sailingOf_68 rfl (lv_at hl 0 rfl) ?_
    refine cg_X3_state E i_X3 hP (num_in c_1 hI.2.1.2.2.1 (by omega)) (by decide +kernel) dX5_sailingOf_69 ?_
    exact W.widen (k := 2) (n := 12) (Nat.le_of_ble_eq_true rfl) (Nat.le_of_ble_eq_true rfl) (kr _ (σ 22 sailing.toNatClampNeg) H locs ls dX5_sailingOf_72 hq.symm ht hP hS)
  have hq := hq.trans (if_neg c_3_0)
  have ht := ht.trans (if_neg c_3_0)
  by_cases c_3_1 : what.toInt = 1
  · have hq := hq.trans (if_pos c_3_1)
    have ht := ht.trans (if_pos c_3_1)
    refine lv_tableIn (tgt := 73) hx hb dX5_sailingOf_31 (by omega) (by omega) (by rw [c_3_1]; rfl) (by decide) ?_
    refine lv_aload_n hx hb dX5_sailingOf_73 rfl (lv_at hl 0 rfl) ?_
    refine cg_X3_reason E i_X3 hP (num_in c_1 hI.2.1.2.2.1 (by omega)) (by decide +kernel) dX5_sailingOf_74 ?_
    exact W.widen (k := 2) (n := 12) (Nat.le_of_ble_eq_true rfl) (Nat.le_of_ble_eq_true rfl) (kr _ (σ 29 sailing.toNatClampNeg) H locs ls dX5_sailingOf_77 hq.symm ht hP hS)
  have hq := hq.trans (if_neg c_3_1)
  have ht := ht.trans (if_neg c_3_1)
  by_cases c_3_2 : what.toInt = 2
  · have hq := hq.trans (if_pos c_3_2)
    have ht := ht.trans (if_pos c_3_2)
    refine lv_tableIn (tgt := 78) hx hb dX5_sailingOf_31 (by omega) (by omega) (by rw [c_3_2]; rfl) (by decide) ?_
    refine lv_aload_n hx hb dX5_sailingOf_78 rfl (lv_at hl 0 rfl) ?_
    refine cg_X3_boat E i_X3 hP (num_in c_1 hI.2.1.2.2.1 (by omega)) (by decide +kernel) dX5_sailingOf_79 ?_
    refine cg_X0_number E i_X0 hP ((hI.2.2.1 _ (vp_lt (num_in c_1 hI.2.1.2.2.1 (by omega)))).1) (by omega) (by decide +kernel) dX5_sailingOf_82 ?_
    exact W.widen (k := 2) (n := 12) (Nat.le_of_ble_eq_true rfl) (Nat.le_of_ble_eq_true rfl) (kr _ (σ 23 sailing.toNatClampNeg) H locs ls dX5_sailingOf_85 hq.symm ht hP hS)
  have hq := hq.trans (if_neg c_3_2)
  have ht := ht.trans (if_neg c_3_2)
  by_cases c_3_3 : what.toInt = 3
  · have hq := hq.trans (if_pos c_3_3)
    have ht := ht.trans (if_pos c_3_3)
    refine lv_tableIn (tgt := 86) hx hb dX5_sailingOf_31 (by omega) (by omega) (by rw [c_3_3]; rfl) (by decide) ?_
    refine lv_aload_n hx hb dX5_sailingOf_86 rfl (lv_at hl 0 rfl) ?_
    refine cg_X3_aboard E i_X3 hP (num_in c_1 hI.2.1.2.2.1 (by omega)) (by omega) (by decide +kernel) dX5_sailingOf_87 ?_
    refine kcV_i E hml hP hS (kr_1 E.2.2.2 hP (lvL4 (cap := cap) hI.1 (num_in c_1 hI.2.1.2.2.1 (by omega))).1) (c_AL_size l σ (((2 : Int32) * sailing + 4).toNatClampNeg) (lvL4 (cap := cap) hI.1 (num_in c_1 hI.2.1.2.2.1 (by omega))).1) (cwV 0 hts gX5_sailingOf_Jx4a65c_size_8abf5 rfl rfl rfl (by decide +kernel) ⟨Nat.le_trans (Nat.le_of_ble_eq_true rfl) hR.1, Nat.le_trans (Nat.le_of_ble_eq_true rfl) hR.2⟩) rfl hl.1 rfl (Nat.le_of_ble_eq_true rfl) dX5_sailingOf_90 hf (fun H locs hP hS => ?_)
    exact W.widen (k := 2) (n := 12) (Nat.le_of_ble_eq_true rfl) (Nat.le_of_ble_eq_true rfl) (kr _ (σ 54 (((2 : Int32) * sailing + 4).toNatClampNeg)) H locs ls dX5_sailingOf_93 hq.symm ht hP hS)
  have hq := hq.trans (if_neg c_3_3)
  have ht := ht.trans (if_neg c_3_3)
  by_cases c_3_4 : what.toInt = 4
  · have hq := hq.trans (if_pos c_3_4)
    have ht := ht.trans (if_pos c_3_4)
    refine lv_tableIn (tgt := 94) hx hb dX5_sailingOf_31 (by omega) (by omega) (by rw [c_3_4]; rfl) (by decide) ?_
    refine lv_aload_n hx hb dX5_sailingOf_94 rfl (lv_at hl 0 rfl) ?_
    refine cg_X3_firstSide E i_X3 hP (num_in c_1 hI.2.1.2.2.1 (by omega)) (by omega) (by decide +kernel) dX5_sailingOf_95 ?_
    refine cg_X4_weight E i_X4 hP (s7a hI.1 (num_in c_1 hI.2.1.2.2.1 (by omega))) (by decide +kernel) dX5_sailingOf_98 ?_
    exact W.widen (k := 2) (n := 12) (Nat.le_of_ble_eq_true rfl) (Nat.le_of_ble_eq_true rfl) (kr _ (σ 32 ((2 : Int32) * sailing).toNatClampNeg) H locs ls dX5_sailingOf_101 hq.symm ht hP hS)
  have hq := hq.trans (if_neg c_3_4)
  have ht := ht.trans (if_neg c_3_4)
  by_cases c_3_5 : what.toInt = 5
  · have hq := hq.trans (if_pos c_3_5)
    have ht := ht.trans (if_pos c_3_5)
    refine lv_tableIn (tgt := 102) hx hb dX5_sailingOf_31 (by omega) (by omega) (by rw [c_3_5]; rfl) (by decide) ?_
    refine lv_aload_n hx hb dX5_sailingOf_102 rfl (lv_at hl 0 rfl) ?_
    refine cg_X3_secondSide E i_X3 hP (num_in c_1 hI.2.1.2.2.1 (by omega)) (by omega) (by decide +kernel) dX5_sailingOf_103 ?_
    refine cg_X4_weight E i_X4 hP (s7b hI.1 (num_in c_1 hI.2.1.2.2.1 (by omega))) (by decide +kernel) dX5_sailingOf_106 ?_
    exact W.widen (k := 2) (n := 12) (Nat.le_of_ble_eq_true rfl) (Nat.le_of_ble_eq_true rfl) (kr _ (σ 32 (((2 : Int32) * sailing) + (1 : Int32)).toNatClampNeg) H locs ls dX5_sailingOf_109 hq.symm ht hP hS)
  have hq := hq.trans (if_neg c_3_5)
  have ht := ht.trans (if_neg c_3_5)
  refine lv_tableOut (tgt := 110) hx hb dX5_sailingOf_31 (by omega) (by decide) ?_
  refine lv_aload_n hx hb dX5_sailingOf_110 rfl (lv_at hl 0 rfl) ?_
  refine cg_X3_refused E i_X3 hP (num_in c_1 hI.2.1.2.2.1 (by omega)) (by decide +kernel) dX5_sailingOf_111 ?_
  exact W.widen (k := 2) (n := 12) (Nat.le_of_ble_eq_true rfl) (Nat.le_of_ble_eq_true rfl) (kr _ (σ 31 sailing.toNatClampNeg) H locs ls dX5_sailingOf_114 hq.symm ht hP hS)
set_option maxHeartbeats 4000000 in
set_option maxRecDepth 100000 in
theorem c_X5_sailingOf (l : Launch) (hst : l.stackTraces = false) {D : va_G} {A : Nat → Prop} {cI cO : ClassId} {g : Gh} {cap N : Nat → Nat} (σ : St) (sailing : Int32) (what : Int32) (hI : KI cap N σ) : vx_Met l yX5_sailingOf wsX5_sailingOf ({ frames := 7, cells := 2, slots := 12, locals := 104 }) (va_Pc [.ref (g 0 0), .int sailing, .int what] (cUX D cI cO A g cap N σ)) (va_Qi (fun r (_ : Unit) => r = q_X5_sailingOf σ sailing what ∧ t_X5_sailingOf σ sailing what = 0) (fun _ t => cU D cI cO A g cap N (σ) t) A) (vx_X (fun (_ : Unit) => ¬ t_X5_sailingOf σ sailing what = 0) (fun E _ t => E = exN (t_X5_sailingOf σ sailing what) ∧ cU D cI cO A g cap N (σ) t) A) 2 12 A := by
  refine vx_ofW (cc := cX5_sailingOf) (maxL := 4) (ret := (some .int)) (by decide) rfl ?_
  intro p e s m args below meth c s₁ B hml htab hv
  obtain ⟨rfl, ⟨hP, hK⟩, hX⟩ := hv
  have E : kE p c cX5_sailingOf s m ([.ref (g 0 0), .int sailing, .int what] : List Value).toArray wsX5_sailingOf RX5 D cI cO := ⟨⟨B.exec, B.bytes⟩, atoms_spec (ws := wsX5_sailingOf) B.pre, findClass_of_methodNamed B.named, hK⟩
  have hr := B.returns
  have hlocks := B.notSynchronized
  have hl := lv_entry ([.ref (g 0 0), .int sailing, .int what]) (n := 4) (Nat.le_of_ble_eq_true rfl)
  rw [lg_entry_eq]
  generalize (lg_sl ([.ref (g 0 0), .int sailing, .int what]) ++ List.replicate (4 - (lg_sl ([.ref (g 0 0), .int sailing, .int what])).length) Slot.unset).toArray = ls at hl ⊢
  refine w_X5_sailingOf hst σ sailing what hI E hml ⟨Nat.le_of_ble_eq_true rfl, Nat.le_of_ble_eq_true rfl⟩ ⟨Nat.le_refl _, Nat.le_refl _⟩ hlocks htab hX hP va_S.rf hl (fun pc v H1 locs1 ls1 hd hv h0 hP1 hS1 => ?_) (fun E9 t9 h1 h2 hW9 hP9 hF9 => ⟨(), h2, ⟨h1, hP9, va_K.moved hW9 hK⟩, hF9⟩)
  exact vx_ret (W.iret (v := v) B.exec B.bytes hr (fun t ht hW => ⟨⟨v, (), rfl, ⟨hv, h0⟩, by rw [ht]; exact hP1, va_K.moved hW.alike hK⟩, hS1.F ht⟩) hS1.2.2 hd)
def q_X5_against (σ : St) (sailing : Int32) : Int32 := if ¬ sailing < 0 ∧ sailing < (σ 54 2) then (if σ 22 sailing.toNatClampNeg = 0 then (q_X5_reasonAtDeparture σ sailing (σ 1 0)) else (0 : Int32)) else (0 : Int32)
def t_X5_against (σ : St) (sailing : Int32) : Int32 := if ¬ sailing < 0 ∧ sailing < (σ 54 2) then (if σ 22 sailing.toNatClampNeg = 0 then (0 : Int32) else (2 : Int32)) else (3 : Int32)
set_option maxHeartbeats 1000000 in
set_option maxRecDepth 100000 in
theorem w_X5_against {p : Program} {l : Launch} {e : Env} {R : Room} {s : State} {m : MethodId} {args : Array Value} {below : List Frame} {meth : Method} {c : Code} {H : Heap} {locs : List Loc} {Qc : Array Value → State → Outcome → State → Prop} {XC : String → State → State → Prop} {D : va_G} {A : Nat → Prop} {cI cO : ClassId} {g : Gh} {cap N : Nat → Nat} {ls : Array Slot} (hst : l.stackTraces = false) (σ : St) (sailing : Int32) (hI : KI cap N σ) (E : kE p c cX5_against s m args wsX5_against RX5 D cI cO) (hml : c.maxLocals = 3) (hR : 7 ≤ R.frames ∧ 114 ≤ R.locals) (hfm : 2 ≤ R.cells ∧ 12 ≤ R.slots) (hlocks : meth.locks = false) (htab : ∀ x ∈ c.exceptionTable.toList, False) (hX : cX A s) (hP : cP D cI cO A g cap N σ H) (hS : va_S A s.heap H locs) (hl : lv_has ls 3 [(0, .ref (g 0 0)), (1, .int sailing)]) (kr : ∀ (pc : Nat) (rv : Int32) (H1 : Heap) (locs1 : List Loc) (ls1 : Array Slot), decode cX5_against pc = .ok (.ireturn, 1) → rv = q_X5_against σ sailing → t_X5_against σ sailing = 0 → cP D cI cO A g cap N σ H1 → va_S A s.heap H1 locs1 → W p l e R s m args below meth c H1 locs1 2 12 (vx_MQ below Qc XC args s 2 12 A) (F0 m pc ls1 [.int rv])) (kt : ∀ (E9 : String) (t9 : State), E9 = exN (t_X5_against σ sailing) → ¬ t_X5_against σ sailing = 0 → s.vm.Alike t9.vm → cP D cI cO A g cap N σ t9.heap → va_F A s t9 → XC E9 s t9) : W p l e R s m args below meth c H locs 0 0 (vx_MQ below Qc XC args s 2 12 A) (F0 m 0 ls []) := by
  have hx := E.1.1
  have hb := E.1.2
  have hts := E.2.1
  obtain ⟨n0, n4, n5, n6, n8, n7, n1, n2, n3⟩ := id hI.1
  have i_X5 : ∀ w ∈ wsX50, w ∈ wsX5_against := by decide +kernel
  have hq : q_X5_against σ sailing = if ¬ sailing < 0 ∧ sailing < (σ 54 2) then (if σ 22 sailing.toNatClampNeg = 0 then (q_X5_reasonAtDeparture σ sailing (σ 1 0)) else (0 : Int32)) else (0 : Int32) := rfl
  have ht : t_X5_against σ sailing = if ¬ sailing < 0 ∧ sailing < (σ 54 2) then (if σ 22 sailing.toNatClampNeg = 0 then (0 : Int32) else (2 : Int32)) else (3 : Int32) := rfl
  have hf : 0 ≤ R.cells ∧ 0 ≤ R.slots := ⟨Nat.zero_le _, Nat.zero_le _⟩
  refine lv_iload_n hx hb dX5_against_0 rfl (lv_at hl 1 rfl) ?_
  refine lv_aload_n hx hb dX5_against_1 rfl (lv_at hl 0 rfl) ?_
  refine cg_X5_sailings E i_X5 hP (by omega) (by decide +kernel) dX5_against_2 ?_
  refine kcV_i E hml hP hS (kr_1 E.2.2.2 hP ⟨by decide, by omega, fun z => absurd z (by decide)⟩) (c_AL_size l σ 2 ⟨by decide, by omega, fun z => absurd z (by decide)⟩) (cwV 0 hts gX5_against_Jx4a65c_size_8abf5 rfl rfl rfl (by decide +kernel) ⟨Nat.le_trans (Nat.le_of_ble_eq_true rfl) hR.1, Nat.le_trans (Nat.le_of_ble_eq_true rfl) hR.2⟩) rfl hl.1 rfl (Nat.le_of_ble_eq_true rfl) dX5_against_5 hf (fun H locs hP hS => ?_)
  refine kxS E hml hX hP hS (c_X5_needNumber l hst σ sailing (σ 54 2)) (va_cwS 2 hts gX5_against_X5_needNumber rfl rfl rfl (by decide +kernel) ⟨Nat.le_trans (Nat.le_of_ble_eq_true rfl) hR.1, Nat.le_trans (Nat.le_of_ble_eq_true rfl) hR.2⟩) rfl hl.1 rfl (Nat.le_of_ble_eq_true rfl) dX5_against_8 ⟨Nat.le_trans (Nat.le_of_ble_eq_true rfl) hfm.1, Nat.le_trans (Nat.le_of_ble_eq_true rfl) hfm.2⟩ (fun c_1 => ?_) (fun c_1 => ?_)
  · have hq := hq.trans (if_neg c_1)
    have ht := ht.trans (if_neg c_1)
    intro q9 ce H locs hP hS hce hcv hcl
    exact vx_out (fun x hx => (htab x hx).elim) hlocks hce hcv hcl (fun t9 ht9 hW9 => kt _ t9 (by rw [ht]; rfl) (by rw [ht]; decide) hW9 (by rw [ht9]; exact hP) (hS.F ht9)) hS.2.2 (Nat.le_of_ble_eq_true rfl) (Nat.le_of_ble_eq_true rfl)
  have hq := hq.trans (if_pos c_1)
  have ht := ht.trans (if_pos c_1)
  intro H locs hP hS
  have hf : 0 + 1 ≤ R.cells ∧ 0 + 6 ≤ R.slots := ⟨Nat.le_trans (Nat.le_of_ble_eq_true rfl) hfm.1, Nat.le_trans (Nat.le_of_ble_eq_true rfl) hfm.2⟩
  refine lv_aload_n hx hb dX5_against_11 rfl (lv_at hl 0 rfl) ?_
  refine cg_X5_sailings E i_X5 hP (by omega) (by decide +kernel) dX5_against_12 ?_
  refine lv_iload_n hx hb dX5_against_15 rfl (lv_at hl 1 rfl) ?_
  refine kcV_r (v := g 6 sailing.toNatClampNeg) E hml hP hS (kr_1 E.2.2.2 hP ⟨by decide, by omega, fun z => absurd z (by decide)⟩) (c_AL_get l σ 2 sailing ⟨by decide, by omega, fun z => absurd z (by decide)⟩ n2 (hI.2.2.2.2.2 _ (by omega)) (by rw [hI.2.1.2.2.1, nI_clamp (by omega)]; exact (num_in c_1 hI.2.1.2.2.1 (by omega)))) (cwV 1 hts gX5_against_Jx4a65c_get_915e3 rfl rfl rfl (by decide +kernel) ⟨Nat.le_trans (Nat.le_of_ble_eq_true rfl) hR.1, Nat.le_trans (Nat.le_of_ble_eq_true rfl) hR.2⟩) rfl hl.1 rfl (Nat.le_of_ble_eq_true rfl) dX5_against_16 hf (fun H locs hP hS => ?_)
  refine kcast E (E.2.2.2.1 6 _ rfl).2 (kr_6 E.2.2.2 hP ⟨by decide, vp_lt (num_in c_1 hI.2.1.2.2.1 (by omega)), fun z => absurd z (by decide)⟩) (by decide +kernel) dX5_against_19 ?_
  refine lv_astore_n (lv' := [(2, .ref (g 6 sailing.toNatClampNeg)), (0, .ref (g 0 0)), (1, .int sailing)]) hx hb dX5_against_22 rfl hl (by decide) rfl (fun ls hl => ?_)
  refine lv_aload_n hx hb dX5_against_23 rfl (lv_at hl 0 rfl) ?_
  refine kxS E hml hX hP hS (c_X5_needPlanned l hst σ sailing (num_in c_1 hI.2.1.2.2.1 (by omega))) (va_cwS 1 hts gX5_against_X5_needPlanned rfl rfl rfl (by decide +kernel) ⟨Nat.le_trans (Nat.le_of_ble_eq_true rfl) hR.1, Nat.le_trans (Nat.le_of_ble_eq_true rfl) hR.2⟩) rfl hl.1 rfl (Nat.le_of_ble_eq_true rfl) dX5_against_24 ⟨Nat.le_trans (Nat.le_of_ble_eq_true rfl) hfm.1, Nat.le_trans (Nat.le_of_ble_eq_true rfl) hfm.2⟩ (fun c_2 => ?_) (fun c_2 => ?_)
  · have hq := hq.trans (if_neg c_2)
    have ht := ht.trans (if_neg c_2)
    intro q9 ce H locs hP hS hce hcv hcl
    exact vx_out (fun x hx => (htab x hx).elim) hlocks hce hcv hcl (fun t9 ht9 hW9 => kt _ t9 (by rw [ht]; rfl) (by rw [ht]; decide) hW9 (by rw [ht9]; exact hP) (hS.F ht9)) hS.2.2 (Nat.le_of_ble_eq_true rfl) (Nat.le_of_ble_eq_true rfl)
  have hq := hq.trans (if_pos c_2)
  have ht := ht.trans (if_pos c_2)
  intro H locs hP hS
  have hf : 0 + 1 + 1 ≤ R.cells ∧ 0 + 6 + 6 ≤ R.slots := ⟨Nat.le_trans (Nat.le_of_ble_eq_true rfl) hfm.1, Nat.le_trans (Nat.le_of_ble_eq_true rfl) hfm.2⟩
  refine lv_aload_n hx hb dX5_against_27 rfl (lv_at hl 1 rfl) ?_
  refine lv_aload_n hx hb dX5_against_28 rfl (lv_at hl 0 rfl) ?_
  refine lv_aload_n hx hb dX5_against_29 rfl (lv_at hl 1 rfl) ?_
  refine cg_X5_now E i_X5 hP (by omega) (by decide +kernel) dX5_against_30 ?_
  refine kcV_i E hml hP hS (kr_0 E.2.2.2 hP ⟨by decide, by omega, fun z => absurd z (by decide)⟩) (c_X5_reasonAtDeparture l σ sailing (σ 1 0) hI (num_in c_1 hI.2.1.2.2.1 (by omega))) (cwV 2 hts gX5_against_X5_reasonAtDeparture rfl rfl rfl (by decide +kernel) ⟨Nat.le_trans (Nat.le_of_ble_eq_true rfl) hR.1, Nat.le_trans (Nat.le_of_ble_eq_true rfl) hR.2⟩) rfl hl.1 rfl (Nat.le_of_ble_eq_true rfl) dX5_against_33 hf (fun H locs hP hS => ?_)
  exact W.widen (k := 2) (n := 12) (Nat.le_of_ble_eq_true rfl) (Nat.le_of_ble_eq_true rfl) (kr _ (q_X5_reasonAtDeparture σ sailing (σ 1 0)) H locs ls dX5_against_36 hq.symm ht hP hS)
set_option maxHeartbeats 4000000 in
set_option maxRecDepth 100000 in
theorem c_X5_against (l : Launch) (hst : l.stackTraces = false) {D : va_G} {A : Nat → Prop} {cI cO : ClassId} {g : Gh} {cap N : Nat → Nat} (σ : St) (sailing : Int32) (hI : KI cap N σ) : vx_Met l yX5_against wsX5_against ({ frames := 7, cells := 2, slots := 12, locals := 114 }) (va_Pc [.ref (g 0 0), .int sailing] (cUX D cI cO A g cap N σ)) (va_Qi (fun r (_ : Unit) => r = q_X5_against σ sailing ∧ t_X5_against σ sailing = 0) (fun _ t => cU D cI cO A g cap N (σ) t) A) (vx_X (fun (_ : Unit) => ¬ t_X5_against σ sailing = 0) (fun E _ t => E = exN (t_X5_against σ sailing) ∧ cU D cI cO A g cap N (σ) t) A) 2 12 A := by
  refine vx_ofW (cc := cX5_against) (maxL := 3) (ret := (some .int)) (by decide) rfl ?_
  intro p e s m args below meth c s₁ B hml htab hv
  obtain ⟨rfl, ⟨hP, hK⟩, hX⟩ := hv
  have E : kE p c cX5_against s m ([.ref (g 0 0), .int sailing] : List Value).toArray wsX5_against RX5 D cI cO := ⟨⟨B.exec, B.bytes⟩, atoms_spec (ws := wsX5_against) B.pre, findClass_of_methodNamed B.named, hK⟩
  have hr := B.returns
  have hlocks := B.notSynchronized
  have hl := lv_entry ([.ref (g 0 0), .int sailing]) (n := 3) (Nat.le_of_ble_eq_true rfl)
  rw [lg_entry_eq]
  generalize (lg_sl ([.ref (g 0 0), .int sailing]) ++ List.replicate (3 - (lg_sl ([.ref (g 0 0), .int sailing])).length) Slot.unset).toArray = ls at hl ⊢
  refine w_X5_against hst σ sailing hI E hml ⟨Nat.le_of_ble_eq_true rfl, Nat.le_of_ble_eq_true rfl⟩ ⟨Nat.le_refl _, Nat.le_refl _⟩ hlocks htab hX hP va_S.rf hl (fun pc v H1 locs1 ls1 hd hv h0 hP1 hS1 => ?_) (fun E9 t9 h1 h2 hW9 hP9 hF9 => ⟨(), h2, ⟨h1, hP9, va_K.moved hW9 hK⟩, hF9⟩)
  exact vx_ret (W.iret (v := v) B.exec B.bytes hr (fun t ht hW => ⟨⟨v, (), rfl, ⟨hv, h0⟩, by rw [ht]; exact hP1, va_K.moved hW.alike hK⟩, hS1.F ht⟩) hS1.2.2 hd)
def q_X5_bookingOf (σ : St) (booking : Int32) (what : Int32) : Int32 := if ¬ booking < 0 ∧ booking < (σ 54 3) then (if ¬ what < (0 : Int32) ∧ what ≤ (5 : Int32) then (if what.toInt = 0 then (σ 35 booking.toNatClampNeg) else (if what.toInt = 1 then (σ 36 booking.toNatClampNeg) else (if what.toInt = 2 then (σ 44 booking.toNatClampNeg) else (if what.toInt = 3 then (σ 43 booking.toNatClampNeg) else (if what.toInt = 4 then (σ 45 booking.toNatClampNeg) else (q_X5_fare σ booking)))))) else (0 : Int32)) else (0 : Int32)
def t_X5_bookingOf (σ : St) (booking : Int32) (what : Int32) : Int32 := if ¬ booking < 0 ∧ booking < (σ 54 3) then (if ¬ what < (0 : Int32) ∧ what ≤ (5 : Int32) then (if what.toInt = 0 then (0 : Int32) else (if what.toInt = 1 then (0 : Int32) else (if what.toInt = 2 then (0 : Int32) else (if what.toInt = 3 then (0 : Int32) else (if what.toInt = 4 then (0 : Int32) else (0 : Int32)))))) else (1 : Int32)) else (3 : Int32)
set_option maxHeartbeats 1000000 in
set_option maxRecDepth 100000 in
theorem w_X5_bookingOf {p : Program} {l : Launch} {e : Env} {R : Room} {s : State} {m : MethodId} {args : Array Value} {below : List Frame} {meth : Method} {c : Code} {H : Heap} {locs : List Loc} {Qc : Array Value → State → Outcome → State → Prop} {XC : String → State → State → Prop} {D : va_G} {A : Nat → Prop} {cI cO : ClassId} {g : Gh} {cap N : Nat → Nat} {ls : Array Slot} (hst : l.stackTraces = false) (σ : St) (booking : Int32) (what : Int32) (hI : KI cap N σ) (E : kE p c cX5_bookingOf s m args wsX5_bookingOf RX5 D cI cO) (hml : c.maxLocals = 4) (hR : 7 ≤ R.frames ∧ 104 ≤ R.locals) (hfm : 2 ≤ R.cells ∧ 12 ≤ R.slots) (hlocks : meth.locks = false) (htab : ∀ x ∈ c.exceptionTable.toList, False) (hX : cX A s) (hP : cP D cI cO A g cap N σ H) (hS : va_S A s.heap H locs) (hl : lv_has ls 4 [(0, .ref (g 0 0)), (1, .int booking), (2, .int what)]) (kr : ∀ (pc : Nat) (rv : Int32) (H1 : Heap) (locs1 : List Loc) (ls1 : Array Slot), decode cX5_bookingOf pc = .ok (.ireturn, 1) → rv = q_X5_bookingOf σ booking what → t_X5_bookingOf σ booking what = 0 → cP D cI cO A g cap N σ H1 → va_S A s.heap H1 locs1 → W p l e R s m args below meth c H1 locs1 2 12 (vx_MQ below Qc XC args s 2 12 A) (F0 m pc ls1 [.int rv])) (kt : ∀ (E9 : String) (t9 : State), E9 = exN (t_X5_bookingOf σ booking what) → ¬ t_X5_bookingOf σ booking what = 0 → s.vm.Alike t9.vm → cP D cI cO A g cap N σ t9.heap → va_F A s t9 → XC E9 s t9) : W p l e R s m args below meth c H locs 0 0 (vx_MQ below Qc XC args s 2 12 A) (F0 m 0 ls []) := by
  have hx := E.1.1
  have hb := E.1.2
  have hts := E.2.1
  obtain ⟨n0, n4, n5, n6, n8, n7, n1, n2, n3⟩ := id hI.1
  have i_X1 : ∀ w ∈ wsX10, w ∈ wsX5_bookingOf := by decide +kernel
  have i_X3 : ∀ w ∈ wsX30, w ∈ wsX5_bookingOf := by decide +kernel
  have i_X5 : ∀ w ∈ wsX50, w ∈ wsX5_bookingOf := by decide +kernel
  have hq : q_X5_bookingOf σ booking what = if ¬ booking < 0 ∧ booking < (σ 54 3) then (if ¬ what < (0 : Int32) ∧ what ≤ (5 : Int32) then (if what.toInt = 0 then (σ 35 booking.toNatClampNeg) else (if what.toInt = 1 then (σ 36 booking.toNatClampNeg) else (if what.toInt = 2 then (σ 44 booking.toNatClampNeg) else (if what.toInt = 3 then (σ 43 booking.toNatClampNeg) else (if what.toInt = 4 then (σ 45 booking.toNatClampNeg) else (q_X5_fare σ booking)))))) else (0 : Int32)) else (0 : Int32) := rfl
  have ht : t_X5_bookingOf σ booking what = if ¬ booking < 0 ∧ booking < (σ 54 3) then (if ¬ what < (0 : Int32) ∧ what ≤ (5 : Int32) then (if what.toInt = 0 then (0 : Int32) else (if what.toInt = 1 then (0 : Int32) else (if what.toInt = 2 then (0 : Int32) else (if what.toInt = 3 then (0 : Int32) else (if what.toInt = 4 then (0 : Int32) else (0 : Int32)))))) else (1 : Int32)) else (3 : Int32) := rfl
  have hf : 0 ≤ R.cells ∧ 0 ≤ R.slots := ⟨Nat.zero_le _, Nat.zero_le _⟩
  refine lv_iload_n hx hb dX5_bookingOf_0 rfl (lv_at hl 1 rfl) ?_
  refine lv_aload_n hx hb dX5_bookingOf_1 rfl (lv_at hl 0 rfl) ?_
  refine cg_X5_bookings E i_X5 hP (by omega) (by decide +kernel) dX5_bookingOf_2 ?_
  refine kcV_i E hml hP hS (kr_1 E.2.2.2 hP ⟨by decide, by omega, fun z => absurd z (by decide)⟩) (c_AL_size l σ 3 ⟨by decide, by omega, fun z => absurd z (by decide)⟩) (cwV 0 hts gX5_bookingOf_Jx4a65c_size_8abf5 rfl rfl rfl (by decide +kernel) ⟨Nat.le_trans (Nat.le_of_ble_eq_true rfl) hR.1, Nat.le_trans (Nat.le_of_ble_eq_true rfl) hR.2⟩) rfl hl.1 rfl (Nat.le_of_ble_eq_true rfl) dX5_bookingOf_5 hf (fun H locs hP hS => ?_)
  refine kxS E hml hX hP hS (c_X5_needNumber l hst σ booking (σ 54 3)) (va_cwS 2 hts gX5_bookingOf_X5_needNumber rfl rfl rfl (by decide +kernel) ⟨Nat.le_trans (Nat.le_of_ble_eq_true rfl) hR.1, Nat.le_trans (Nat.le_of_ble_eq_true rfl) hR.2⟩) rfl hl.1 rfl (Nat.le_of_ble_eq_true rfl) dX5_bookingOf_8 ⟨Nat.le_trans (Nat.le_of_ble_eq_true rfl) hfm.1, Nat.le_trans (Nat.le_of_ble_eq_true rfl) hfm.2⟩ (fun c_1 => ?_) (fun c_1 => ?_)
  · have hq := hq.trans (if_neg c_1)
    have ht := ht.trans (if_neg c_1)
    intro q9 ce H locs hP hS hce hcv hcl
    exact vx_out (fun x hx => (htab x hx).elim) hlocks hce hcv hcl (fun t9 ht9 hW9 => kt _ t9 (by rw [ht]; rfl) (by rw [ht]; decide) hW9 (by rw [ht9]; exact hP) (hS.F ht9)) hS.2.2 (Nat.le_of_ble_eq_true rfl) (Nat.le_of_ble_eq_true rfl)
  have hq := hq.trans (if_pos c_1)
  have ht := ht.trans (if_pos c_1)
  intro H locs hP hS
  have hf : 0 + 1 ≤ R.cells ∧ 0 + 6 ≤ R.slots := ⟨Nat.le_trans (Nat.le_of_ble_eq_true rfl) hfm.1, Nat.le_trans (Nat.le_of_ble_eq_true rfl) hfm.2⟩
  refine lv_iload_n hx hb dX5_bookingOf_11 rfl (lv_at hl 2 rfl) ?_
  refine lv_iconst (v := 0) hx hb dX5_bookingOf_12 (by decide) ?_
  refine lv_iconst (v := 5) hx hb dX5_bookingOf_13 (by decide) ?_
  refine kxS E hml hX hP hS (c_X5_needWithin l hst σ what (0 : Int32) (5 : Int32)) (va_cwS 3 hts gX5_bookingOf_X5_needWithin rfl rfl rfl (by decide +kernel) ⟨Nat.le_trans (Nat.le_of_ble_eq_true rfl) hR.1, Nat.le_trans (Nat.le_of_ble_eq_true rfl) hR.2⟩) rfl hl.1 rfl (Nat.le_of_ble_eq_true rfl) dX5_bookingOf_14 ⟨Nat.le_trans (Nat.le_of_ble_eq_true rfl) hfm.1, Nat.le_trans (Nat.le_of_ble_eq_true rfl) hfm.2⟩ (fun c_2 => ?_) (fun c_2 => ?_)
  · have hq := hq.trans (if_neg c_2)
    have ht := ht.trans (if_neg c_2)
    intro q9 ce H locs hP hS hce hcv hcl
    exact vx_out (fun x hx => (htab x hx).elim) hlocks hce hcv hcl (fun t9 ht9 hW9 => kt _ t9 (by rw [ht]; rfl) (by rw [ht]; decide) hW9 (by rw [ht9]; exact hP) (hS.F ht9)) hS.2.2 (Nat.le_of_ble_eq_true rfl) (Nat.le_of_ble_eq_true rfl)
  have hq := hq.trans (if_pos c_2)
  have ht := ht.trans (if_pos c_2)
  intro H locs hP hS
  have hf : 0 + 1 + 1 ≤ R.cells ∧ 0 + 6 + 6 ≤ R.slots := ⟨Nat.le_trans (Nat.le_of_ble_eq_true rfl) hfm.1, Nat.le_trans (Nat.le_of_ble_eq_true rfl) hfm.2⟩
  refine lv_aload_n hx hb dX5_bookingOf_17 rfl (lv_at hl 0 rfl) ?_
  refine cg_X5_bookings E i_X5 hP (by omega) (by decide +kernel) dX5_bookingOf_18 ?_
  refine lv_iload_n hx hb dX5_bookingOf_21 rfl (lv_at hl 1 rfl) ?_
  refine kcV_r (v := g 8 booking.toNatClampNeg) E hml hP hS (kr_1 E.2.2.2 hP ⟨by decide, by omega, fun z => absurd z (by decide)⟩) (c_AL_get l σ 3 booking ⟨by decide, by omega, fun z => absurd z (by decide)⟩ n2 (hI.2.2.2.2.2 _ (by omega)) (by rw [hI.2.1.2.2.2, nI_clamp (by omega)]; exact (num_in c_1 hI.2.1.2.2.2 (by omega)))) (cwV 1 hts gX5_bookingOf_Jx4a65c_get_915e3 rfl rfl rfl (by decide +kernel) ⟨Nat.le_trans (Nat.le_of_ble_eq_true rfl) hR.1, Nat.le_trans (Nat.le_of_ble_eq_true rfl) hR.2⟩) rfl hl.1 rfl (Nat.le_of_ble_eq_true rfl) dX5_bookingOf_22 hf (fun H locs hP hS => ?_)
  refine kcast E (E.2.2.2.1 4 _ rfl).2 (kr_8 E.2.2.2 hP ⟨by decide, vp_lt (num_in c_1 hI.2.1.2.2.2 (by omega)), fun z => absurd z (by decide)⟩) (by decide +kernel) dX5_bookingOf_25 ?_
  refine lv_astore_n (lv' := [(3, .ref (g 8 booking.toNatClampNeg)), (0, .ref (g 0 0)), (1, .int booking), (2, .int what)]) hx hb dX5_bookingOf_28 rfl hl (by decide) rfl (fun ls hl => ?_)
  refine lv_iload_n hx hb dX5_bookingOf_29 rfl (lv_at hl 3 rfl) ?_
  by_cases c_3_0 : what.toInt = 0
  · have hq := hq.trans (if_pos c_3_0)
    have ht := ht.trans (if_pos c_3_0)
    refine lv_tableIn (tgt := 64) hx hb dX5_bookingOf_30 (by omega) (by omega) (by rw [c_3_0]; rfl) (by decide) ?_
    refine lv_aload_n hx hb dX5_bookingOf_64 rfl (lv_at hl 0 rfl) ?_
    refine cg_X1_state E i_X1 hP (num_in c_1 hI.2.1.2.2.2 (by omega)) (by decide +kernel) dX5_bookingOf_65 ?_
    exact W.widen (k := 2) (n := 12) (Nat.le_of_ble_eq_true rfl) (Nat.le_of_ble_eq_true rfl) (kr _ (σ 35 booking.toNatClampNeg) H locs ls dX5_bookingOf_68 hq.symm ht hP hS)
  have hq := hq.trans (if_neg c_3_0)
  have ht := ht.trans (if_neg c_3_0)
  by_cases c_3_1 : what.toInt = 1
  · have hq := hq.trans (if_pos c_3_1)
    have ht := ht.trans (if_pos c_3_1)
    refine lv_tableIn (tgt := 69) hx hb dX5_bookingOf_30 (by omega) (by omega) (by rw [c_3_1]; rfl) (by decide) ?_
    refine lv_aload_n hx hb dX5_bookingOf_69 rfl (lv_at hl 0 rfl) ?_
    refine cg_X1_sailing E i_X1 hP (num_in c_1 hI.2.1.2.2.2 (by omega)) (by decide +kernel) dX5_bookingOf_70 ?_
    refine cg_X3_number E i_X3 hP (hI.2.2.2.1 _ (vp_lt (num_in c_1 hI.2.1.2.2.2 (by omega)))) (by omega) (by decide +kernel) dX5_bookingOf_73 ?_
    exact W.widen (k := 2) (n := 12) (Nat.le_of_ble_eq_true rfl) (Nat.le_of_ble_eq_true rfl) (kr _ (σ 36 booking.toNatClampNeg) H locs ls dX5_bookingOf_76 hq.symm ht hP hS)
  have hq := hq.trans (if_neg c_3_1)
  have ht := ht.trans (if_neg c_3_1)
  by_cases c_3_2 : what.toInt = 2
  · have hq := hq.trans (if_pos c_3_2)
    have ht := ht.trans (if_pos c_3_2)
    refine lv_tableIn (tgt := 77) hx hb dX5_bookingOf_30 (by omega) (by omega) (by rw [c_3_2]; rfl) (by decide) ?_
    refine lv_aload_n hx hb dX5_bookingOf_77 rfl (lv_at hl 0 rfl) ?_
    refine cg_X1_reason E i_X1 hP (num_in c_1 hI.2.1.2.2.2 (by omega)) (by decide +kernel) dX5_bookingOf_78 ?_
    exact W.widen (k := 2) (n := 12) (Nat.le_of_ble_eq_true rfl) (Nat.le_of_ble_eq_true rfl) (kr _ (σ 44 booking.toNatClampNeg) H locs ls dX5_bookingOf_81 hq.symm ht hP hS)
  have hq := hq.trans (if_neg c_3_2)
  have ht := ht.trans (if_neg c_3_2)
  by_cases c_3_3 : what.toInt = 3
  · have hq := hq.trans (if_pos c_3_3)
    have ht := ht.trans (if_pos c_3_3)
    refine lv_tableIn (tgt := 82) hx hb dX5_bookingOf_30 (by omega) (by omega) (by rw [c_3_3]; rfl) (by decide) ?_
    refine lv_aload_n hx hb dX5_bookingOf_82 rfl (lv_at hl 0 rfl) ?_
    refine cg_X1_points E i_X1 hP (num_in c_1 hI.2.1.2.2.2 (by omega)) (by decide +kernel) dX5_bookingOf_83 ?_
    exact W.widen (k := 2) (n := 12) (Nat.le_of_ble_eq_true rfl) (Nat.le_of_ble_eq_true rfl) (kr _ (σ 43 booking.toNatClampNeg) H locs ls dX5_bookingOf_86 hq.symm ht hP hS)
  have hq := hq.trans (if_neg c_3_3)
  have ht := ht.trans (if_neg c_3_3)
  by_cases c_3_4 : what.toInt = 4
  · have hq := hq.trans (if_pos c_3_4)
    have ht := ht.trans (if_pos c_3_4)
    refine lv_tableIn (tgt := 87) hx hb dX5_bookingOf_30 (by omega) (by omega) (by rw [c_3_4]; rfl) (by decide) ?_
    refine lv_aload_n hx hb dX5_bookingOf_87 rfl (lv_at hl 0 rfl) ?_
    refine cg_X1_side E i_X1 hP (num_in c_1 hI.2.1.2.2.2 (by omega)) (by decide +kernel) dX5_bookingOf_88 ?_
    exact W.widen (k := 2) (n := 12) (Nat.le_of_ble_eq_true rfl) (Nat.le_of_ble_eq_true rfl) (kr _ (σ 45 booking.toNatClampNeg) H locs ls dX5_bookingOf_91 hq.symm ht hP hS)
  have hq := hq.trans (if_neg c_3_4)
  have ht := ht.trans (if_neg c_3_4)
  refine lv_tableOut (tgt := 92) hx hb dX5_bookingOf_30 (by omega) (by decide) ?_
  refine lv_aload_n hx hb dX5_bookingOf_92 rfl (lv_at hl 1 rfl) ?_
  refine lv_aload_n hx hb dX5_bookingOf_93 rfl (lv_at hl 0 rfl) ?_
  refine kcV_i E hml hP hS (kr_0 E.2.2.2 hP ⟨by decide, by omega, fun z => absurd z (by decide)⟩) (c_X5_fare l σ booking hI (num_in c_1 hI.2.1.2.2.2 (by omega))) (cwV 1 hts gX5_bookingOf_X5_fare rfl rfl rfl (by decide +kernel) ⟨Nat.le_trans (Nat.le_of_ble_eq_true rfl) hR.1, Nat.le_trans (Nat.le_of_ble_eq_true rfl) hR.2⟩) rfl hl.1 rfl (Nat.le_of_ble_eq_true rfl) dX5_bookingOf_94 hf (fun H locs hP hS => ?_)
  exact W.widen (k := 2) (n := 12) (Nat.le_of_ble_eq_true rfl) (Nat.le_of_ble_eq_true rfl) (kr _ (q_X5_fare σ booking) H locs ls dX5_bookingOf_97 hq.symm ht hP hS)
set_option maxHeartbeats 4000000 in
set_option maxRecDepth 100000 in
theorem c_X5_bookingOf (l : Launch) (hst : l.stackTraces = false) {D : va_G} {A : Nat → Prop} {cI cO : ClassId} {g : Gh} {cap N : Nat → Nat} (σ : St) (booking : Int32) (what : Int32) (hI : KI cap N σ) : vx_Met l yX5_bookingOf wsX5_bookingOf ({ frames := 7, cells := 2, slots := 12, locals := 104 }) (va_Pc [.ref (g 0 0), .int booking, .int what] (cUX D cI cO A g cap N σ)) (va_Qi (fun r (_ : Unit) => r = q_X5_bookingOf σ booking what ∧ t_X5_bookingOf σ booking what = 0) (fun _ t => cU D cI cO A g cap N (σ) t) A) (vx_X (fun (_ : Unit) => ¬ t_X5_bookingOf σ booking what = 0) (fun E _ t => E = exN (t_X5_bookingOf σ booking what) ∧ cU D cI cO A g cap N (σ) t) A) 2 12 A := by
  refine vx_ofW (cc := cX5_bookingOf) (maxL := 4) (ret := (some .int)) (by decide) rfl ?_
  intro p e s m args below meth c s₁ B hml htab hv
  obtain ⟨rfl, ⟨hP, hK⟩, hX⟩ := hv
  have E : kE p c cX5_bookingOf s m ([.ref (g 0 0), .int booking, .int what] : List Value).toArray wsX5_bookingOf RX5 D cI cO := ⟨⟨B.exec, B.bytes⟩, atoms_spec (ws := wsX5_bookingOf) B.pre, findClass_of_methodNamed B.named, hK⟩
  have hr := B.returns
  have hlocks := B.notSynchronized
  have hl := lv_entry ([.ref (g 0 0), .int booking, .int what]) (n := 4) (Nat.le_of_ble_eq_true rfl)
  rw [lg_entry_eq]
  generalize (lg_sl ([.ref (g 0 0), .int booking, .int what]) ++ List.replicate (4 - (lg_sl ([.ref (g 0 0), .int booking, .int what])).length) Slot.unset).toArray = ls at hl ⊢
  refine w_X5_bookingOf hst σ booking what hI E hml ⟨Nat.le_of_ble_eq_true rfl, Nat.le_of_ble_eq_true rfl⟩ ⟨Nat.le_refl _, Nat.le_refl _⟩ hlocks htab hX hP va_S.rf hl (fun pc v H1 locs1 ls1 hd hv h0 hP1 hS1 => ?_) (fun E9 t9 h1 h2 hW9 hP9 hF9 => ⟨(), h2, ⟨h1, hP9, va_K.moved hW9 hK⟩, hF9⟩)
  exact vx_ret (W.iret (v := v) B.exec B.bytes hr (fun t ht hW => ⟨⟨v, (), rfl, ⟨hv, h0⟩, by rw [ht]; exact hP1, va_K.moved hW.alike hK⟩, hS1.F ht⟩) hS1.2.2 hd)
def q_X5_gap (σ : St) (pier : Int32) (what : Int32) : Int32 := if ¬ pier < 0 ∧ pier < (σ 54 0) then (if ¬ what < (0 : Int32) ∧ what ≤ (2 : Int32) then (if what = 0 then (q_X2_gapAt σ pier (σ 1 0)) else (if what = (1 : Int32) then (q_X2_longestGapAt σ pier (σ 1 0)) else (q_X2_longestCauseAt σ pier (σ 1 0)))) else (0 : Int32)) else (0 : Int32)
def t_X5_gap (σ : St) (pier : Int32) (what : Int32) : Int32 := if ¬ pier < 0 ∧ pier < (σ 54 0) then (if ¬ what < (0 : Int32) ∧ what ≤ (2 : Int32) then (if what = 0 then (0 : Int32) else (0 : Int32)) else (1 : Int32)) else (3 : Int32)
set_option maxHeartbeats 1000000 in
set_option maxRecDepth 100000 in
theorem w_X5_gap {p : Program} {l : Launch} {e : Env} {R : Room} {s : State} {m : MethodId} {args : Array Value} {below : List Frame} {meth : Method} {c : Code} {H : Heap} {locs : List Loc} {Qc : Array Value → State → Outcome → State → Prop} {XC : String → State → State → Prop} {D : va_G} {A : Nat → Prop} {cI cO : ClassId} {g : Gh} {cap N : Nat → Nat} {ls : Array Slot} (hst : l.stackTraces = false) (σ : St) (pier : Int32) (what : Int32) (hI : KI cap N σ) (E : kE p c cX5_gap s m args wsX5_gap RX5 D cI cO) (hml : c.maxLocals = 4) (hR : 7 ≤ R.frames ∧ 104 ≤ R.locals) (hfm : 2 ≤ R.cells ∧ 12 ≤ R.slots) (hlocks : meth.locks = false) (htab : ∀ x ∈ c.exceptionTable.toList, False) (hX : cX A s) (hP : cP D cI cO A g cap N σ H) (hS : va_S A s.heap H locs) (hl : lv_has ls 4 [(0, .ref (g 0 0)), (1, .int pier), (2, .int what)]) (kr : ∀ (pc : Nat) (rv : Int32) (H1 : Heap) (locs1 : List Loc) (ls1 : Array Slot), decode cX5_gap pc = .ok (.ireturn, 1) → rv = q_X5_gap σ pier what → t_X5_gap σ pier what = 0 → cP D cI cO A g cap N σ H1 → va_S A s.heap H1 locs1 → W p l e R s m args below meth c H1 locs1 2 12 (vx_MQ below Qc XC args s 2 12 A) (F0 m pc ls1 [.int rv])) (kt : ∀ (E9 : String) (t9 : State), E9 = exN (t_X5_gap σ pier what) → ¬ t_X5_gap σ pier what = 0 → s.vm.Alike t9.vm → cP D cI cO A g cap N σ t9.heap → va_F A s t9 → XC E9 s t9) : W p l e R s m args below meth c H locs 0 0 (vx_MQ below Qc XC args s 2 12 A) (F0 m 0 ls []) := by
  have hx := E.1.1
  have hb := E.1.2
  have hts := E.2.1
  obtain ⟨n0, n4, n5, n6, n8, n7, n1, n2, n3⟩ := id hI.1
  have i_X5 : ∀ w ∈ wsX50, w ∈ wsX5_gap := by decide +kernel
  have hq : q_X5_gap σ pier what = if ¬ pier < 0 ∧ pier < (σ 54 0) then (if ¬ what < (0 : Int32) ∧ what ≤ (2 : Int32) then (if what = 0 then (q_X2_gapAt σ pier (σ 1 0)) else (if what = (1 : Int32) then (q_X2_longestGapAt σ pier (σ 1 0)) else (q_X2_longestCauseAt σ pier (σ 1 0)))) else (0 : Int32)) else (0 : Int32) := rfl
  have ht : t_X5_gap σ pier what = if ¬ pier < 0 ∧ pier < (σ 54 0) then (if ¬ what < (0 : Int32) ∧ what ≤ (2 : Int32) then (if what = 0 then (0 : Int32) else (0 : Int32)) else (1 : Int32)) else (3 : Int32) := rfl
  have hf : 0 ≤ R.cells ∧ 0 ≤ R.slots := ⟨Nat.zero_le _, Nat.zero_le _⟩
  refine lv_iload_n hx hb dX5_gap_0 rfl (lv_at hl 1 rfl) ?_
  refine lv_aload_n hx hb dX5_gap_1 rfl (lv_at hl 0 rfl) ?_
  refine cg_X5_piers E i_X5 hP (by omega) (by decide +kernel) dX5_gap_2 ?_
  refine kcV_i E hml hP hS (kr_1 E.2.2.2 hP ⟨by decide, by omega, fun z => absurd z (by decide)⟩) (c_AL_size l σ 0 ⟨by decide, by omega, fun z => absurd z (by decide)⟩) (cwV 0 hts gX5_gap_Jx4a65c_size_8abf5 rfl rfl rfl (by decide +kernel) ⟨Nat.le_trans (Nat.le_of_ble_eq_true rfl) hR.1, Nat.le_trans (Nat.le_of_ble_eq_true rfl) hR.2⟩) rfl hl.1 rfl (Nat.le_of_ble_eq_true rfl) dX5_gap_5 hf (fun H locs hP hS => ?_)
  refine kxS E hml hX hP hS (c_X5_needNumber l hst σ pier (σ 54 0)) (va_cwS 2 hts gX5_gap_X5_needNumber rfl rfl rfl (by decide +kernel) ⟨Nat.le_trans (Nat.le_of_ble_eq_true rfl) hR.1, Nat.le_trans (Nat.le_of_ble_eq_true rfl) hR.2⟩) rfl hl.1 rfl (Nat.le_of_ble_eq_true rfl) dX5_gap_8 ⟨Nat.le_trans (Nat.le_of_ble_eq_true rfl) hfm.1, Nat.le_trans (Nat.le_of_ble_eq_true rfl) hfm.2⟩ (fun c_1 => ?_) (fun c_1 => ?_)
  · have hq := hq.trans (if_neg c_1)
    have ht := ht.trans (if_neg c_1)
    intro q9 ce H locs hP hS hce hcv hcl
    exact vx_out (fun x hx => (htab x hx).elim) hlocks hce hcv hcl (fun t9 ht9 hW9 => kt _ t9 (by rw [ht]; rfl) (by rw [ht]; decide) hW9 (by rw [ht9]; exact hP) (hS.F ht9)) hS.2.2 (Nat.le_of_ble_eq_true rfl) (Nat.le_of_ble_eq_true rfl)
  have hq := hq.trans (if_pos c_1)
  have ht := ht.trans (if_pos c_1)
  intro H locs hP hS
  have hf : 0 + 1 ≤ R.cells ∧ 0 + 6 ≤ R.slots := ⟨Nat.le_trans (Nat.le_of_ble_eq_true rfl) hfm.1, Nat.le_trans (Nat.le_of_ble_eq_true rfl) hfm.2⟩
  refine lv_iload_n hx hb dX5_gap_11 rfl (lv_at hl 2 rfl) ?_
  refine lv_iconst (v := 0) hx hb dX5_gap_12 (by decide) ?_
  refine lv_iconst (v := 2) hx hb dX5_gap_13 (by decide) ?_
  refine kxS E hml hX hP hS (c_X5_needWithin l hst σ what (0 : Int32) (2 : Int32)) (va_cwS 3 hts gX5_gap_X5_needWithin rfl rfl rfl (by decide +kernel) ⟨Nat.le_trans (Nat.le_of_ble_eq_true rfl) hR.1, Nat.le_trans (Nat.le_of_ble_eq_true rfl) hR.2⟩) rfl hl.1 rfl (Nat.le_of_ble_eq_true rfl) dX5_gap_14 ⟨Nat.le_trans (Nat.le_of_ble_eq_true rfl) hfm.1, Nat.le_trans (Nat.le_of_ble_eq_true rfl) hfm.2⟩ (fun c_2 => ?_) (fun c_2 => ?_)
  · have hq := hq.trans (if_neg c_2)
    have ht := ht.trans (if_neg c_2)
    intro q9 ce H locs hP hS hce hcv hcl
    exact vx_out (fun x hx => (htab x hx).elim) hlocks hce hcv hcl (fun t9 ht9 hW9 => kt _ t9 (by rw [ht]; rfl) (by rw [ht]; decide) hW9 (by rw [ht9]; exact hP) (hS.F ht9)) hS.2.2 (Nat.le_of_ble_eq_true rfl) (Nat.le_of_ble_eq_true rfl)
  have hq := hq.trans (if_pos c_2)
  have ht := ht.trans (if_pos c_2)
  intro H locs hP hS
  have hf : 0 + 1 + 1 ≤ R.cells ∧ 0 + 6 + 6 ≤ R.slots := ⟨Nat.le_trans (Nat.le_of_ble_eq_true rfl) hfm.1, Nat.le_trans (Nat.le_of_ble_eq_true rfl) hfm.2⟩
  refine lv_aload_n hx hb dX5_gap_17 rfl (lv_at hl 0 rfl) ?_
  refine cg_X5_piers E i_X5 hP (by omega) (by decide +kernel) dX5_gap_18 ?_
  refine lv_iload_n hx hb dX5_gap_21 rfl (lv_at hl 1 rfl) ?_
  refine kcV_r (v := g 4 pier.toNatClampNeg) E hml hP hS (kr_1 E.2.2.2 hP ⟨by decide, by omega, fun z => absurd z (by decide)⟩) (c_AL_get l σ 0 pier ⟨by decide, by omega, fun z => absurd z (by decide)⟩ n2 (hI.2.2.2.2.2 _ (by omega)) (by rw [hI.2.1.1, nI_clamp (by omega)]; exact (num_in c_1 hI.2.1.1 (by omega)))) (cwV 1 hts gX5_gap_Jx4a65c_get_915e3 rfl rfl rfl (by decide +kernel) ⟨Nat.le_trans (Nat.le_of_ble_eq_true rfl) hR.1, Nat.le_trans (Nat.le_of_ble_eq_true rfl) hR.2⟩) rfl hl.1 rfl (Nat.le_of_ble_eq_true rfl) dX5_gap_22 hf (fun H locs hP hS => ?_)
  refine kcast E (E.2.2.2.1 5 _ rfl).2 (kr_4 E.2.2.2 hP ⟨by decide, vp_lt (num_in c_1 hI.2.1.1 (by omega)), fun z => absurd z (by decide)⟩) (by decide +kernel) dX5_gap_25 ?_
  refine lv_astore_n (lv' := [(3, .ref (g 4 pier.toNatClampNeg)), (0, .ref (g 0 0)), (1, .int pier), (2, .int what)]) hx hb dX5_gap_28 rfl hl (by decide) rfl (fun ls hl => ?_)
  refine lv_iload_n hx hb dX5_gap_29 rfl (lv_at hl 3 rfl) ?_
  refine lv_if_ne (tgt := 42) hx hb dX5_gap_30 (by decide) (fun c_3 => ?_) (fun c_3 => ?_)
  · have hq := hq.trans (if_neg c_3)
    have ht := ht.trans (if_neg c_3)
    refine lv_iload_n hx hb dX5_gap_42 rfl (lv_at hl 3 rfl) ?_
    refine lv_iconst (v := 1) hx hb dX5_gap_43 (by decide) ?_
    have J_4 : ∀ (y4_t0 : Int32) (H : Heap) (locs : List Loc) (ls : Array Slot), y4_t0 = (if what = (1 : Int32) then (q_X2_longestGapAt σ pier (σ 1 0)) else (q_X2_longestCauseAt σ pier (σ 1 0))) → cP D cI cO A g cap N σ H → va_S A s.heap H locs → lv_has ls 4 [(3, .ref (g 4 pier.toNatClampNeg)), (0, .ref (g 0 0)), (1, .int pier), (2, .int what)] → W p l e R s m args below meth c H locs (0 + 1 + 1) (0 + 6 + 6) (vx_MQ below Qc XC args s 2 12 A) (F0 m 66 ls [.int y4_t0]) := by
      intro y4_t0 H locs ls e_y4_t0 hP hS hl
      subst e_y4_t0
      exact W.widen (k := 2) (n := 12) (Nat.le_of_ble_eq_true rfl) (Nat.le_of_ble_eq_true rfl) (kr _ (if what = (1 : Int32) then (q_X2_longestGapAt σ pier (σ 1 0)) else (q_X2_longestCauseAt σ pier (σ 1 0))) H locs ls dX5_gap_66 hq.symm ht hP hS)
    refine lv_icmp_ne (tgt := 58) hx hb dX5_gap_44 (by decide) (fun c_4 => ?_) (fun c_4 => ?_)
    · refine lv_aload_n hx hb dX5_gap_58 rfl (lv_at hl 0 rfl) ?_
      refine lv_aload_n hx hb dX5_gap_59 rfl (lv_at hl 1 rfl) ?_
      refine cg_X5_now E i_X5 hP (by omega) (by decide +kernel) dX5_gap_60 ?_
      refine kcV_i E hml hP hS (kr_4 E.2.2.2 hP ⟨by decide, vp_lt (num_in c_1 hI.2.1.1 (by omega)), fun z => absurd z (by decide)⟩) (c_X2_longestCauseAt l σ pier (σ 1 0) hI (num_in c_1 hI.2.1.1 (by omega))) (cwV 1 hts gX5_gap_X2_longestCauseAt rfl rfl rfl (by decide +kernel) ⟨Nat.le_trans (Nat.le_of_ble_eq_true rfl) hR.1, Nat.le_trans (Nat.le_of_ble_eq_true rfl) hR.2⟩) rfl hl.1 rfl (Nat.le_of_ble_eq_true rfl) dX5_gap_63 hf (fun H locs hP hS => ?_)
      exact J_4 (q_X2_longestCauseAt σ pier (σ 1 0)) H locs ls (if_neg c_4).symm hP hS (lv_sub hl [0, 1, 2, 3] rfl)
    refine lv_aload_n hx hb dX5_gap_47 rfl (lv_at hl 0 rfl) ?_
    refine lv_aload_n hx hb dX5_gap_48 rfl (lv_at hl 1 rfl) ?_
    refine cg_X5_now E i_X5 hP (by omega) (by decide +kernel) dX5_gap_49 ?_
    refine kcV_i E hml hP hS (kr_4 E.2.2.2 hP ⟨by decide, vp_lt (num_in c_1 hI.2.1.1 (by omega)), fun z => absurd z (by decide)⟩) (c_X2_longestGapAt l σ pier (σ 1 0) hI (num_in c_1 hI.2.1.1 (by omega))) (cwV 1 hts gX5_gap_X2_longestGapAt rfl rfl rfl (by decide +kernel) ⟨Nat.le_trans (Nat.le_of_ble_eq_true rfl) hR.1, Nat.le_trans (Nat.le_of_ble_eq_true rfl) hR.2⟩) rfl hl.1 rfl (Nat.le_of_ble_eq_true rfl) dX5_gap_52 hf (fun H locs hP hS => ?_)
    refine lv_goto (tgt := 66) hx hb dX5_gap_55 (by decide) ?_
    exact J_4 (q_X2_longestGapAt σ pier (σ 1 0)) H locs ls (if_pos c_4).symm hP hS (lv_sub hl [0, 1, 2, 3] rfl)
  have hq := hq.trans (if_pos c_3)
  have ht := ht.trans (if_pos c_3)
  refine lv_aload_n hx hb dX5_gap_33 rfl (lv_at hl 0 rfl) ?_
  refine lv_aload_n hx hb dX5_gap_34 rfl (lv_at hl 1 rfl) ?_
  refine cg_X5_now E i_X5 hP (by omega) (by decide +kernel) dX5_gap_35 ?_
  refine kcV_i E hml hP hS (kr_4 E.2.2.2 hP ⟨by decide, vp_lt (num_in c_1 hI.2.1.1 (by omega)), fun z => absurd z (by decide)⟩) (c_X2_gapAt l σ pier (σ 1 0) hI (num_in c_1 hI.2.1.1 (by omega))) (cwV 1 hts gX5_gap_X2_gapAt rfl rfl rfl (by decide +kernel) ⟨Nat.le_trans (Nat.le_of_ble_eq_true rfl) hR.1, Nat.le_trans (Nat.le_of_ble_eq_true rfl) hR.2⟩) rfl hl.1 rfl (Nat.le_of_ble_eq_true rfl) dX5_gap_38 hf (fun H locs hP hS => ?_)
  exact W.widen (k := 2) (n := 12) (Nat.le_of_ble_eq_true rfl) (Nat.le_of_ble_eq_true rfl) (kr _ (q_X2_gapAt σ pier (σ 1 0)) H locs ls dX5_gap_41 hq.symm ht hP hS)
set_option maxHeartbeats 4000000 in
set_option maxRecDepth 100000 in
theorem c_X5_gap (l : Launch) (hst : l.stackTraces = false) {D : va_G} {A : Nat → Prop} {cI cO : ClassId} {g : Gh} {cap N : Nat → Nat} (σ : St) (pier : Int32) (what : Int32) (hI : KI cap N σ) : vx_Met l yX5_gap wsX5_gap ({ frames := 7, cells := 2, slots := 12, locals := 104 }) (va_Pc [.ref (g 0 0), .int pier, .int what] (cUX D cI cO A g cap N σ)) (va_Qi (fun r (_ : Unit) => r = q_X5_gap σ pier what ∧ t_X5_gap σ pier what = 0) (fun _ t => cU D cI cO A g cap N (σ) t) A) (vx_X (fun (_ : Unit) => ¬ t_X5_gap σ pier what = 0) (fun E _ t => E = exN (t_X5_gap σ pier what) ∧ cU D cI cO A g cap N (σ) t) A) 2 12 A := by
  refine vx_ofW (cc := cX5_gap) (maxL := 4) (ret := (some .int)) (by decide) rfl ?_
  intro p e s m args below meth c s₁ B hml htab hv
  obtain ⟨rfl, ⟨hP, hK⟩, hX⟩ := hv
  have E : kE p c cX5_gap s m ([.ref (g 0 0), .int pier, .int what] : List Value).toArray wsX5_gap RX5 D cI cO := ⟨⟨B.exec, B.bytes⟩, atoms_spec (ws := wsX5_gap) B.pre, findClass_of_methodNamed B.named, hK⟩
  have hr := B.returns
  have hlocks := B.notSynchronized
  have hl := lv_entry ([.ref (g 0 0), .int pier, .int what]) (n := 4) (Nat.le_of_ble_eq_true rfl)
  rw [lg_entry_eq]
  generalize (lg_sl ([.ref (g 0 0), .int pier, .int what]) ++ List.replicate (4 - (lg_sl ([.ref (g 0 0), .int pier, .int what])).length) Slot.unset).toArray = ls at hl ⊢
  refine w_X5_gap hst σ pier what hI E hml ⟨Nat.le_of_ble_eq_true rfl, Nat.le_of_ble_eq_true rfl⟩ ⟨Nat.le_refl _, Nat.le_refl _⟩ hlocks htab hX hP va_S.rf hl (fun pc v H1 locs1 ls1 hd hv h0 hP1 hS1 => ?_) (fun E9 t9 h1 h2 hW9 hP9 hF9 => ⟨(), h2, ⟨h1, hP9, va_K.moved hW9 hK⟩, hF9⟩)
  exact vx_ret (W.iret (v := v) B.exec B.bytes hr (fun t ht hW => ⟨⟨v, (), rfl, ⟨hv, h0⟩, by rw [ht]; exact hP1, va_K.moved hW.alike hK⟩, hS1.F ht⟩) hS1.2.2 hd)
