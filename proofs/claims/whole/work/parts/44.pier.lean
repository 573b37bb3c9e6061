/-! a pier made and told to its list -/
theorem cP_A {D : va_G} {cI cO : ClassId} {A : Nat → Prop} {g : Gh} {cap N : Nat → Nat} {τ : St} {H : Heap} {r : Nat} (h : cP D cI cO A g cap N τ H) (hfr : ∀ k n, lv N cap k n → g k n ≠ r) : cP D cI cO (fun x => A x ∧ x ≠ r) g cap N τ H := ⟨fun k n hl => ⟨(h.1 k n hl).1, (h.1 k n hl).2, hfr k n hl⟩, h.2⟩
theorem cP_B {D : va_G} {cI cO : ClassId} {A : Nat → Prop} {g : Gh} {cap N : Nat → Nat} {τ : St} {H : Heap} {r : Nat} (h : cP D cI cO (fun x => A x ∧ x ≠ r) g cap N τ H) : cP D cI cO A g cap N τ H := ⟨fun k n hl => ⟨(h.1 k n hl).1, (h.1 k n hl).2.1⟩, h.2⟩
section KNI
variable {p : Program} {l : Launch} {e : Env} {R : Room} {s : State} {m : MethodId} {args : Array Value} {below : List Frame} {meth : Method} {c : Code} {H : Heap} {locs : List Loc} {cells slots : Nat} {Q : State → Prop}
variable {cc : ByteArray} {pc : Nat} {ls : Array Slot} {rest : List Value} {D : va_G} {A : Nat → Prop} {Ts : List Cond} {own C : String} {cI cO : ClassId} {g : Gh} {cap N : Nat → Nat} {τ τ' : St}
/-- a call that leaves one cell alone -/
theorem kn_i {y : MethodName} {ws : List Cond} {rm : Room} {bytes : ByteArray} {maxL nL n index r : Nat} {v : Int32} {ret : Option FieldType} {As st0 : List Value} {b : Addr} (E : kE p c cc s m args Ts own D cI cO) (hml : c.maxLocals = nL) (hP : cP D cI cO A g cap N τ H) (hfr : ∀ k n, lv N cap k n → g k n ≠ r) (hrl : r < H.size) (hS : va_S A s.heap H locs) (hrc : ∃ cell : Cell, H[b]? = some cell ∧ cell.vm.isStatics = false ∧ s.vm.findClass C = some cell.cls) (ct : Met l y ws rm (va_Pc (.ref b :: As) (cU D cI cO (fun x => A x ∧ x ≠ r) g cap N τ)) (va_Qi (fun r (_ : Unit) => r = v) (fun _ t => cU D cI cO (fun x => A x ∧ x ≠ r) g cap N τ' t) (fun x => A x ∧ x ≠ r)) 0 0 (fun x => A x ∧ x ≠ r)) (cw : CallW R s args own C index y bytes maxL ret ws rm 0 0 n) (hn : As.length = n) (hsz : ls.size = nL) (hst : st0 = As.reverse ++ .ref b :: rest) (hW : (rest.map fun v => v.category).sum ≤ 8) (hdg : decode cc pc = .ok (.invokevirtual index, 3)) (hf : cells + 0 ≤ R.cells ∧ slots + 0 ≤ R.slots) (kk : ∀ (H1 : Heap) (locs1 : List Loc), cP D cI cO A g cap N τ' H1 → H1[r]? = H[r]? → H.size ≤ H1.size → va_S A s.heap H1 locs1 → W p l e R s m args below meth c H1 locs1 cells slots Q (F0 m (pc + 3) ls (.int v :: rest))) : W p l e R s m args below meth c H locs cells slots Q (F0 m pc ls st0) := by
  refine va_calli (va_runV (As := As) (rest := rest) ⟨E.1.1, E.1.2, hml, E.2.2.1, E.2.1⟩ ct cw ⟨cBl, hrc, fun U hU hW => ⟨rfl, by rw [hU]; exact cP_A hP hfr, va_K.moved hW.alike E.2.2.2⟩⟩ rfl hn hsz hst (lv_room hW) hdg hf) hS (fun _ _ q => q.1) (fun _ q => q.1) (fun v u t H1 locs1 ht hvm hw hB hz hk hS1 => ?_)
  subst hw
  have hB1 := hB.1
  rw [ht] at hB1
  exact kk H1 locs1 (cP_B hB1) (hk r hrl (fun z => z.2 rfl)) hz hS1
end KNI
theorem KI_s20 {cap N : Nat → Nat} {σ : St} (h : KI cap N σ) {j : Nat} {v : Int32} (hv : isB v) : KI cap N (st σ 20 j v) := by
  obtain ⟨h1, h2, h3, h4, h5, h6⟩ := h
  refine ⟨h1, h2, h3, h4, fun n => ⟨?_, (h5 n).2⟩, fun q hq => ?_⟩
  · rw [st_at]
    by_cases hk : n = j
    · rw [if_pos ⟨rfl, hk⟩]; exact hv
    · rw [if_neg (fun z => hk z.2)]; exact (h5 n).1
  · obtain ⟨C, a, b, c, d⟩ := h6 q hq
    unfold KL
    rw [st_nf σ j v (f := 20) (g := 54) (by decide), st_nf σ j v (f := 20) (g := 100 + q) (by omega)]
    exact ⟨C, a, b, c, d⟩
theorem KI_s41 {cap N : Nat → Nat} {σ : St} (h : KI cap N σ) {j : Nat} {v : Int32} (hv : isB v) : KI cap N (st σ 41 j v) := by
  obtain ⟨h1, h2, h3, h4, h5, h6⟩ := h
  refine ⟨h1, h2, h3, h4, fun n => ⟨(h5 n).1, ?_⟩, fun q hq => ?_⟩
  · rw [st_at]
    by_cases hk : n = j
    · rw [if_pos ⟨rfl, hk⟩]; exact hv
    · rw [if_neg (fun z => hk z.2)]; exact (h5 n).2
  · obtain ⟨C, a, b, c, d⟩ := h6 q hq
    unfold KL
    rw [st_nf σ j v (f := 41) (g := 54) (by decide), st_nf σ j v (f := 41) (g := 100 + q) (by omega)]
    exact ⟨C, a, b, c, d⟩
def m_X5_pier (N : Nat → Nat) (σ : St) (depth : Int32) (range : Int32) (phase : Int32) (isLit : Int32) : St := st (st (st (st (st (st (st (st (st (σ) 3 (N 4) (depth)) 4 (N 4) (range)) 5 (N 4) (phase)) 6 (N 4) (isLit)) 7 (N 4) (0)) 8 (N 4) (0)) 9 (N 4) (0)) 10 (N 4) (0)) 11 (N 4) (0)
def s_X5_pier (N : Nat → Nat) (σ : St) (depth : Int32) (range : Int32) (phase : Int32) (isLit : Int32) : St := st (st (m_X5_pier N σ depth range phase isLit) 52 (lof 4) ((m_X5_pier N σ depth range phase isLit) 52 (lof 4) + 1)) 54 (lof 4) (nI (N 4 + 1))
set_option maxHeartbeats 4000000 in
set_option maxRecDepth 100000 in
theorem c_X5_pier (l : Launch) (hst : l.stackTraces = false) {D : va_G} {A : Nat → Prop} {cI cO : ClassId} {aE : Nat} {g : Gh} {N : Nat → Nat} (σ : St) (depth : Int32) (range : Int32) (phase : Int32) (isLit : Int32) (h_isLit : isB isLit) : vx_Met l yX5_pier wsX5_pier ({ frames := 8, cells := 6, slots := 196, locals := 215 }) (va_Pc [.ref (g 0 0), .int depth, .int range, .int phase, .int isLit] (cGX D cI cO A aE g N σ)) (va_Qi (fun r (u : Gh) => r = nI (N 4) ∧ t_X5_pier σ depth range phase isLit = 0 ∧ KN (Nn N 4) ∧ ∀ k n, n < N k → u k n = g k n) (fun u t => cGU D cI cO A aE u (Nn N 4) (s_X5_pier N σ depth range phase isLit) t) A) (vx_X (fun (_ : Unit) => ¬ t_X5_pier σ depth range phase isLit = 0) (fun E _ t => E = exN (t_X5_pier σ depth range phase isLit) ∧ cGU D cI cO A aE g N σ t) A) 6 196 A := by
  refine vx_ofW (cc := cX5_pier) (maxL := 6) (ret := (some .int)) (by decide) rfl ?_
  intro p e s m args below meth c s₁ B hml htab hv
  obtain ⟨rfl, ⟨⟨⟨ga, cap, hG, hI, hP⟩, hK⟩, hY⟩, hX⟩ := hv
  have E : kE p c cX5_pier s m ([.ref (g 0 0), .int depth, .int range, .int phase, .int isLit] : List Value).toArray wsX5_pier RX5 D cI cO := ⟨⟨B.exec, B.bytes⟩, atoms_spec (ws := wsX5_pier) B.pre, findClass_of_methodNamed B.named, hK⟩
  have hx := E.1.1
  have hb := E.1.2
  have hts := E.2.1
  have hr := B.returns
  have hlocks := B.notSynchronized
  obtain ⟨n0, n4, n5, n6, n8, n7, n1, n2, n3⟩ := id hI.1
  have i_X5 : ∀ w ∈ wsX50, w ∈ wsX5_pier := by decide +kernel
  have i_X2 : ∀ w ∈ wsX20, w ∈ wsX5_pier := by decide +kernel
  have hR : 8 ≤ ((headSpec wsX5_pier ({ frames := 8, cells := 6, slots := 196, locals := 215 })).room).frames ∧ 215 ≤ ((headSpec wsX5_pier ({ frames := 8, cells := 6, slots := 196, locals := 215 })).room).locals := ⟨Nat.le_of_ble_eq_true rfl, Nat.le_of_ble_eq_true rfl⟩
  have hfm : 6 ≤ ((headSpec wsX5_pier ({ frames := 8, cells := 6, slots := 196, locals := 215 })).room).cells ∧ 196 ≤ ((headSpec wsX5_pier ({ frames := 8, cells := 6, slots := 196, locals := 215 })).room).slots := ⟨Nat.le_refl _, Nat.le_refl _⟩
  have hl := lv_entry ([.ref (g 0 0), .int depth, .int range, .int phase, .int isLit]) (n := 6) (Nat.le_of_ble_eq_true rfl)
  rw [lg_entry_eq]
  generalize (lg_sl ([.ref (g 0 0), .int depth, .int range, .int phase, .int isLit]) ++ List.replicate (6 - (lg_sl ([.ref (g 0 0), .int depth, .int range, .int phase, .int isLit])).length) Slot.unset).toArray = ls at hl ⊢
  generalize (headSpec wsX5_pier ({ frames := 8, cells := 6, slots := 196, locals := 215 })).room = R at hR hfm ⊢
  refine w_X5_pier (g := gw g ga) (cap := cap) (N := N) hst σ depth range phase isLit hI E hml ⟨Nat.le_trans (Nat.le_of_ble_eq_true rfl) hR.1, Nat.le_trans (Nat.le_of_ble_eq_true rfl) hR.2⟩ hfm hlocks htab hX hP va_S.rf hl (fun H locs ls ht0 c0 c1 c2 c3 hP hS hl => ?_) (fun E9 t9 h1 h2 hW9 hP9 hF9 => ⟨(), h2, ⟨h1, ⟨ga, cap, hG, hI, hP9⟩, va_K.moved hW9 hK⟩, hF9⟩)
  have hroom : N 4 < 8 := (nI_ltI (by omega) (by omega)).mp (by rw [← hI.2.1.1]; exact c3)
  have hN' : KN (Nn N 4) := by
    unfold KN
    rw [Nn_o (show 0 ≠ 4 by decide), Nn_s, Nn_o (show 5 ≠ 4 by decide), Nn_o (show 6 ≠ 4 by decide), Nn_o (show 8 ≠ 4 by decide), Nn_o (show 7 ≠ 4 by decide), Nn_o (show 1 ≠ 4 by decide), Nn_o (show 2 ≠ 4 by decide), Nn_o (show 3 ≠ 4 by decide)]
    omega
  refine kn_new (C := RX2) (T := TX2) (M := 10) (ci := 5) (fs := [.int 0, .int 0, .int 0, .int 0, .int 0, .int 0, .int 0, .int 0, .int 0, .int 0]) E i_X2 tyX2 tyX2_ok ⟨by decide +kernel, by decide +kernel, by decide +kernel⟩ hS hX.2.2.2.2 rfl (by decide +kernel) (by omega) (by omega) dX5_pier_36 (fun r H1 hr1 o1 hrs hAr hS => ?_)
  have hfr : ∀ k n, lv N cap k n → gw g ga k n ≠ r := fun k n hl z => by have := (hP.1 k n hl).1.lt; rw [hrs] at z; exact absurd z (Nat.ne_of_lt this)
  have hP1 : cP D cI cO A (gw g ga) cap N σ H1 := cP_kept hP (fun q hq _ => o1 q hq)
  refine lv_dup hx hb dX5_pier_39 rfl ?_
  refine lv_aload_n hx hb dX5_pier_40 rfl (lv_at hl 0 rfl) ?_
  refine cg_X5_piers (g := gw g ga) E i_X5 hP1 (by omega) (by decide +kernel) dX5_pier_41 ?_
  refine kn_i (g := gw g ga) (r := r) E hml hP1 hfr hr1.lt hS (kr_1 (g := gw g ga) (N := N) (cap := cap) E.2.2.2 hP1 ⟨by decide, by omega, fun z => absurd z (by decide)⟩) (c_AL_size l σ 0 ⟨by decide, by omega, fun z => absurd z (by decide)⟩) (cwV 0 hts gX5_pier_Jx4a65c_size_8abf5 rfl rfl rfl (by decide +kernel) ⟨Nat.le_trans (Nat.le_of_ble_eq_true rfl) hR.1, Nat.le_trans (Nat.le_of_ble_eq_true rfl) hR.2⟩) rfl hl.1 rfl (Nat.le_of_ble_eq_true rfl) dX5_pier_44 ⟨by omega, by omega⟩ (fun H1b locs hP1b hrb hzb hS => ?_)
  replace hr1 : va_at D vwCl (r, .inr (5, [.int 0, .int 0, .int 0, .int 0, .int 0, .int 0, .int 0, .int 0, .int 0, .int 0])) H1b := hr1.kept hrb
  replace hP1 := hP1b
  refine lv_iload_n hx hb dX5_pier_47 rfl (lv_at hl 1 rfl) ?_
  refine lv_iload_n hx hb dX5_pier_48 rfl (lv_at hl 2 rfl) ?_
  refine lv_iload_n hx hb dX5_pier_49 rfl (lv_at hl 3 rfl) ?_
  refine lv_iload hx hb dX5_pier_50 (lv_at hl 4 rfl) ?_
  refine kn_init (r := r) (As := [.int (σ 54 0), .int depth, .int range, .int phase, .int isLit]) (rest := [.ref r]) (PU := fun U => va_P D vwCl [(r, .inr (5, [.int 0, .int 0, .int 0, .int 0, .int 0, .int 0, .int 0, .int 0, .int 0, .int 0]))] U.heap ∧ va_K D vwCl (cT cI cO) U) E hml hS hAr (fun a U g mk q => ⟨q.1, q.2.1, va_K.moved (u := U) (U := U.calling g mk a) (Vm.Alike.refl U.vm) q.2.2⟩) (fun U hU hW => ⟨by rw [hU]; exact one_P hr1, va_K.moved hW.alike E.2.2.2⟩) (c_X2_init l r (σ 54 0) depth range phase isLit h_isLit) (cwI 5 hts gX5_pier_X2_init rfl rfl rfl (hts (.initialized RX2) (by decide +kernel)) (hts (.methodLink RX5 47 yX2_init) (by decide +kernel)) (hts (.instanceMethod yX2_init) (by decide +kernel)) rfl (by decide +kernel) ⟨Nat.le_trans (Nat.le_of_ble_eq_true rfl) hR.1, Nat.le_trans (Nat.le_of_ble_eq_true rfl) hR.2⟩) rfl hl.1 rfl (Nat.le_of_ble_eq_true rfl) dX5_pier_52 ⟨by omega, by omega⟩ (fun t H2 locs ht hB hk hz hS => ?_)
  have hr2 : va_at D vwCl (r, .inr (5, [.int (σ 54 0), .int depth, .int range, .int phase, .int isLit, .int 0, .int 0, .int 0, .int 0, .int 0])) H2 := by have h9 := hB.1 0 _ rfl; rw [ht] at h9; exact h9
  have hP2 : cP D cI cO A (gw g ga) cap N σ H2 := cP_kept2 hP1 (fun k n hl => hk _ (hP1.1 k n hl).1.lt (hfr k n hl))
  have hP3 : cP D cI cO A (gw g ga) cap N (m_X5_pier N σ depth range phase isLit) H2 := cP_cz (cP_cz (cP_cz (cP_cz (cP_cz (cP_cz (cP_cz (cP_cz (cP_cz (hP2) (cz_3 (Nat.le_refl _))) (cz_4 (Nat.le_refl _))) (cz_5 (Nat.le_refl _))) (cz_6 (Nat.le_refl _))) (cz_7 (Nat.le_refl _))) (cz_8 (Nat.le_refl _))) (cz_9 (Nat.le_refl _))) (cz_10 (Nat.le_refl _))) (cz_11 (Nat.le_refl _))
  have hI3 : KI cap N (m_X5_pier N σ depth range phase isLit) := KI_o (KI_o (KI_o (KI_o (KI_o (KI_o (KI_o (KI_o (KI_o (hI) (by decide)) (by decide)) (by decide)) (by decide)) (by decide)) (by decide)) (by decide)) (by decide)) (by decide)
  have hsz3 : m_X5_pier N σ depth range phase isLit 54 = σ 54 := by unfold m_X5_pier; repeat (first | with_reducible rfl | rw [st_nf _ _ _ (by decide)])
  have hP4 : cP D cI cO A (gn1 (gw g ga) 4 (N 4) r) cap (Nn N 4) (m_X5_pier N σ depth range phase isLit) H2 := by
    refine cP_new (by omega) hI3 hP3 ?_ hAr hfr
    try rw [hI.2.1.1] at hr2
    have e9 : cC cI cO (gn1 (gw g ga) 4 (N 4) r) cap (m_X5_pier N σ depth range phase isLit) 4 (N 4) = .inr (5, [.int (nI (N 4)), .int depth, .int range, .int phase, .int isLit, .int 0, .int 0, .int 0, .int 0, .int 0]) := by
      rw [cC_4]; unfold m_X5_pier
      simp [st_at]
    rw [e9]; exact hr2
  refine lv_astore (lv' := [(5, .ref r), (0, .ref (g 0 0)), (1, .int depth), (2, .int range), (3, .int phase), (4, .int isLit)]) hx hb dX5_pier_55 hl (by decide) rfl (fun ls hl => ?_)
  have hadr0 : gn1 (gw g ga) 4 (N 4) r 4 (nI (N 4)).toNatClampNeg = r := by rw [nI_clamp (by omega), gn1_s]
  
  have hC : (m_X5_pier N σ depth range phase isLit) 54 (lof 4) = nI (N 4) := by rw [hsz3]; exact hI.2.1.1
  have hs1 : Nn N 4 1 = N 1 := Nn_o (by decide)
  have hv1 : lv (Nn N 4) cap 1 0 := ⟨by decide, by rw [hs1]; omega, fun z => absurd z (by decide)⟩
  refine lv_aload_n hx hb dX5_pier_57 rfl (lv_at hl 1 rfl) ?_
  refine cg_X5_piers (g := gn1 (gw g ga) 4 (N 4) r) E i_X5 hP4 (by rw [Nn_o (show 0 ≠ 4 by decide)]; omega) (by decide +kernel) dX5_pier_58 ?_
  refine lv_aload hx hb dX5_pier_61 (lv_at hl 0 rfl) ?_
  have hel : EL (Nn N 4) cap (gn1 (gw g ga) 4 (N 4) r) (crow (gn1 (gw g ga) 4 (N 4) r) (m_X5_pier N σ depth range phase isLit) 0) := fun i y h => by
    unfold crow at h
    by_cases hi : i < ((m_X5_pier N σ depth range phase isLit) 54 0).toNatClampNeg
    · rw [if_pos hi] at h
      have hi2 : i < ((m_X5_pier N σ depth range phase isLit) 54 (lof 4)).toNatClampNeg := hi
      rw [hC, nI_clamp (by omega)] at hi2
      exact ⟨4, i, ⟨by decide, by rw [Nn_s]; omega, fun z => absurd z (by decide)⟩, by omega, (Option.some.inj h).symm⟩
    · rw [if_neg hi] at h; cases h
  refine kqV_i (As := [.ref r]) (rest := []) E hml hS (kr_1 (g := gn1 (gw g ga) 4 (N 4) r) (N := Nn N 4) (cap := cap) E.2.2.2 hP4 hv1) qyBl (fun U hU hW => ⟨⟨by rw [hU]; exact cQ_of hP4, va_K.moved hW.alike E.2.2.2⟩, cY_at hY hS hU hW⟩) (l_add l (aE := aE) (g := gn1 (gw g ga) 4 (N 4) r) (cap := cap) (N := Nn N 4) (rw := crow (gn1 (gw g ga) 4 (N 4) r) (m_X5_pier N σ depth range phase isLit)) (m_X5_pier N σ depth range phase isLit) 0 (N 4) r hv1 (by rw [hs1, Nn_o (show 2 ≠ 4 by decide)]; exact n2) (cap_C hI.2.1.1 (hI.2.2.2.2.2 0 (by omega))) (hG.2 0 (by omega)) (by omega) (fun z => (gn1_o (by omega)).trans (hG.1 0 (by omega) z)) (fun i hi => if_neg (by show ¬ i < ((m_X5_pier N σ depth range phase isLit) 54 (lof 4)).toNatClampNeg; rw [hC, nI_clamp (by omega)]; omega)) hel hC ⟨4, N 4, ⟨by decide, by rw [Nn_s]; omega, fun z => absurd z (by decide)⟩, by omega, gn1_s.symm⟩) (cwV 1 hts gX5_pier_Jx4a65c_add_9ea2d rfl rfl rfl (by decide +kernel) ⟨Nat.le_trans (Nat.le_of_ble_eq_true rfl) hR.1, Nat.le_trans (Nat.le_of_ble_eq_true rfl) hR.2⟩) rfl hl.1 rfl (Nat.le_of_ble_eq_true rfl) dX5_pier_63 ⟨by omega, by omega⟩ (fun v u t H3 locs ht hvm hw hB hz hk hS => ?_)
  obtain ⟨hv1', hGC, hlt⟩ := hw
  have hQ5 := hB.1
  rw [ht] at hQ5
  have hG6 : cG D cI cO A aE (gn1 g 4 (N 4) r) (Nn N 4) (s_X5_pier N σ depth range phase isLit) H3 := cG_mk (k := 4) (by omega) hG (by first | exact hI3 | exact KI_o hI3 (by decide)) hN' (fun z => absurd z (by decide)) hGC hlt hQ5
  obtain ⟨a5, cap5, hGI5, hI5, hP5⟩ := id hG6
  have hadr : gw (gn1 g 4 (N 4) r) a5 4 (nI (N 4)).toNatClampNeg = r := by rw [nI_clamp (by omega), gw_o (by decide), gn1_s]
  refine lv_pop hx hb dX5_pier_66 rfl ?_
  refine lv_aload hx hb dX5_pier_67 (show ls[5]? = some (.val (.ref (gw (gn1 g 4 (N 4) r) a5 4 (nI (N 4)).toNatClampNeg))) by rw [hadr]; exact lv_at hl 0 rfl) ?_
  refine cg_X2_number (g := gw (gn1 g 4 (N 4) r) a5) (N := Nn N 4) (e₁ := nI (N 4)) E i_X2 hP5 (vp_in_nI (by rw [Nn_s]; omega) (by rw [Nn_s]; omega)) (by rw [Nn_s]; omega) (by decide +kernel) dX5_pier_69 ?_
  exact W.widen (k := 6) (n := 196) (by omega) (by omega) (vx_ret (W.iret (v := nI (N 4)) B.exec B.bytes hr (fun t ht hW => ⟨⟨nI (N 4), gn1 g 4 (N 4) r, rfl, ⟨rfl, ht0, hN', fun k n hn => gn1_o (by rintro ⟨rfl, w⟩; omega)⟩, by rw [ht]; exact hG6, va_K.moved hW.alike hK⟩, hS.F ht⟩) hS.2.2 dX5_pier_72))
