/-! a boat made and told to its list -/
def m_X5_boat (N : Nat → Nat) (σ : St) (draught : Int32) (length : Int32) (weight : Int32) (trim : Int32) (swell : Int32) (piers_ : Int32) (home : Int32) : St := st (st (st (st (st (st (st (st (σ) 13 (N 5) (draught)) 14 (N 5) (length)) 15 (N 5) (weight)) 16 (N 5) (trim)) 17 (N 5) (swell)) 18 (N 5) (piers_)) 19 (N 5) ((-1))) 20 (N 5) (0)
def s_X5_boat (N : Nat → Nat) (σ : St) (draught : Int32) (length : Int32) (weight : Int32) (trim : Int32) (swell : Int32) (piers_ : Int32) (home : Int32) : St := st (st (st (m_X5_boat N σ draught length weight trim swell piers_ home) 19 (N 5) home) 52 (lof 5) ((st (m_X5_boat N σ draught length weight trim swell piers_ home) 19 (N 5) home) 52 (lof 5) + 1)) 54 (lof 5) (nI (N 5 + 1))
set_option maxHeartbeats 4000000 in
set_option maxRecDepth 100000 in
theorem c_X5_boat (l : Launch) (hst : l.stackTraces = false) {D : va_G} {A : Nat → Prop} {cI cO : ClassId} {aE : Nat} {g : Gh} {N : Nat → Nat} (σ : St) (draught : Int32) (length : Int32) (weight : Int32) (trim : Int32) (swell : Int32) (piers_ : Int32) (home : Int32) : vx_Met l yX5_boat wsX5_boat ({ frames := 8, cells := 10, slots := 219, locals := 218 }) (va_Pc [.ref (g 0 0), .int draught, .int length, .int weight, .int trim, .int swell, .int piers_, .int home] (cGX D cI cO A aE g N σ)) (va_Qi (fun r (u : Gh) => r = nI (N 5) ∧ t_X5_boat σ draught length weight trim swell piers_ home = 0 ∧ KN (Nn N 5) ∧ ∀ k n, n < N k → u k n = g k n) (fun u t => cGU D cI cO A aE u (Nn N 5) (s_X5_boat N σ draught length weight trim swell piers_ home) t) A) (vx_X (fun (_ : Unit) => ¬ t_X5_boat σ draught length weight trim swell piers_ home = 0) (fun E _ t => E = exN (t_X5_boat σ draught length weight trim swell piers_ home) ∧ cGU D cI cO A aE g N σ t) A) 10 219 A := by
  refine vx_ofW (cc := cX5_boat) (maxL := 9) (ret := (some .int)) (by decide) rfl ?_
  intro p e s m args below meth c s₁ B hml htab hv
  obtain ⟨rfl, ⟨⟨⟨ga, cap, hG, hI, hP⟩, hK⟩, hY⟩, hX⟩ := hv
  have E : kE p c cX5_boat s m ([.ref (g 0 0), .int draught, .int length, .int weight, .int trim, .int swell, .int piers_, .int home] : List Value).toArray wsX5_boat RX5 D cI cO := ⟨⟨B.exec, B.bytes⟩, atoms_spec (ws := wsX5_boat) B.pre, findClass_of_methodNamed B.named, hK⟩
  have hx := E.1.1
  have hb := E.1.2
  have hts := E.2.1
  have hr := B.returns
  have hlocks := B.notSynchronized
  obtain ⟨n0, n4, n5, n6, n8, n7, n1, n2, n3⟩ := id hI.1
  have i_X5 : ∀ w ∈ wsX50, w ∈ wsX5_boat := by decide +kernel
  have i_X0 : ∀ w ∈ wsX00, w ∈ wsX5_boat := by decide +kernel
  have hR : 8 ≤ ((headSpec wsX5_boat ({ frames := 8, cells := 10, slots := 219, locals := 218 })).room).frames ∧ 218 ≤ ((headSpec wsX5_boat ({ frames := 8, cells := 10, slots := 219, locals := 218 })).room).locals := ⟨Nat.le_of_ble_eq_true rfl, Nat.le_of_ble_eq_true rfl⟩
  have hfm : 10 ≤ ((headSpec wsX5_boat ({ frames := 8, cells := 10, slots := 219, locals := 218 })).room).cells ∧ 219 ≤ ((headSpec wsX5_boat ({ frames := 8, cells := 10, slots := 219, locals := 218 })).room).slots := ⟨Nat.le_refl _, Nat.le_refl _⟩
  have hl := lv_entry ([.ref (g 0 0), .int draught, .int length, .int weight, .int trim, .int swell, .int piers_, .int home]) (n := 9) (Nat.le_of_ble_eq_true rfl)
  rw [lg_entry_eq]
  generalize (lg_sl ([.ref (g 0 0), .int draught, .int length, .int weight, .int trim, .int swell, .int piers_, .int home]) ++ List.replicate (9 - (lg_sl ([.ref (g 0 0), .int draught, .int length, .int weight, .int trim, .int swell, .int piers_, .int home])).length) Slot.unset).toArray = ls at hl ⊢
  generalize (headSpec wsX5_boat ({ frames := 8, cells := 10, slots := 219, locals := 218 })).room = R at hR hfm ⊢
  refine w_X5_boat (g := gw g ga) (cap := cap) (N := N) hst σ draught length weight trim swell piers_ home hI E hml ⟨Nat.le_trans (Nat.le_of_ble_eq_true rfl) hR.1, Nat.le_trans (Nat.le_of_ble_eq_true rfl) hR.2⟩ hfm hlocks htab hX hP va_S.rf hl (fun H locs ls ht0 c0 c1 c2 c3 c4 c5 c6 c7 hP hS hl => ?_) (fun E9 t9 h1 h2 hW9 hP9 hF9 => ⟨(), h2, ⟨h1, ⟨ga, cap, hG, hI, hP9⟩, va_K.moved hW9 hK⟩, hF9⟩)
  have hroom : N 5 < 6 := (nI_ltI (by omega) (by omega)).mp (by rw [← hI.2.1.2.1]; exact c7)
  have hN' : KN (Nn N 5) := by
    unfold KN
    rw [Nn_o (show 0 ≠ 5 by decide), Nn_o (show 4 ≠ 5 by decide), Nn_s, Nn_o (show 6 ≠ 5 by decide), Nn_o (show 8 ≠ 5 by decide), Nn_o (show 7 ≠ 5 by decide), Nn_o (show 1 ≠ 5 by decide), Nn_o (show 2 ≠ 5 by decide), Nn_o (show 3 ≠ 5 by decide)]
    omega
  refine kn_new (C := RX0) (T := TX0) (M := 9) (ci := 3) (fs := [.int 0, .int 0, .int 0, .int 0, .int 0, .int 0, .int 0, .int 0, .int 0]) E i_X0 tyX0 tyX0_ok ⟨by decide +kernel, by decide +kernel, by decide +kernel⟩ hS hX.2.2.2.2 rfl (by decide +kernel) (by omega) (by omega) dX5_boat_74 (fun r H1 hr1 o1 hrs hAr hS => ?_)
  have hfr : ∀ k n, lv N cap k n → gw g ga k n ≠ r := fun k n hl z => by have := (hP.1 k n hl).1.lt; rw [hrs] at z; exact absurd z (Nat.ne_of_lt this)
  have hP1 : cP D cI cO A (gw g ga) cap N σ H1 := cP_kept hP (fun q hq _ => o1 q hq)
  refine lv_dup hx hb dX5_boat_77 rfl ?_
  refine lv_aload_n hx hb dX5_boat_78 rfl (lv_at hl 0 rfl) ?_
  refine cg_X5_boats (g := gw g ga) E i_X5 hP1 (by omega) (by decide +kernel) dX5_boat_79 ?_
  refine kn_i (g := gw g ga) (r := r) E hml hP1 hfr hr1.lt hS (kr_1 (g := gw g ga) (N := N) (cap := cap) E.2.2.2 hP1 ⟨by decide, by omega, fun z => absurd z (by decide)⟩) (c_AL_size l σ 1 ⟨by decide, by omega, fun z => absurd z (by decide)⟩) (cwV 0 hts gX5_boat_Jx4a65c_size_8abf5 rfl rfl rfl (by decide +kernel) ⟨Nat.le_trans (Nat.le_of_ble_eq_true rfl) hR.1, Nat.le_trans (Nat.le_of_ble_eq_true rfl) hR.2⟩) rfl hl.1 rfl (Nat.le_of_ble_eq_true rfl) dX5_boat_82 ⟨by omega, by omega⟩ (fun H1b locs hP1b hrb hzb hS => ?_)
  replace hr1 : va_at D vwCl (r, .inr (3, [.int 0, .int 0, .int 0, .int 0, .int 0, .int 0, .int 0, .int 0, .int 0])) H1b := hr1.kept hrb
  replace hP1 := hP1b
  refine lv_iload_n hx hb dX5_boat_85 rfl (lv_at hl 1 rfl) ?_
  refine lv_iload_n hx hb dX5_boat_86 rfl (lv_at hl 2 rfl) ?_
  refine lv_iload_n hx hb dX5_boat_87 rfl (lv_at hl 3 rfl) ?_
  refine lv_iload hx hb dX5_boat_88 (lv_at hl 4 rfl) ?_
  refine lv_iload hx hb dX5_boat_90 (lv_at hl 5 rfl) ?_
  refine lv_iload hx hb dX5_boat_92 (lv_at hl 6 rfl) ?_
  refine kn_init (r := r) (As := [.int (σ 54 1), .int draught, .int length, .int weight, .int trim, .int swell, .int piers_]) (rest := [.ref r]) (PU := fun U => va_P D vwCl [(r, .inr (3, [.int 0, .int 0, .int 0, .int 0, .int 0, .int 0, .int 0, .int 0, .int 0]))] U.heap ∧ va_K D vwCl (cT cI cO) U) E hml hS hAr (fun a U g mk q => ⟨q.1, q.2.1, va_K.moved (u := U) (U := U.calling g mk a) (Vm.Alike.refl U.vm) q.2.2⟩) (fun U hU hW => ⟨by rw [hU]; exact one_P hr1, va_K.moved hW.alike E.2.2.2⟩) (c_X0_init l r (σ 54 1) draught length weight trim swell piers_) (cwI 7 hts gX5_boat_X0_init rfl rfl rfl (hts (.initialized RX0) (by decide +kernel)) (hts (.methodLink RX5 62 yX0_init) (by decide +kernel)) (hts (.instanceMethod yX0_init) (by decide +kernel)) rfl (by decide +kernel) ⟨Nat.le_trans (Nat.le_of_ble_eq_true rfl) hR.1, Nat.le_trans (Nat.le_of_ble_eq_true rfl) hR.2⟩) rfl hl.1 rfl (Nat.le_of_ble_eq_true rfl) dX5_boat_94 ⟨by omega, by omega⟩ (fun t H2 locs ht hB hk hz hS => ?_)
  have hr2 : va_at D vwCl (r, .inr (3, [.int (σ 54 1), .int draught, .int length, .int weight, .int trim, .int swell, .int piers_, .int (-1), .int 0])) H2 := by have h9 := hB.1 0 _ rfl; rw [ht] at h9; exact h9
  have hP2 : cP D cI cO A (gw g ga) cap N σ H2 := cP_kept2 hP1 (fun k n hl => hk _ (hP1.1 k n hl).1.lt (hfr k n hl))
  have hP3 : cP D cI cO A (gw g ga) cap N (m_X5_boat N σ draught length weight trim swell piers_ home) H2 := cP_cz (cP_cz (cP_cz (cP_cz (cP_cz (cP_cz (cP_cz (cP_cz (hP2) (cz_13 (Nat.le_refl _))) (cz_14 (Nat.le_refl _))) (cz_15 (Nat.le_refl _))) (cz_16 (Nat.le_refl _))) (cz_17 (Nat.le_refl _))) (cz_18 (Nat.le_refl _))) (cz_19 (Nat.le_refl _))) (cz_20 (Nat.le_refl _))
  have hI3 : KI cap N (m_X5_boat N σ draught length weight trim swell piers_ home) := KI_s20 (KI_o (KI_o (KI_o (KI_o (KI_o (KI_o (KI_o (hI) (by decide)) (by decide)) (by decide)) (by decide)) (by decide)) (by decide)) (by decide)) isB0
  have hsz3 : m_X5_boat N σ draught length weight trim swell piers_ home 54 = σ 54 := by unfold m_X5_boat; repeat (first | with_reducible rfl | rw [st_nf _ _ _ (by decide)])
  have hP4 : cP D cI cO A (gn1 (gw g ga) 5 (N 5) r) cap (Nn N 5) (m_X5_boat N σ draught length weight trim swell piers_ home) H2 := by
    refine cP_new (by omega) hI3 hP3 ?_ hAr hfr
    try rw [hI.2.1.2.1] at hr2
    have e9 : cC cI cO (gn1 (gw g ga) 5 (N 5) r) cap (m_X5_boat N σ draught length weight trim swell piers_ home) 5 (N 5) = .inr (3, [.int (nI (N 5)), .int draught, .int length, .int weight, .int trim, .int swell, .int piers_, .int (-1), .int 0]) := by
      rw [cC_5]; unfold m_X5_boat
      simp [st_at]
    rw [e9]; exact hr2
  refine lv_astore (lv' := [(8, .ref r), (0, .ref (g 0 0)), (1, .int draught), (2, .int length), (3, .int weight), (4, .int trim), (5, .int swell), (6, .int piers_), (7, .int home)]) hx hb dX5_boat_97 hl (by decide) rfl (fun ls hl => ?_)
  have hadr0 : gn1 (gw g ga) 5 (N 5) r 5 (nI (N 5)).toNatClampNeg = r := by rw [nI_clamp (by omega), gn1_s]
  refine lv_aload hx hb dX5_boat_99 (show ls[8]? = some (.val (.ref (gn1 (gw g ga) 5 (N 5) r 5 (nI (N 5)).toNatClampNeg))) by rw [hadr0]; exact lv_at hl 0 rfl) ?_
  refine lv_iload hx hb dX5_boat_101 (lv_at hl 8 rfl) ?_
  refine cp_X0_pier (g := gn1 (gw g ga) 5 (N 5) r) (N := Nn N 5) (e₁ := nI (N 5)) E i_X0 hP4 hS (vp_in_nI (by rw [Nn_s]; omega) (by rw [Nn_s]; omega)) (by decide +kernel) dX5_boat_103 (fun H2b locs hP4 hS => ?_)
  rw [nI_clamp (by omega)] at hP4
  have hC : (st (m_X5_boat N σ draught length weight trim swell piers_ home) 19 (N 5) home) 54 (lof 5) = nI (N 5) := by rw [st_nf _ _ _ (show (54 : Nat) ≠ 19 by decide)]; rw [hsz3]; exact hI.2.1.2.1
  have hs1 : Nn N 5 1 = N 1 := Nn_o (by decide)
  have hv1 : lv (Nn N 5) cap 1 1 := ⟨by decide, by rw [hs1]; omega, fun z => absurd z (by decide)⟩
  refine lv_aload_n hx hb dX5_boat_106 rfl (lv_at hl 1 rfl) ?_
  refine cg_X5_boats (g := gn1 (gw g ga) 5 (N 5) r) E i_X5 hP4 (by rw [Nn_o (show 0 ≠ 5 by decide)]; omega) (by decide +kernel) dX5_boat_107 ?_
  refine lv_aload hx hb dX5_boat_110 (lv_at hl 0 rfl) ?_
  have hel : EL (Nn N 5) cap (gn1 (gw g ga) 5 (N 5) r) (crow (gn1 (gw g ga) 5 (N 5) r) (st (m_X5_boat N σ draught length weight trim swell piers_ home) 19 (N 5) home) 1) := fun i y h => by
    unfold crow at h
    by_cases hi : i < ((st (m_X5_boat N σ draught length weight trim swell piers_ home) 19 (N 5) home) 54 1).toNatClampNeg
    · rw [if_pos hi] at h
      have hi2 : i < ((st (m_X5_boat N σ draught length weight trim swell piers_ home) 19 (N 5) home) 54 (lof 5)).toNatClampNeg := hi
      rw [hC, nI_clamp (by omega)] at hi2
      exact ⟨5, i, ⟨by decide, by rw [Nn_s]; omega, fun z => absurd z (by decide)⟩, by omega, (Option.some.inj h).symm⟩
    · rw [if_neg hi] at h; cases h
  refine kqV_i (As := [.ref r]) (rest := []) E hml hS (kr_1 (g := gn1 (gw g ga) 5 (N 5) r) (N := Nn N 5) (cap := cap) E.2.2.2 hP4 hv1) qyBl (fun U hU hW => ⟨⟨by rw [hU]; exact cQ_of hP4, va_K.moved hW.alike E.2.2.2⟩, cY_at hY hS hU hW⟩) (l_add l (aE := aE) (g := gn1 (gw g ga) 5 (N 5) r) (cap := cap) (N := Nn N 5) (rw := crow (gn1 (gw g ga) 5 (N 5) r) (st (m_X5_boat N σ draught length weight trim swell piers_ home) 19 (N 5) home)) (st (m_X5_boat N σ draught length weight trim swell piers_ home) 19 (N 5) home) 1 (N 5) r hv1 (by rw [hs1, Nn_o (show 2 ≠ 5 by decide)]; exact n2) (cap_C hI.2.1.2.1 (hI.2.2.2.2.2 1 (by omega))) (hG.2 1 (by omega)) (by omega) (fun z => (gn1_o (by omega)).trans (hG.1 1 (by omega) z)) (fun i hi => if_neg (by show ¬ i < ((st (m_X5_boat N σ draught length weight trim swell piers_ home) 19 (N 5) home) 54 (lof 5)).toNatClampNeg; rw [hC, nI_clamp (by omega)]; omega)) hel hC ⟨5, N 5, ⟨by decide, by rw [Nn_s]; omega, fun z => absurd z (by decide)⟩, by omega, gn1_s.symm⟩) (cwV 1 hts gX5_boat_Jx4a65c_add_9ea2d rfl rfl rfl (by decide +kernel) ⟨Nat.le_trans (Nat.le_of_ble_eq_true rfl) hR.1, Nat.le_trans (Nat.le_of_ble_eq_true rfl) hR.2⟩) rfl hl.1 rfl (Nat.le_of_ble_eq_true rfl) dX5_boat_112 ⟨by omega, by omega⟩ (fun v u t H3 locs ht hvm hw hB hz hk hS => ?_)
  obtain ⟨hv1', hGC, hlt⟩ := hw
  have hQ5 := hB.1
  rw [ht] at hQ5
  have hG6 : cG D cI cO A aE (gn1 g 5 (N 5) r) (Nn N 5) (s_X5_boat N σ draught length weight trim swell piers_ home) H3 := cG_mk (k := 5) (by omega) hG (by first | exact hI3 | exact KI_o hI3 (by decide)) hN' (fun z => absurd z (by decide)) hGC hlt hQ5
  obtain ⟨a5, cap5, hGI5, hI5, hP5⟩ := id hG6
  have hadr : gw (gn1 g 5 (N 5) r) a5 5 (nI (N 5)).toNatClampNeg = r := by rw [nI_clamp (by omega), gw_o (by decide), gn1_s]
  refine lv_pop hx hb dX5_boat_115 rfl ?_
  refine lv_aload hx hb dX5_boat_116 (show ls[8]? = some (.val (.ref (gw (gn1 g 5 (N 5) r) a5 5 (nI (N 5)).toNatClampNeg))) by rw [hadr]; exact lv_at hl 0 rfl) ?_
  refine cg_X0_number (g := gw (gn1 g 5 (N 5) r) a5) (N := Nn N 5) (e₁ := nI (N 5)) E i_X0 hP5 (vp_in_nI (by rw [Nn_s]; omega) (by rw [Nn_s]; omega)) (by rw [Nn_s]; omega) (by decide +kernel) dX5_boat_118 ?_
  exact W.widen (k := 10) (n := 219) (by omega) (by omega) (vx_ret (W.iret (v := nI (N 5)) B.exec B.bytes hr (fun t ht hW => ⟨⟨nI (N 5), gn1 g 5 (N 5) r, rfl, ⟨rfl, ht0, hN', fun k n hn => gn1_o (by rintro ⟨rfl, w⟩; omega)⟩, by rw [ht]; exact hG6, va_K.moved hW.alike hK⟩, hS.F ht⟩) hS.2.2 dX5_boat_121))
