/-! a booking made and told to its list -/
def m_X5_book (N : Nat → Nat) (σ : St) (sailing : Int32) (kind : Int32) (length : Int32) (weight : Int32) (danger : Int32) (isUrgent : Int32) (isLorry : Int32) : St := st (st (st (st (st (st (st (st (st (st (st (st (σ) 55 (N 8) ((-1))) 36 (N 8) (sailing)) 37 (N 8) (kind)) 38 (N 8) (length)) 39 (N 8) (weight)) 40 (N 8) (danger)) 41 (N 8) (isUrgent)) 42 (N 8) (isLorry)) 35 (N 8) (0)) 44 (N 8) (0)) 43 (N 8) (0)) 45 (N 8) ((-1))
def s_X5_book (N : Nat → Nat) (σ : St) (sailing : Int32) (kind : Int32) (length : Int32) (weight : Int32) (danger : Int32) (isUrgent : Int32) (isLorry : Int32) : St := st (st (st (m_X5_book N σ sailing kind length weight danger isUrgent isLorry) 55 (N 8) ((m_X5_book N σ sailing kind length weight danger isUrgent isLorry) 54 3)) 52 (lof 8) ((st (m_X5_book N σ sailing kind length weight danger isUrgent isLorry) 55 (N 8) ((m_X5_book N σ sailing kind length weight danger isUrgent isLorry) 54 3)) 52 (lof 8) + 1)) 54 (lof 8) (nI (N 8 + 1))
set_option maxHeartbeats 4000000 in
set_option maxRecDepth 100000 in
theorem c_X5_book (l : Launch) (hst : l.stackTraces = false) {D : va_G} {A : Nat → Prop} {cI cO : ClassId} {aE : Nat} {g : Gh} {N : Nat → Nat} (σ : St) (sailing : Int32) (kind : Int32) (length : Int32) (weight : Int32) (danger : Int32) (isUrgent : Int32) (isLorry : Int32) (h_isUrgent : isB isUrgent) (h_isLorry : isB isLorry) : vx_Met l yX5_book wsX5_book ({ frames := 8, cells := 9, slots := 216, locals := 219 }) (va_Pc [.ref (g 0 0), .int sailing, .int kind, .int length, .int weight, .int danger, .int isUrgent, .int isLorry] (cGX D cI cO A aE g N σ)) (va_Qi (fun r (u : Gh) => r = nI (N 8) ∧ t_X5_book σ sailing kind length weight danger isUrgent isLorry = 0 ∧ KN (Nn N 8) ∧ ∀ k n, n < N k → u k n = g k n) (fun u t => cGU D cI cO A aE u (Nn N 8) (s_X5_book N σ sailing kind length weight danger isUrgent isLorry) t) A) (vx_X (fun (_ : Unit) => ¬ t_X5_book σ sailing kind length weight danger isUrgent isLorry = 0) (fun E _ t => E = exN (t_X5_book σ sailing kind length weight danger isUrgent isLorry) ∧ cGU D cI cO A aE g N σ t) A) 9 216 A := by
  refine vx_ofW (cc := cX5_book) (maxL := 10) (ret := (some .int)) (by decide) rfl ?_
  intro p e s m args below meth c s₁ B hml htab hv
  obtain ⟨rfl, ⟨⟨⟨ga, cap, hG, hI, hP⟩, hK⟩, hY⟩, hX⟩ := hv
  have E : kE p c cX5_book s m ([.ref (g 0 0), .int sailing, .int kind, .int length, .int weight, .int danger, .int isUrgent, .int isLorry] : List Value).toArray wsX5_book RX5 D cI cO := ⟨⟨B.exec, B.bytes⟩, atoms_spec (ws := wsX5_book) B.pre, findClass_of_methodNamed B.named, hK⟩
  have hx := E.1.1
  have hb := E.1.2
  have hts := E.2.1
  have hr := B.returns
  have hlocks := B.notSynchronized
  obtain ⟨n0, n4, n5, n6, n8, n7, n1, n2, n3⟩ := id hI.1
  have i_X5 : ∀ w ∈ wsX50, w ∈ wsX5_book := by decide +kernel
  have i_X1 : ∀ w ∈ wsX10, w ∈ wsX5_book := by decide +kernel
  have hR : 8 ≤ ((headSpec wsX5_book ({ frames := 8, cells := 9, slots := 216, locals := 219 })).room).frames ∧ 219 ≤ ((headSpec wsX5_book ({ frames := 8, cells := 9, slots := 216, locals := 219 })).room).locals := ⟨Nat.le_of_ble_eq_true rfl, Nat.le_of_ble_eq_true rfl⟩
  have hfm : 9 ≤ ((headSpec wsX5_book ({ frames := 8, cells := 9, slots := 216, locals := 219 })).room).cells ∧ 216 ≤ ((headSpec wsX5_book ({ frames := 8, cells := 9, slots := 216, locals := 219 })).room).slots := ⟨Nat.le_refl _, Nat.le_refl _⟩
  have hl := lv_entry ([.ref (g 0 0), .int sailing, .int kind, .int length, .int weight, .int danger, .int isUrgent, .int isLorry]) (n := 10) (Nat.le_of_ble_eq_true rfl)
  rw [lg_entry_eq]
  generalize (lg_sl ([.ref (g 0 0), .int sailing, .int kind, .int length, .int weight, .int danger, .int isUrgent, .int isLorry]) ++ List.replicate (10 - (lg_sl ([.ref (g 0 0), .int sailing, .int kind, .int length, .int weight, .int danger, .int isUrgent, .int isLorry])).length) Slot.unset).toArray = ls at hl ⊢
  generalize (headSpec wsX5_book ({ frames := 8, cells := 9, slots := 216, locals := 219 })).room = R at hR hfm ⊢
  refine w_X5_book (g := gw g ga) (cap := cap) (N := N) hst σ sailing kind length weight danger isUrgent isLorry hI E hml ⟨Nat.le_trans (Nat.le_of_ble_eq_true rfl) hR.1, Nat.le_trans (Nat.le_of_ble_eq_true rfl) hR.2⟩ hfm hlocks htab hX hP va_S.rf hl (fun H locs ls ht0 c0 c1 c2 c3 c4 c5 c6 hP hS hl => ?_) (fun E9 t9 h1 h2 hW9 hP9 hF9 => ⟨(), h2, ⟨h1, ⟨ga, cap, hG, hI, hP9⟩, va_K.moved hW9 hK⟩, hF9⟩)
  have hroom : N 8 < 100 := (nI_ltI (by omega) (by omega)).mp (by rw [← hI.2.1.2.2.2]; exact c6)
  have hN' : KN (Nn N 8) := by
    unfold KN
    rw [Nn_o (show 0 ≠ 8 by decide), Nn_o (show 4 ≠ 8 by decide), Nn_o (show 5 ≠ 8 by decide), Nn_o (show 6 ≠ 8 by decide), Nn_s, Nn_o (show 7 ≠ 8 by decide), Nn_o (show 1 ≠ 8 by decide), Nn_o (show 2 ≠ 8 by decide), Nn_o (show 3 ≠ 8 by decide)]
    omega
  refine kn_new (C := RX1) (T := TX1) (M := 12) (ci := 4) (fs := [.int 0, .null, .int 0, .int 0, .int 0, .int 0, .int 0, .int 0, .int 0, .int 0, .int 0, .int 0]) E i_X1 tyX1 tyX1_ok ⟨by decide +kernel, by decide +kernel, by decide +kernel⟩ hS hX.2.2.2.2 rfl (by decide +kernel) (by omega) (by omega) dX5_book_69 (fun r H1 hr1 o1 hrs hAr hS => ?_)
  have hfr : ∀ k n, lv N cap k n → gw g ga k n ≠ r := fun k n hl z => by have := (hP.1 k n hl).1.lt; rw [hrs] at z; exact absurd z (Nat.ne_of_lt this)
  have hP1 : cP D cI cO A (gw g ga) cap N σ H1 := cP_kept hP (fun q hq _ => o1 q hq)
  refine lv_dup hx hb dX5_book_72 rfl ?_
  refine lv_aload hx hb dX5_book_73 (lv_at hl 0 rfl) ?_
  refine lv_iload_n hx hb dX5_book_75 rfl (lv_at hl 3 rfl) ?_
  refine lv_iload_n hx hb dX5_book_76 rfl (lv_at hl 4 rfl) ?_
  refine lv_iload hx hb dX5_book_77 (lv_at hl 5 rfl) ?_
  refine lv_iload hx hb dX5_book_79 (lv_at hl 6 rfl) ?_
  refine lv_iload hx hb dX5_book_81 (lv_at hl 7 rfl) ?_
  refine lv_iload hx hb dX5_book_83 (lv_at hl 8 rfl) ?_
  refine kn_init (r := r) (As := [.ref (g 6 sailing.toNatClampNeg), .int kind, .int length, .int weight, .int danger, .int isUrgent, .int isLorry]) (rest := [.ref r]) (PU := fun U => va_P D vwCl [(r, .inr (4, [.int 0, .null, .int 0, .int 0, .int 0, .int 0, .int 0, .int 0, .int 0, .int 0, .int 0, .int 0]))] U.heap ∧ va_K D vwCl (cT cI cO) U) E hml hS hAr (fun a U g mk q => ⟨q.1, q.2.1, va_K.moved (u := U) (U := U.calling g mk a) (Vm.Alike.refl U.vm) q.2.2⟩) (fun U hU hW => ⟨by rw [hU]; exact one_P hr1, va_K.moved hW.alike E.2.2.2⟩) (c_X1_init l r (g 6 sailing.toNatClampNeg) kind length weight danger isUrgent isLorry h_isUrgent h_isLorry) (cwI 7 hts gX5_book_X1_init rfl rfl rfl (hts (.initialized RX1) (by decide +kernel)) (hts (.methodLink RX5 108 yX1_init) (by decide +kernel)) (hts (.instanceMethod yX1_init) (by decide +kernel)) rfl (by decide +kernel) ⟨Nat.le_trans (Nat.le_of_ble_eq_true rfl) hR.1, Nat.le_trans (Nat.le_of_ble_eq_true rfl) hR.2⟩) rfl hl.1 rfl (Nat.le_of_ble_eq_true rfl) dX5_book_85 ⟨by omega, by omega⟩ (fun t H2 locs ht hB hk hz hS => ?_)
  have hr2 : va_at D vwCl (r, .inr (4, [.int (-1), .ref (g 6 sailing.toNatClampNeg), .int kind, .int length, .int weight, .int danger, .int isUrgent, .int isLorry, .int 0, .int 0, .int 0, .int (-1)])) H2 := by have h9 := hB.1 0 _ rfl; rw [ht] at h9; exact h9
  have hP2 : cP D cI cO A (gw g ga) cap N σ H2 := cP_kept2 hP1 (fun k n hl => hk _ (hP1.1 k n hl).1.lt (hfr k n hl))
  have hP3 : cP D cI cO A (gw g ga) cap N (m_X5_book N σ sailing kind length weight danger isUrgent isLorry) H2 := cP_cz (cP_cz (cP_cz (cP_cz (cP_cz (cP_cz (cP_cz (cP_cz (cP_cz (cP_cz (cP_cz (cP_cz (hP2) (cz_55 (Nat.le_refl _))) (cz_36 (Nat.le_refl _))) (cz_37 (Nat.le_refl _))) (cz_38 (Nat.le_refl _))) (cz_39 (Nat.le_refl _))) (cz_40 (Nat.le_refl _))) (cz_41 (Nat.le_refl _))) (cz_42 (Nat.le_refl _))) (cz_35 (Nat.le_refl _))) (cz_44 (Nat.le_refl _))) (cz_43 (Nat.le_refl _))) (cz_45 (Nat.le_refl _))
  have hI3 : KI cap N (m_X5_book N σ sailing kind length weight danger isUrgent isLorry) := KI_o (KI_o (KI_o (KI_o (KI_o (KI_s41 (KI_o (KI_o (KI_o (KI_o (KI_s36 (KI_o (hI) (by decide)) (num_in c0 hI.2.1.2.2.1 (by omega))) (by decide)) (by decide)) (by decide)) (by decide)) h_isUrgent) (by decide)) (by decide)) (by decide)) (by decide)) (by decide)
  have hsz3 : m_X5_book N σ sailing kind length weight danger isUrgent isLorry 54 = σ 54 := by unfold m_X5_book; repeat (first | with_reducible rfl | rw [st_nf _ _ _ (by decide)])
  have hP4 : cP D cI cO A (gn1 (gw g ga) 8 (N 8) r) cap (Nn N 8) (m_X5_book N σ sailing kind length weight danger isUrgent isLorry) H2 := by
    refine cP_new (by omega) hI3 hP3 ?_ hAr hfr
    try rw [hI.2.1.2.2.2] at hr2
    have e9 : cC cI cO (gn1 (gw g ga) 8 (N 8) r) cap (m_X5_book N σ sailing kind length weight danger isUrgent isLorry) 8 (N 8) = .inr (4, [.int (-1), .ref (g 6 sailing.toNatClampNeg), .int kind, .int length, .int weight, .int danger, .int isUrgent, .int isLorry, .int 0, .int 0, .int 0, .int (-1)]) := by
      rw [cC_8]; unfold m_X5_book
      simp [st_at]; rfl
    rw [e9]; exact hr2
  refine lv_astore (lv' := [(9, .ref r), (8, .ref (g 6 sailing.toNatClampNeg)), (0, .ref (g 0 0)), (1, .int sailing), (2, .int kind), (3, .int length), (4, .int weight), (5, .int danger), (6, .int isUrgent), (7, .int isLorry)]) hx hb dX5_book_88 hl (by decide) rfl (fun ls hl => ?_)
  have hadr0 : gn1 (gw g ga) 8 (N 8) r 8 (nI (N 8)).toNatClampNeg = r := by rw [nI_clamp (by omega), gn1_s]
  refine lv_aload hx hb dX5_book_90 (show ls[9]? = some (.val (.ref (gn1 (gw g ga) 8 (N 8) r 8 (nI (N 8)).toNatClampNeg))) by rw [hadr0]; exact lv_at hl 0 rfl) ?_
  refine lv_aload_n hx hb dX5_book_92 rfl (lv_at hl 2 rfl) ?_
  refine cg_X5_bookings (g := gn1 (gw g ga) 8 (N 8) r) E i_X5 hP4 (by rw [Nn_o (show 0 ≠ 8 by decide)]; omega) (by decide +kernel) dX5_book_93 ?_
  refine kcV_i (g := gn1 (gw g ga) 8 (N 8) r) E hml hP4 hS (kr_1 (g := gn1 (gw g ga) 8 (N 8) r) (N := Nn N 8) (cap := cap) E.2.2.2 hP4 ⟨by decide, by rw [Nn_o (show 1 ≠ 8 by decide)]; omega, fun z => absurd z (by decide)⟩) (c_AL_size l (m_X5_book N σ sailing kind length weight danger isUrgent isLorry) 3 ⟨by decide, by rw [Nn_o (show 1 ≠ 8 by decide)]; omega, fun z => absurd z (by decide)⟩) (cwV 0 hts gX5_book_Jx4a65c_size_8abf5 rfl rfl rfl (by decide +kernel) ⟨Nat.le_trans (Nat.le_of_ble_eq_true rfl) hR.1, Nat.le_trans (Nat.le_of_ble_eq_true rfl) hR.2⟩) rfl hl.1 rfl (Nat.le_of_ble_eq_true rfl) dX5_book_96 ⟨by omega, by omega⟩ (fun H2b locs hP4 hS => ?_)
  refine cp_X1_number (g := gn1 (gw g ga) 8 (N 8) r) (N := Nn N 8) (e₁ := nI (N 8)) E i_X1 hP4 hS (vp_in_nI (by rw [Nn_s]; omega) (by rw [Nn_s]; omega)) (by decide +kernel) dX5_book_99 (fun H2c locs hP4 hS => ?_)
  rw [nI_clamp (by omega)] at hP4
  have hC : (st (m_X5_book N σ sailing kind length weight danger isUrgent isLorry) 55 (N 8) ((m_X5_book N σ sailing kind length weight danger isUrgent isLorry) 54 3)) 54 (lof 8) = nI (N 8) := by rw [st_nf _ _ _ (show (54 : Nat) ≠ 55 by decide)]; rw [hsz3]; exact hI.2.1.2.2.2
  have hs1 : Nn N 8 1 = N 1 := Nn_o (by decide)
  have hv1 : lv (Nn N 8) cap 1 3 := ⟨by decide, by rw [hs1]; omega, fun z => absurd z (by decide)⟩
  refine lv_aload_n hx hb dX5_book_102 rfl (lv_at hl 2 rfl) ?_
  refine cg_X5_bookings (g := gn1 (gw g ga) 8 (N 8) r) E i_X5 hP4 (by rw [Nn_o (show 0 ≠ 8 by decide)]; omega) (by decide +kernel) dX5_book_103 ?_
  refine lv_aload hx hb dX5_book_106 (lv_at hl 0 rfl) ?_
  have hel : EL (Nn N 8) cap (gn1 (gw g ga) 8 (N 8) r) (crow (gn1 (gw g ga) 8 (N 8) r) (st (m_X5_book N σ sailing kind length weight danger isUrgent isLorry) 55 (N 8) ((m_X5_book N σ sailing kind length weight danger isUrgent isLorry) 54 3)) 3) := fun i y h => by
    unfold crow at h
    by_cases hi : i < ((st (m_X5_book N σ sailing kind length weight danger isUrgent isLorry) 55 (N 8) ((m_X5_book N σ sailing kind length weight danger isUrgent isLorry) 54 3)) 54 3).toNatClampNeg
    · rw [if_pos hi] at h
      have hi2 : i < ((st (m_X5_book N σ sailing kind length weight danger isUrgent isLorry) 55 (N 8) ((m_X5_book N σ sailing kind length weight danger isUrgent isLorry) 54 3)) 54 (lof 8)).toNatClampNeg := hi
      rw [hC, nI_clamp (by omega)] at hi2
      exact ⟨8, i, ⟨by decide, by rw [Nn_s]; omega, fun z => absurd z (by decide)⟩, by omega, (Option.some.inj h).symm⟩
    · rw [if_neg hi] at h; cases h
  refine kqV_i (As := [.ref r]) (rest := []) E hml hS (kr_1 (g := gn1 (gw g ga) 8 (N 8) r) (N := Nn N 8) (cap := cap) E.2.2.2 hP4 hv1) qyBl (fun U hU hW => ⟨⟨by rw [hU]; exact cQ_of hP4, va_K.moved hW.alike E.2.2.2⟩, cY_at hY hS hU hW⟩) (l_add l (aE := aE) (g := gn1 (gw g ga) 8 (N 8) r) (cap := cap) (N := Nn N 8) (rw := crow (gn1 (gw g ga) 8 (N 8) r) (st (m_X5_book N σ sailing kind length weight danger isUrgent isLorry) 55 (N 8) ((m_X5_book N σ sailing kind length weight danger isUrgent isLorry) 54 3))) (st (m_X5_book N σ sailing kind length weight danger isUrgent isLorry) 55 (N 8) ((m_X5_book N σ sailing kind length weight danger isUrgent isLorry) 54 3)) 3 (N 8) r hv1 (by rw [hs1, Nn_o (show 2 ≠ 8 by decide)]; exact n2) (cap_C hI.2.1.2.2.2 (hI.2.2.2.2.2 3 (by omega))) (hG.2 3 (by omega)) (by omega) (fun z => (gn1_o (by omega)).trans (hG.1 3 (by omega) z)) (fun i hi => if_neg (by show ¬ i < ((st (m_X5_book N σ sailing kind length weight danger isUrgent isLorry) 55 (N 8) ((m_X5_book N σ sailing kind length weight danger isUrgent isLorry) 54 3)) 54 (lof 8)).toNatClampNeg; rw [hC, nI_clamp (by omega)]; omega)) hel hC ⟨8, N 8, ⟨by decide, by rw [Nn_s]; omega, fun z => absurd z (by decide)⟩, by omega, gn1_s.symm⟩) (cwV 1 hts gX5_book_Jx4a65c_add_9ea2d rfl rfl rfl (by decide +kernel) ⟨Nat.le_trans (Nat.le_of_ble_eq_true rfl) hR.1, Nat.le_trans (Nat.le_of_ble_eq_true rfl) hR.2⟩) rfl hl.1 rfl (Nat.le_of_ble_eq_true rfl) dX5_book_108 ⟨by omega, by omega⟩ (fun v u t H3 locs ht hvm hw hB hz hk hS => ?_)
  obtain ⟨hv1', hGC, hlt⟩ := hw
  have hQ5 := hB.1
  rw [ht] at hQ5
  have hG6 : cG D cI cO A aE (gn1 g 8 (N 8) r) (Nn N 8) (s_X5_book N σ sailing kind length weight danger isUrgent isLorry) H3 := cG_mk (k := 8) (by omega) hG (by first | exact hI3 | exact KI_o hI3 (by decide)) hN' (fun _ => (by rw [st_nf _ _ _ (show (36 : Nat) ≠ 55 by decide), show (m_X5_book N σ sailing kind length weight danger isUrgent isLorry) 36 (N 8) = sailing by (unfold m_X5_book; simp [st_at])]; exact num_in c0 hI.2.1.2.2.1 (by omega))) hGC hlt hQ5
  obtain ⟨a5, cap5, hGI5, hI5, hP5⟩ := id hG6
  have hadr : gw (gn1 g 8 (N 8) r) a5 8 (nI (N 8)).toNatClampNeg = r := by rw [nI_clamp (by omega), gw_o (by decide), gn1_s]
  refine lv_pop hx hb dX5_book_111 rfl ?_
  refine lv_aload hx hb dX5_book_112 (show ls[9]? = some (.val (.ref (gw (gn1 g 8 (N 8) r) a5 8 (nI (N 8)).toNatClampNeg))) by rw [hadr]; exact lv_at hl 0 rfl) ?_
  refine cg_X1_number (g := gw (gn1 g 8 (N 8) r) a5) (N := Nn N 8) (e₁ := nI (N 8)) E i_X1 hP5 (vp_in_nI (by rw [Nn_s]; omega) (by rw [Nn_s]; omega)) (by decide +kernel) dX5_book_114 ?_
  rw [show s_X5_book N σ sailing kind length weight danger isUrgent isLorry 55 (nI (N 8)).toNatClampNeg = nI (N 8) by (rw [nI_clamp (by omega)]; unfold s_X5_book; rw [st_nf _ _ _ (show (55 : Nat) ≠ 54 by decide), st_nf _ _ _ (show (55 : Nat) ≠ 52 by decide), st_self, hsz3]; exact hI.2.1.2.2.2)]
  exact W.widen (k := 9) (n := 216) (by omega) (by omega) (vx_ret (W.iret (v := nI (N 8)) B.exec B.bytes hr (fun t ht hW => ⟨⟨nI (N 8), gn1 g 8 (N 8) r, rfl, ⟨rfl, ht0, hN', fun k n hn => gn1_o (by rintro ⟨rfl, w⟩; omega)⟩, by rw [ht]; exact hG6, va_K.moved hW.alike hK⟩, hS.F ht⟩) hS.2.2 dX5_book_117))
