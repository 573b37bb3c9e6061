/-! a sailing made and told to its list -/
theorem q7n {j : Nat} (h : j < 60) : ((2 : Int32) * nI j).toNatClampNeg = 2 * j := by
  rw [show (2 : Int32) = nI 2 from rfl, pk_mul, nI_clamp (by omega)]
theorem q8n {j : Nat} (h : j < 60) : ((2 : Int32) * nI j + 1).toNatClampNeg = 2 * j + 1 := by
  rw [show (2 : Int32) = nI 2 from rfl, show (1 : Int32) = nI 1 from rfl, pk_mul, nI_add, nI_clamp (by omega)]
def m_X5_sailing (N : Nat → Nat) (σ : St) (boat : Int32) (from_ : Int32) (to_ : Int32) (ahead : Int32) (duration : Int32) (isLifeline : Int32) : St := st (st (st (st (st (st (st (st (st (st (st (st (st (st (st (st (st (st (st (σ) 23 (N 6) boat) 24 (N 6) from_) 25 (N 6) to_) 26 (N 6) (σ 1 0 + ahead)) 27 (N 6) duration) 28 (N 6) isLifeline) 50 (N 6) 0) 51 (N 6) 0) 22 (N 6) 0) 29 (N 6) 0) 31 (N 6) 0) 32 (N 7) 0) 33 (N 7) 0) 32 (N 7 + 1) 0) 33 (N 7 + 1) 0) 52 (N 1) 0) 54 (N 1) 0) 52 (N 1 + 1) 0) 54 (N 1 + 1) 0
def s_X5_sailing (N : Nat → Nat) (σ : St) (boat : Int32) (from_ : Int32) (to_ : Int32) (ahead : Int32) (duration : Int32) (isLifeline : Int32) : St := st (st (m_X5_sailing N σ boat from_ to_ ahead duration isLifeline) 52 2 ((m_X5_sailing N σ boat from_ to_ ahead duration isLifeline) 52 2 + 1)) 54 2 (nI (N 6 + 1))
set_option maxHeartbeats 4000000 in
set_option maxRecDepth 100000 in
theorem c_X5_sailing (l : Launch) (hst : l.stackTraces = false) {D : va_G} {A : Nat → Prop} {cI cO : ClassId} {aE : Nat} {g : Gh} {N : Nat → Nat} (σ : St) (boat : Int32) (from_ : Int32) (to_ : Int32) (ahead : Int32) (duration : Int32) (isLifeline : Int32) (h_life : isB isLifeline) : vx_Met l yX5_sailing wsX5_sailing ({ frames := 8, cells := 13, slots := 256, locals := 215 }) (va_Pc [.ref (g 0 0), .int boat, .int from_, .int to_, .int ahead, .int duration, .int isLifeline] (cGX D cI cO A aE g N σ)) (va_Qi (fun r (u : Gh) => r = nI (N 6) ∧ t_X5_sailing σ boat from_ to_ ahead duration isLifeline = 0 ∧ KN (Ns N) ∧ ∀ k n, n < N k → u k n = g k n) (fun u t => cGU D cI cO A aE u (Ns N) (s_X5_sailing N σ boat from_ to_ ahead duration isLifeline) t) A) (vx_X (fun (_ : Unit) => ¬ t_X5_sailing σ boat from_ to_ ahead duration isLifeline = 0) (fun E _ t => E = exN (t_X5_sailing σ boat from_ to_ ahead duration isLifeline) ∧ cGU D cI cO A aE g N σ t) A) 13 256 A := by
  refine vx_ofW (cc := cX5_sailing) (maxL := 8) (ret := (some .int)) (by decide) rfl ?_
  intro p e s m args below meth c s₁ B hml htab hv
  obtain ⟨rfl, ⟨⟨⟨ga, cap, hG, hI, hP⟩, hK⟩, hY⟩, hX⟩ := hv
  have E : kE p c cX5_sailing s m ([.ref (g 0 0), .int boat, .int from_, .int to_, .int ahead, .int duration, .int isLifeline] : List Value).toArray wsX5_sailing RX5 D cI cO := ⟨⟨B.exec, B.bytes⟩, atoms_spec (ws := wsX5_sailing) B.pre, findClass_of_methodNamed B.named, hK⟩
  have hx := E.1.1
  have hb := E.1.2
  have hts := E.2.1
  have hr := B.returns
  have hlocks := B.notSynchronized
  obtain ⟨n0, n4, n5, n6, n8, n7, n1, n2, n3⟩ := id hI.1
  have i_X5 : ∀ w ∈ wsX50, w ∈ wsX5_sailing := by decide +kernel
  have i_X3 : ∀ w ∈ wsX30, w ∈ wsX5_sailing := by decide +kernel
  have hR : 8 ≤ ((headSpec wsX5_sailing ({ frames := 8, cells := 13, slots := 256, locals := 215 })).room).frames ∧ 215 ≤ ((headSpec wsX5_sailing ({ frames := 8, cells := 13, slots := 256, locals := 215 })).room).locals := ⟨Nat.le_of_ble_eq_true rfl, Nat.le_of_ble_eq_true rfl⟩
  have hfm : 13 ≤ ((headSpec wsX5_sailing ({ frames := 8, cells := 13, slots := 256, locals := 215 })).room).cells ∧ 256 ≤ ((headSpec wsX5_sailing ({ frames := 8, cells := 13, slots := 256, locals := 215 })).room).slots := ⟨Nat.le_refl _, Nat.le_refl _⟩
  have hl := lv_entry ([.ref (g 0 0), .int boat, .int from_, .int to_, .int ahead, .int duration, .int isLifeline]) (n := 8) (Nat.le_of_ble_eq_true rfl)
  rw [lg_entry_eq]
  generalize (lg_sl ([.ref (g 0 0), .int boat, .int from_, .int to_, .int ahead, .int duration, .int isLifeline]) ++ List.replicate (8 - (lg_sl ([.ref (g 0 0), .int boat, .int from_, .int to_, .int ahead, .int duration, .int isLifeline])).length) Slot.unset).toArray = ls at hl ⊢
  generalize (headSpec wsX5_sailing ({ frames := 8, cells := 13, slots := 256, locals := 215 })).room = R at hR hfm ⊢
  refine w_X5_sailing (g := gw g ga) (cap := cap) (N := N) hst σ boat from_ to_ ahead duration isLifeline hI E hml ⟨Nat.le_trans (Nat.le_of_ble_eq_true rfl) hR.1, Nat.le_trans (Nat.le_of_ble_eq_true rfl) hR.2⟩ hfm hlocks htab hX hP va_S.rf hl (fun H locs ls ht0 c0 c1 c2 c3 c4 c5 hP hS hl => ?_) (fun E9 t9 h1 h2 hW9 hP9 hF9 => ⟨(), h2, ⟨h1, ⟨ga, cap, hG, hI, hP9⟩, va_K.moved hW9 hK⟩, hF9⟩)
  have hroom : N 6 < 60 := (nI_ltI (by omega) (by omega)).mp (by rw [← hI.2.1.2.2.1]; exact c5)
  have hN' : KN (Ns N) := KN_s hI.1 hroom
  refine kn_new (C := RX3) (T := TX3) (M := 16) (ci := 6) (fs := [.int 0, .null, .null, .null, .int 0, .int 0, .int 0, .null, .null, .null, .null, .int 0, .int 0, .int 0, .int 0, .int 0]) E i_X3 tyX3 tyX3_ok ⟨by decide +kernel, by decide +kernel, by decide +kernel⟩ hS hX.2.2.2.2 rfl (by decide +kernel) (by omega) (by omega) dX5_sailing_78 (fun r H1 hr1 o1 hrs hAr hS => ?_)
  have hfr : ∀ k n, lv N cap k n → gw g ga k n ≠ r := fun k n hl z => by have := (hP.1 k n hl).1.lt; rw [hrs] at z; exact absurd z (Nat.ne_of_lt this)
  have hP1 : cP D cI cO A (gw g ga) cap N σ H1 := cP_kept hP (fun q hq _ => o1 q hq)
  refine lv_dup hx hb dX5_sailing_81 rfl ?_
  refine lv_aload_n hx hb dX5_sailing_82 rfl (lv_at hl 0 rfl) ?_
  refine cg_X5_sailings (g := gw g ga) E i_X5 hP1 (by omega) (by decide +kernel) dX5_sailing_83 ?_
  refine kn_i (g := gw g ga) (r := r) E hml hP1 hfr hr1.lt hS (kr_1 (g := gw g ga) (N := N) (cap := cap) E.2.2.2 hP1 ⟨by decide, by omega, fun z => absurd z (by decide)⟩) (c_AL_size l σ 2 ⟨by decide, by omega, fun z => absurd z (by decide)⟩) (cwV 0 hts gX5_sailing_Jx4a65c_size_8abf5 rfl rfl rfl (by decide +kernel) ⟨Nat.le_trans (Nat.le_of_ble_eq_true rfl) hR.1, Nat.le_trans (Nat.le_of_ble_eq_true rfl) hR.2⟩) rfl hl.1 rfl (Nat.le_of_ble_eq_true rfl) dX5_sailing_86 ⟨by omega, by omega⟩ (fun H1b locs hP1b hrb hzb hS => ?_)
  replace hr1 : va_at D vwCl (r, .inr (6, [.int 0, .null, .null, .null, .int 0, .int 0, .int 0, .null, .null, .null, .null, .int 0, .int 0, .int 0, .int 0, .int 0])) H1b := hr1.kept hrb
  replace hP1 := hP1b
  refine lv_aload_n hx hb dX5_sailing_89 rfl (lv_at hl 0 rfl) ?_
  refine cg_X5_boats (g := gw g ga) E i_X5 hP1 (by omega) (by decide +kernel) dX5_sailing_90 ?_
  refine lv_iload_n hx hb dX5_sailing_93 rfl (lv_at hl 1 rfl) ?_
  refine kn_r (g := gw g ga) (r := r) (v := gw g ga 5 boat.toNatClampNeg) E hml hP1 hfr hr1.lt hS (kr_1 (g := gw g ga) (N := N) (cap := cap) E.2.2.2 hP1 ⟨by decide, by omega, fun z => absurd z (by decide)⟩) (c_AL_get l σ 1 boat ⟨by decide, by omega, fun z => absurd z (by decide)⟩ n2 (hI.2.2.2.2.2 _ (by omega)) (by rw [hI.2.1.2.1, nI_clamp (by omega)]; exact (num_in c0 hI.2.1.2.1 (by omega)))) (cwV 1 hts gX5_sailing_Jx4a65c_get_915e3 rfl rfl rfl (by decide +kernel) ⟨Nat.le_trans (Nat.le_of_ble_eq_true rfl) hR.1, Nat.le_trans (Nat.le_of_ble_eq_true rfl) hR.2⟩) rfl hl.1 rfl (Nat.le_of_ble_eq_true rfl) dX5_sailing_94 ⟨by omega, by omega⟩ (fun H1b locs hP1b hrb hzb hS => ?_)
  replace hr1 : va_at D vwCl (r, .inr (6, [.int 0, .null, .null, .null, .int 0, .int 0, .int 0, .null, .null, .null, .null, .int 0, .int 0, .int 0, .int 0, .int 0])) H1b := hr1.kept hrb
  replace hP1 := hP1b
  refine kcast E (E.2.2.2.1 3 _ rfl).2 (kr_5 (g := gw g ga) E.2.2.2 hP1 ⟨by decide, vp_lt (num_in c0 hI.2.1.2.1 (by omega)), fun z => absurd z (by decide)⟩) (by decide +kernel) dX5_sailing_97 ?_
  refine lv_aload_n hx hb dX5_sailing_100 rfl (lv_at hl 0 rfl) ?_
  refine cg_X5_piers (g := gw g ga) E i_X5 hP1 (by omega) (by decide +kernel) dX5_sailing_101 ?_
  refine lv_iload_n hx hb dX5_sailing_104 rfl (lv_at hl 2 rfl) ?_
  refine kn_r (g := gw g ga) (r := r) (v := gw g ga 4 from_.toNatClampNeg) E hml hP1 hfr hr1.lt hS (kr_1 (g := gw g ga) (N := N) (cap := cap) E.2.2.2 hP1 ⟨by decide, by omega, fun z => absurd z (by decide)⟩) (c_AL_get l σ 0 from_ ⟨by decide, by omega, fun z => absurd z (by decide)⟩ n2 (hI.2.2.2.2.2 _ (by omega)) (by rw [hI.2.1.1, nI_clamp (by omega)]; exact (num_in c1 hI.2.1.1 (by omega)))) (cwV 1 hts gX5_sailing_Jx4a65c_get_915e3 rfl rfl rfl (by decide +kernel) ⟨Nat.le_trans (Nat.le_of_ble_eq_true rfl) hR.1, Nat.le_trans (Nat.le_of_ble_eq_true rfl) hR.2⟩) rfl hl.1 rfl (Nat.le_of_ble_eq_true rfl) dX5_sailing_105 ⟨by omega, by omega⟩ (fun H1b locs hP1b hrb hzb hS => ?_)
  replace hr1 : va_at D vwCl (r, .inr (6, [.int 0, .null, .null, .null, .int 0, .int 0, .int 0, .null, .null, .null, .null, .int 0, .int 0, .int 0, .int 0, .int 0])) H1b := hr1.kept hrb
  replace hP1 := hP1b
  refine kcast E (E.2.2.2.1 5 _ rfl).2 (kr_4 (g := gw g ga) E.2.2.2 hP1 ⟨by decide, vp_lt (num_in c1 hI.2.1.1 (by omega)), fun z => absurd z (by decide)⟩) (by decide +kernel) dX5_sailing_108 ?_
  refine lv_aload_n hx hb dX5_sailing_111 rfl (lv_at hl 0 rfl) ?_
  refine cg_X5_piers (g := gw g ga) E i_X5 hP1 (by omega) (by decide +kernel) dX5_sailing_112 ?_
  refine lv_iload_n hx hb dX5_sailing_115 rfl (lv_at hl 3 rfl) ?_
  refine kn_r (g := gw g ga) (r := r) (v := gw g ga 4 to_.toNatClampNeg) E hml hP1 hfr hr1.lt hS (kr_1 (g := gw g ga) (N := N) (cap := cap) E.2.2.2 hP1 ⟨by decide, by omega, fun z => absurd z (by decide)⟩) (c_AL_get l σ 0 to_ ⟨by decide, by omega, fun z => absurd z (by decide)⟩ n2 (hI.2.2.2.2.2 _ (by omega)) (by rw [hI.2.1.1, nI_clamp (by omega)]; exact (num_in c2 hI.2.1.1 (by omega)))) (cwV 1 hts gX5_sailing_Jx4a65c_get_915e3 rfl rfl rfl (by decide +kernel) ⟨Nat.le_trans (Nat.le_of_ble_eq_true rfl) hR.1, Nat.le_trans (Nat.le_of_ble_eq_true rfl) hR.2⟩) rfl hl.1 rfl (Nat.le_of_ble_eq_true rfl) dX5_sailing_116 ⟨by omega, by omega⟩ (fun H1b locs hP1b hrb hzb hS => ?_)
  replace hr1 : va_at D vwCl (r, .inr (6, [.int 0, .null, .null, .null, .int 0, .int 0, .int 0, .null, .null, .null, .null, .int 0, .int 0, .int 0, .int 0, .int 0])) H1b := hr1.kept hrb
  replace hP1 := hP1b
  refine kcast E (E.2.2.2.1 5 _ rfl).2 (kr_4 (g := gw g ga) E.2.2.2 hP1 ⟨by decide, vp_lt (num_in c2 hI.2.1.1 (by omega)), fun z => absurd z (by decide)⟩) (by decide +kernel) dX5_sailing_119 ?_
  refine lv_aload_n hx hb dX5_sailing_122 rfl (lv_at hl 0 rfl) ?_
  refine cg_X5_now (g := gw g ga) E i_X5 hP1 (by omega) (by decide +kernel) dX5_sailing_123 ?_
  refine lv_iload hx hb dX5_sailing_126 (lv_at hl 4 rfl) ?_
  refine lv_iadd hx hb dX5_sailing_128 ?_
  refine lv_iload hx hb dX5_sailing_129 (lv_at hl 5 rfl) ?_
  refine lv_iload hx hb dX5_sailing_131 (lv_at hl 6 rfl) ?_
  generalize hn0 : H1b.size = nn
  have hge : s.heap.size ≤ nn := by rw [← hn0]; exact hS.1
  have hAn : ∀ x, nn ≤ x → A x := fun x hx => hX.2.2.2.2 x (Nat.le_trans hge hx)
  refine va_callv (va_runI (As := [.int (σ 54 2), .ref (gw g ga 5 boat.toNatClampNeg), .ref (gw g ga 4 from_.toNatClampNeg), .ref (gw g ga 4 to_.toNatClampNeg), .int (σ 1 0 + ahead), .int duration, .int isLifeline]) (rest := [.ref r]) (b := r) ⟨E.1.1, E.1.2, hml, E.2.2.1, E.2.1⟩ (c_X3_init l nn aE r (σ 54 2) (gw g ga 5 boat.toNatClampNeg) (gw g ga 4 from_.toNatClampNeg) (gw g ga 4 to_.toNatClampNeg) (σ 1 0 + ahead) duration isLifeline h_life) (cwI 7 hts gX5_sailing_X3_init rfl rfl rfl (hts (.initialized RX3) (by decide +kernel)) (hts (.methodLink RX5 98 yX3_init) (by decide +kernel)) (hts (.instanceMethod yX3_init) (by decide +kernel)) rfl (by decide +kernel) ⟨Nat.le_trans (Nat.le_of_ble_eq_true rfl) hR.1, Nat.le_trans (Nat.le_of_ble_eq_true rfl) hR.2⟩) ⟨fun a U g mk q => ⟨q.1, q.2.1, q.2.2.1, va_K.moved (u := U) (U := U.calling g mk a) (Vm.Alike.refl U.vm) q.2.2.2.1, q.2.2.2.2.moved (u := U) (U := U.calling g mk a) (Vm.Alike.refl U.vm)⟩, fun U hU hW => ⟨rfl, by rw [hU]; exact hn0, by rw [hU]; exact one_P hr1, va_K.moved hW.alike E.2.2.2, by rw [hU]; exact ((hY.1.kept hS.2.1).moved hW.alike).narrow (fun x hx => hx.elim (fun z => by rw [z]; exact hAr) (hAn x))⟩⟩ rfl rfl hl.1 rfl (lv_room (Nat.le_of_ble_eq_true rfl)) dX5_sailing_133 ⟨by omega, by omega⟩) hS (fun q _ h => h.elim (fun z => by rw [z]; exact hAr) (hAn q)) (fun q h => h.elim (fun z => by rw [z]; exact hAr) (hAn q)) (fun u t H2 locs ht hvm hw hB hz hk hS => ?_)
  obtain ⟨q1, q2, q3, q4⟩ := u
  obtain ⟨hB1, hB2, hB3⟩ := hB
  rw [ht] at hB1
  have hnum : σ 54 2 = nI (N 6) := hI.2.1.2.2.1
  have w1 := hB1 0 _ rfl
  have w2 := hB1 1 _ rfl
  have w3 := hB1 2 _ rfl
  have w4 := hB1 3 _ rfl
  have w5 := hB1 4 _ rfl
  have hd : r ≠ q1 ∧ r ≠ q2 ∧ r ≠ q3 ∧ r ≠ q4 ∧ q1 ≠ q2 ∧ q1 ≠ q3 ∧ q1 ≠ q4 ∧ q2 ≠ q3 ∧ q2 ≠ q4 ∧ q3 ≠ q4 := ⟨fun z => absurd (hB2.1 0 1 _ _ rfl rfl z) (by decide), fun z => absurd (hB2.1 0 2 _ _ rfl rfl z) (by decide), fun z => absurd (hB2.1 0 3 _ _ rfl rfl z) (by decide), fun z => absurd (hB2.1 0 4 _ _ rfl rfl z) (by decide), fun z => absurd (hB2.1 1 2 _ _ rfl rfl z) (by decide), fun z => absurd (hB2.1 1 3 _ _ rfl rfl z) (by decide), fun z => absurd (hB2.1 1 4 _ _ rfl rfl z) (by decide), fun z => absurd (hB2.1 2 3 _ _ rfl rfl z) (by decide), fun z => absurd (hB2.1 2 4 _ _ rfl rfl z) (by decide), fun z => absurd (hB2.1 3 4 _ _ rfl rfl z) (by decide)⟩
  have g1 : nn ≤ q1 := (hB2.2 1 _ rfl).elim (fun z => absurd z.symm hd.1) id
  have g2 : nn ≤ q2 := (hB2.2 2 _ rfl).elim (fun z => absurd z.symm hd.2.1) id
  have g3 : nn ≤ q3 := (hB2.2 3 _ rfl).elim (fun z => absurd z.symm hd.2.2.1) id
  have g4 : nn ≤ q4 := (hB2.2 4 _ rfl).elim (fun z => absurd z.symm hd.2.2.2.1) id
  have hlt1 : ∀ k n, lv N cap k n → gw g ga k n < nn := fun k n hl => by rw [← hn0]; exact (hP1.1 k n hl).1.lt
  have hP2 : cP D cI cO A (gw g ga) cap N σ H2 := cP_kept2 hP1 (fun k n hl => hk _ (hP1.1 k n hl).1.lt (fun z => z.elim (hfr k n hl) (fun w => absurd (hlt1 k n hl) (Nat.not_lt.mpr w))))
  have hP3 : cP D cI cO A (gw g ga) cap N (m_X5_sailing N σ boat from_ to_ ahead duration isLifeline) H2 := cP_cz (cP_cz (cP_cz (cP_cz (cP_cz (cP_cz (cP_cz (cP_cz (cP_cz (cP_cz (cP_cz (cP_cz (cP_cz (cP_cz (cP_cz (cP_cz (cP_cz (cP_cz (cP_cz (hP2) (cz_23 (Nat.le_refl _))) (cz_24 (Nat.le_refl _))) (cz_25 (Nat.le_refl _))) (cz_26 (Nat.le_refl _))) (cz_27 (Nat.le_refl _))) (cz_28 (Nat.le_refl _))) (cz_50 (Nat.le_refl _))) (cz_51 (Nat.le_refl _))) (cz_22 (Nat.le_refl _))) (cz_29 (Nat.le_refl _))) (cz_31 (Nat.le_refl _))) (cz_32 (Nat.le_refl _))) (cz_33 (Nat.le_refl _))) (cz_32 (Nat.le_succ _))) (cz_33 (Nat.le_succ _))) (cz_52 (Nat.le_refl _))) (cz_54 n2 (Nat.le_refl _))) (cz_52 (Nat.le_succ _))) (cz_54 n2 (Nat.le_succ _))
  have hI3 : KI cap N (m_X5_sailing N σ boat from_ to_ ahead duration isLifeline) := KI_dead (KI_o (KI_dead (KI_o (KI_o (KI_o (KI_o (KI_o (KI_o (KI_o (KI_o (KI_o (KI_o (KI_o (KI_o (KI_o (KI_dead (KI_dead (KI_dead (hI) (Or.inl ⟨by decide, (Nat.le_refl _)⟩)) (Or.inl ⟨by decide, (Nat.le_refl _)⟩)) (Or.inl ⟨by decide, (Nat.le_refl _)⟩)) (by decide)) (by decide)) (by decide)) (by decide)) (by decide)) (by decide)) (by decide)) (by decide)) (by decide)) (by decide)) (by decide)) (by decide)) (by decide)) (Or.inr ⟨rfl, (Nat.le_refl _)⟩)) (by decide)) (Or.inr ⟨rfl, (Nat.le_succ _)⟩)
  have hdf : gs (gw g ga) N aE r q1 q2 q3 q4 5 boat.toNatClampNeg = gw g ga 5 boat.toNatClampNeg := gs_o (by omega) (by omega) (by omega)
  have hdf2 : ∀ n, gs (gw g ga) N aE r q1 q2 q3 q4 4 n = gw g ga 4 n := fun n => gs_o (by omega) (by omega) (by omega)
  have hv6 : (m_X5_sailing N σ boat from_ to_ ahead duration isLifeline) 23 (N 6) = boat ∧ (m_X5_sailing N σ boat from_ to_ ahead duration isLifeline) 24 (N 6) = from_ ∧ (m_X5_sailing N σ boat from_ to_ ahead duration isLifeline) 25 (N 6) = to_ ∧ (m_X5_sailing N σ boat from_ to_ ahead duration isLifeline) 26 (N 6) = σ 1 0 + ahead ∧ (m_X5_sailing N σ boat from_ to_ ahead duration isLifeline) 27 (N 6) = duration ∧ (m_X5_sailing N σ boat from_ to_ ahead duration isLifeline) 28 (N 6) = isLifeline ∧ (m_X5_sailing N σ boat from_ to_ ahead duration isLifeline) 50 (N 6) = 0 ∧ (m_X5_sailing N σ boat from_ to_ ahead duration isLifeline) 51 (N 6) = 0 ∧ (m_X5_sailing N σ boat from_ to_ ahead duration isLifeline) 22 (N 6) = 0 ∧ (m_X5_sailing N σ boat from_ to_ ahead duration isLifeline) 29 (N 6) = 0 ∧ (m_X5_sailing N σ boat from_ to_ ahead duration isLifeline) 31 (N 6) = 0 := by
    unfold m_X5_sailing; simp [st_at]
  have hv7 : (m_X5_sailing N σ boat from_ to_ ahead duration isLifeline) 32 (N 7) = 0 ∧ (m_X5_sailing N σ boat from_ to_ ahead duration isLifeline) 33 (N 7) = 0 ∧ (m_X5_sailing N σ boat from_ to_ ahead duration isLifeline) 32 (N 7 + 1) = 0 ∧ (m_X5_sailing N σ boat from_ to_ ahead duration isLifeline) 33 (N 7 + 1) = 0 ∧ (m_X5_sailing N σ boat from_ to_ ahead duration isLifeline) 52 (N 1) = 0 ∧ (m_X5_sailing N σ boat from_ to_ ahead duration isLifeline) 54 (N 1) = 0 ∧ (m_X5_sailing N σ boat from_ to_ ahead duration isLifeline) 52 (N 1 + 1) = 0 ∧ (m_X5_sailing N σ boat from_ to_ ahead duration isLifeline) 54 (N 1 + 1) = 0 := by
    unfold m_X5_sailing; simp [st_at]
  have e21 : (2 : Nat) ≠ N 1 := by omega
  have e22 : (2 : Nat) ≠ N 1 + 1 := by omega
  have hC : (m_X5_sailing N σ boat from_ to_ ahead duration isLifeline) 54 2 = nI (N 6) := by
    rw [← hnum]; unfold m_X5_sailing; simp [st_at, e21, e22]
  obtain ⟨v1, v2, v3, v4, v5, v6, v7, v8, v9, v10, v11⟩ := id hv6
  obtain ⟨x1, x2, x3, x4, x5, x6, x7, x8⟩ := id hv7
  have hb5 : vp_in boat (N 5) := num_in c0 hI.2.1.2.1 (by omega)
  have hb4 : vp_in from_ (N 4) := num_in c1 hI.2.1.1 (by omega)
  have hb4' : vp_in to_ (N 4) := num_in c2 hI.2.1.1 (by omega)
  have hP4 : cP D cI cO A (gs (gw g ga) N aE r q1 q2 q3 q4) (caps cap N) (Ns N) (m_X5_sailing N σ boat from_ to_ ahead duration isLifeline) H2 := by
    refine cP_sail hI3 hP3 ?_ ?_ ?_ ?_ ?_ (fun x hx => ?_) (fun k n hl => ?_) hd
    · have e9 : cC cI cO (gs (gw g ga) N aE r q1 q2 q3 q4) (caps cap N) (m_X5_sailing N σ boat from_ to_ ahead duration isLifeline) 6 (N 6) = .inr (6, [.int (σ 54 2), .ref (gw g ga 5 boat.toNatClampNeg), .ref (gw g ga 4 from_.toNatClampNeg), .ref (gw g ga 4 to_.toNatClampNeg), .int (σ 1 0 + ahead), .int duration, .int isLifeline, .ref q1, .ref q2, .ref q3, .ref q4, .int (0 : Int32), .int (0 : Int32), .int (0 : Int32), .int (0 : Int32), .int (0 : Int32)]) := by
        rw [cC_6, v1, v2, v3, v4, v5, v6, v7, v8, v9, v10, v11, hdf, hdf2, hdf2, q7n hroom, q8n hroom, q4n hroom, q5n hroom, ← n7, show N 7 + 4 = N 1 by omega, show N 7 + 5 = N 1 + 1 by omega, gs_71, gs_72, gs_11, gs_12, hnum]
      rw [e9]; exact w1
    · have e9 : cC cI cO (gs (gw g ga) N aE r q1 q2 q3 q4) (caps cap N) (m_X5_sailing N σ boat from_ to_ ahead duration isLifeline) 7 (N 7) = .inr (7, [.int (0 : Int32), .int (0 : Int32), .int (0 : Int32)]) := by
        rw [cC_7, x1, x2, show N 7 % 2 = 0 by omega]; rfl
      rw [e9]; exact w2
    · have e9 : cC cI cO (gs (gw g ga) N aE r q1 q2 q3 q4) (caps cap N) (m_X5_sailing N σ boat from_ to_ ahead duration isLifeline) 7 (N 7 + 1) = .inr (7, [.int (1 : Int32), .int (0 : Int32), .int (0 : Int32)]) := by
        rw [cC_7, x3, x4, show (N 7 + 1) % 2 = 1 by omega]; rfl
      rw [e9]; exact w3
    · have e9 : cC cI cO (gs (gw g ga) N aE r q1 q2 q3 q4) (caps cap N) (m_X5_sailing N σ boat from_ to_ ahead duration isLifeline) 1 (N 1) = .inr (2, [.int (0 : Int32), .ref aE, .int 0]) := by
        rw [cC_1, x5, x6, gs_21]
      rw [e9]; exact w4
    · have e9 : cC cI cO (gs (gw g ga) N aE r q1 q2 q3 q4) (caps cap N) (m_X5_sailing N σ boat from_ to_ ahead duration isLifeline) 1 (N 1 + 1) = .inr (2, [.int (0 : Int32), .ref aE, .int 0]) := by
        rw [cC_1, x7, x8, gs_22]
      rw [e9]; exact w5
    · rcases hx with rfl | rfl | rfl | rfl | rfl
      · exact hAr
      · exact hAn _ g1
      · exact hAn _ g2
      · exact hAn _ g3
      · exact hAn _ g4
    · have h9 := hlt1 k n hl
      exact ⟨hfr k n hl, by omega, by omega, by omega, by omega⟩
  have e00 : (gs (gw g ga) N aE r q1 q2 q3 q4) 0 0 = g 0 0 := gs_o (by omega) (by omega) (by omega)
  refine lv_astore (lv' := [(7, .ref r), (0, .ref (g 0 0)), (1, .int boat), (2, .int from_), (3, .int to_), (4, .int ahead), (5, .int duration), (6, .int isLifeline)]) hx hb dX5_sailing_136 hl (by decide) rfl (fun ls hl => ?_)
  have hv1 : lv (Ns N) (caps cap N) 1 2 := ⟨by decide, by rw [Ns_1]; omega, fun z => absurd z (by decide)⟩
  refine lv_aload_n hx hb dX5_sailing_138 rfl (show ls[0]? = some (.val (.ref ((gs (gw g ga) N aE r q1 q2 q3 q4) 0 0))) by rw [e00]; exact lv_at hl 1 rfl) ?_
  refine cg_X5_sailings (g := (gs (gw g ga) N aE r q1 q2 q3 q4)) E i_X5 hP4 (by rw [Ns_o (by decide)]; omega) (by decide +kernel) dX5_sailing_139 ?_
  refine lv_aload hx hb dX5_sailing_142 (lv_at hl 0 rfl) ?_
  have hel : EL (Ns N) (caps cap N) (gs (gw g ga) N aE r q1 q2 q3 q4) (crow (gs (gw g ga) N aE r q1 q2 q3 q4) (m_X5_sailing N σ boat from_ to_ ahead duration isLifeline) 2) := fun i y h => by
    unfold crow at h
    rw [hC, nI_clamp (by omega)] at h
    by_cases hi : i < N 6
    · rw [if_pos hi] at h
      exact ⟨6, i, ⟨by decide, by rw [Ns_6]; omega, fun z => absurd z (by decide)⟩, by omega, (Option.some.inj h).symm⟩
    · rw [if_neg hi] at h; cases h
  refine kqV_i (As := [.ref r]) (rest := []) E hml hS (kr_1 (g := (gs (gw g ga) N aE r q1 q2 q3 q4)) (N := Ns N) (cap := caps cap N) E.2.2.2 hP4 hv1) qyBl (fun U hU hW => ⟨⟨by rw [hU]; exact cQ_of hP4, va_K.moved hW.alike E.2.2.2⟩, cY_at hY hS hU hW⟩) (l_add l (aE := aE) (g := (gs (gw g ga) N aE r q1 q2 q3 q4)) (cap := caps cap N) (N := Ns N) (rw := crow (gs (gw g ga) N aE r q1 q2 q3 q4) (m_X5_sailing N σ boat from_ to_ ahead duration isLifeline)) (m_X5_sailing N σ boat from_ to_ ahead duration isLifeline) 2 (N 6) r hv1 (by rw [Ns_2, Ns_1, n2]) (by rw [caps_o (by omega)]; exact cap_C hI.2.1.2.2.1 (hI.2.2.2.2.2 2 (by omega))) (by rw [caps_o (by omega)]; exact hG.2 2 (by omega)) (by omega) (fun z => (gs_o (by omega) (by omega) (by omega)).trans (hG.1 2 (by omega) (by rw [caps_o (by omega)] at z; exact z))) (fun i hi => if_neg (by rw [hC, nI_clamp (by omega)]; omega)) hel hC ⟨6, N 6, ⟨by decide, by rw [Ns_6]; omega, fun z => absurd z (by decide)⟩, by omega, gs_6.symm⟩) (cwV 1 hts gX5_sailing_Jx4a65c_add_9ea2d rfl rfl rfl (by decide +kernel) ⟨Nat.le_trans (Nat.le_of_ble_eq_true rfl) hR.1, Nat.le_trans (Nat.le_of_ble_eq_true rfl) hR.2⟩) rfl hl.1 rfl (Nat.le_of_ble_eq_true rfl) dX5_sailing_144 ⟨by omega, by omega⟩ (fun v u t H3 locs ht hvm hw hB hz hk hS => ?_)
  obtain ⟨hv1', hGC, hlt⟩ := hw
  have hQ5 := hB.1
  rw [ht] at hQ5
  have hG6 : cG D cI cO A aE (gs g N aE r q1 q2 q3 q4) (Ns N) (s_X5_sailing N σ boat from_ to_ ahead duration isLifeline) H3 := cG_mks hG hI3 hroom (by rw [v1, v2, v3]; exact ⟨hb5, hb4, hb4'⟩) ⟨x6, x8⟩ hGC hlt hQ5
  obtain ⟨a5, cap5, hGI5, hI5, hP5⟩ := id hG6
  have hadr : gw (gs g N aE r q1 q2 q3 q4) a5 6 (nI (N 6)).toNatClampNeg = r := by rw [nI_clamp (by omega), gw_o (by decide), gs_6]
  refine lv_pop hx hb dX5_sailing_147 rfl ?_
  refine lv_aload hx hb dX5_sailing_148 (show ls[7]? = some (.val (.ref (gw (gs g N aE r q1 q2 q3 q4) a5 6 (nI (N 6)).toNatClampNeg))) by rw [hadr]; exact lv_at hl 0 rfl) ?_
  refine cg_X3_number (g := gw (gs g N aE r q1 q2 q3 q4) a5) (N := Ns N) (e₁ := nI (N 6)) E i_X3 hP5 (vp_in_nI (by rw [Ns_6]; omega) (by rw [Ns_6]; omega)) (by rw [Ns_6]; omega) (by decide +kernel) dX5_sailing_150 ?_
  exact W.widen (k := 13) (n := 256) (by omega) (by omega) (vx_ret (W.iret (v := nI (N 6)) B.exec B.bytes hr (fun t ht hW => ⟨⟨nI (N 6), gs g N aE r q1 q2 q3 q4, rfl, ⟨rfl, ht0, hN', fun k n hn => gs_o (fun z => by rw [z] at hn; exact hn) (fun z => by rw [z] at hn; exact hn) (fun z => by rcases z with z | z <;> rw [z] at hn <;> omega)⟩, by rw [ht]; exact hG6, va_K.moved hW.alike hK⟩, hS.F ht⟩) hS.2.2 dX5_sailing_153))
