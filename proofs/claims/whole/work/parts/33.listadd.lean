/-! lists written: growing, adding at the end -/
def gn (C : Nat) : Nat := if C = 0 then 10 else C + (if 1 < C / 2 then C / 2 else 1)
theorem gn_b {C : Nat} (h : C ≤ 99) : C + 1 ≤ gn C ∧ gn C ≤ 150 ∧ 0 < gn C := by
  unfold gn
  by_cases h0 : C = 0
  · rw [if_pos h0]; omega
  · rw [if_neg h0]; by_cases h1 : 1 < C / 2
    · rw [if_pos h1]; omega
    · rw [if_neg h1]; omega
theorem shr1 : ∀ C : Nat, C < 100 → nI C >>> ((1 : Int32) &&& 31) = nI (C / 2) := by decide +kernel
theorem nlen : ∀ C : Nat, C < 100 → 0 < C → nI C + (if (1 : Int32) < nI (C / 2) then nI (C / 2) else (1 : Int32)) = nI (gn C) := by decide +kernel
theorem ru_self {rw : Nat → Nat → Option Nat} {q : Nat} : ru rw q (rw q) = rw := by
  funext j
  unfold ru
  by_cases h : j = q
  · rw [if_pos h, h]
  · rw [if_neg h]
/-- what a list's growing changes of addresses and capacities -/
def GC (g : Gh) (cap : Nat → Nat) (q : Nat) (g1 : Gh) (cap1 : Nat → Nat) : Prop := (∀ k n, k ≠ 2 → g1 k n = g k n) ∧ (∀ n, n ≠ q → g1 2 n = g 2 n ∧ cap1 n = cap n) ∧ cap q ≤ cap1 q ∧ 0 < cap1 q ∧ cap1 q ≤ 150
theorem GC_lv {g g1 : Gh} {cap cap1 N : Nat → Nat} {q : Nat} (h : GC g cap q g1 cap1) {k n : Nat} (hl : lv N cap k n) : lv N cap1 k n := ⟨hl.1, hl.2.1, fun z => by
  have := hl.2.2 z
  by_cases hn : n = q
  · subst hn; exact h.2.2.2.1
  · rw [(h.2.1 n hn).2]; exact this⟩
theorem GC_rf {g : Gh} {cap : Nat → Nat} {q : Nat} (h : 0 < cap q) (h2 : cap q ≤ 150) : GC g cap q g cap := ⟨fun _ _ _ => rfl, fun _ _ => ⟨rfl, rfl⟩, Nat.le_refl _, h, h2⟩
theorem GC_gq {g : Gh} {cap : Nat → Nat} {q r n : Nat} (h : cap q ≤ n) (h0 : 0 < n) (h2 : n ≤ 150) : GC g cap q (gq g q r) (cq cap q n) := ⟨fun _ _ hk => gq_o hk, fun j hj => ⟨by rw [gq_2, if_neg hj], if_neg hj⟩, by show _ ≤ (if q = q then n else cap q); rw [if_pos rfl]; exact h, by show 0 < (if q = q then n else cap q); rw [if_pos rfl]; exact h0, by show (if q = q then n else cap q) ≤ 150; rw [if_pos rfl]; exact h2⟩
set_option maxHeartbeats 1000000 in
set_option maxRecDepth 100000 in
theorem l_grow2 (l : Launch) {D : va_G} {A : Nat → Prop} {cI cO : ClassId} {aE : Nat} {g : Gh} {cap N : Nat → Nat} {rw : Nat → Nat → Option Nat} (τ : St) (q C : Nat) (hq : lv N cap 1 q) (hN : N 2 = N 1) (hC : cap q = C) (h99 : C ≤ 99) (hE : C = 0 → g 2 q = aE) (hr0 : ∀ i, C ≤ i → rw q i = none) (hel : EL N cap g (rw q)) : Met l yJx4a65c_grow_92f84 wsJx4a65c_grow_92f84 ({ frames := 3, cells := 1, slots := 150, locals := 110 }) (va_Pc [.ref (g 1 q), .int (nI (C + 1))] (qY D cI cO A aE g cap N rw τ)) (va_Qr (fun (_ : Unit) => True) (fun _ ra t => qU D cI cO A (gq g q ra) (cq cap q (gn C)) N rw τ t) A) 1 150 A := by
  refine Met.ofW (cc := cJx4a65c_grow_92f84) (maxL := 4) (ret := (some (.array (.object "java/lang/Object")))) (by decide) rfl ?_
  intro p e s m args below meth c s₁ B hml hv
  obtain ⟨rfl, ⟨⟨hQ, hK⟩, hY⟩⟩ := hv
  have E : kE p c cJx4a65c_grow_92f84 s m ([.ref (g 1 q), .int (nI (C + 1))] : List Value).toArray wsJx4a65c_grow_92f84 RJx4a65c D cI cO := ⟨⟨B.exec, B.bytes⟩, atoms_spec (ws := wsJx4a65c_grow_92f84) B.pre, findClass_of_methodNamed B.named, hK⟩
  have hx := E.1.1
  have hb := E.1.2
  have hts := E.2.1
  have hr := B.returns
  have hlocks := B.notSynchronized
  have hS : va_S A s.heap s.heap [] := va_S.rf
  have hR : 3 ≤ ((headSpec wsJx4a65c_grow_92f84 ({ frames := 3, cells := 1, slots := 150, locals := 110 })).room).frames ∧ 110 ≤ ((headSpec wsJx4a65c_grow_92f84 ({ frames := 3, cells := 1, slots := 150, locals := 110 })).room).locals := ⟨Nat.le_of_ble_eq_true rfl, Nat.le_of_ble_eq_true rfl⟩
  have hfm : 1 ≤ ((headSpec wsJx4a65c_grow_92f84 ({ frames := 3, cells := 1, slots := 150, locals := 110 })).room).cells ∧ 150 ≤ ((headSpec wsJx4a65c_grow_92f84 ({ frames := 3, cells := 1, slots := 150, locals := 110 })).room).slots := ⟨Nat.le_refl _, Nat.le_refl _⟩
  have hl := lv_entry ([.ref (g 1 q), .int (nI (C + 1))]) (n := 4) (Nat.le_of_ble_eq_true rfl)
  rw [lg_entry_eq]
  generalize (lg_sl ([.ref (g 1 q), .int (nI (C + 1))]) ++ List.replicate (4 - (lg_sl ([.ref (g 1 q), .int (nI (C + 1))])).length) Slot.unset).toArray = ls at hl ⊢
  generalize (headSpec wsJx4a65c_grow_92f84 ({ frames := 3, cells := 1, slots := 150, locals := 110 })).room = R at hR hfm ⊢
  have hin : ∀ w ∈ wsJx4a65c0, w ∈ wsJx4a65c_grow_92f84 := by decide +kernel
  obtain ⟨b1, b2, b3⟩ := gn_b h99
  refine lv_aload_n hx hb dJx4a65c_grow_92f84_0 rfl (lv_at hl 0 rfl) ?_
  refine lg_elem E hin hQ hq (by decide +kernel) dJx4a65c_grow_92f84_1 ?_
  by_cases h0 : C = 0
  · subst h0
    have haE : ln0 s (g 2 q) 0 s.heap := by rw [hE rfl]; exact hY.2.1
    refine lq_len0 E haE dJx4a65c_grow_92f84_4 ?_
    refine lv_istore_n (lv' := [(2, .int (nI 0)), (0, .ref (g 1 q)), (1, .int (nI (0 + 1)))]) hx hb dJx4a65c_grow_92f84_5 rfl hl (by decide) rfl (fun ls hl => ?_)
    refine lv_iload_n hx hb dJx4a65c_grow_92f84_6 rfl (lv_at hl 0 rfl) ?_
    refine lv_if_gt (tgt := 20) hx hb dJx4a65c_grow_92f84_7 (by decide) (fun z => absurd z (by decide)) (fun _ => ?_)
    refine lv_aload_n hx hb dJx4a65c_grow_92f84_10 rfl (lv_at hl 1 rfl) ?_
    refine lg_elem E hin hQ hq (by decide +kernel) dJx4a65c_grow_92f84_11 ?_
    refine va_gets hx hb hY.1 hS E.2.2.1 (hts (.fieldLink RJx4a65c 39 "java/util/ArrayList" "DEFAULTCAPACITY_EMPTY_ELEMENTDATA" "[Ljava/lang/Object;") (by decide +kernel)) (fun _ h9 => h9) dJx4a65c_grow_92f84_14 ?_
    refine lv_acmp_eq (rx := some (g 2 q)) (ry := some aE) (tgt := 45) hx hb dJx4a65c_grow_92f84_17 (by decide) (fun _ => ?_) (fun z => absurd (congrArg some (hE rfl)) z)
    refine lv_aload_n hx hb dJx4a65c_grow_92f84_45 rfl (lv_at hl 1 rfl) ?_
    refine lv_bipush (v := 10) hx hb dJx4a65c_grow_92f84_46 (by decide) ?_
    refine lv_iload_n hx hb dJx4a65c_grow_92f84_48 rfl (lv_at hl 2 rfl) ?_
    refine kmmax E hml hl.1 ⟨by decide +kernel, by decide +kernel, by decide +kernel, by decide +kernel⟩ (Nat.le_trans (Nat.le_of_ble_eq_true rfl) hR.1) (Nat.le_trans (Nat.le_of_ble_eq_true rfl) hR.2) ⟨Nat.zero_le _, Nat.zero_le _⟩ dJx4a65c_grow_92f84_49 ?_
    rw [if_neg (show ¬ (10 : Int32) < nI (0 + 1) by decide)]
    refine lq_new (n' := 10) E hQ hS hY.2.2.2.1 hY.2.2.2.2.2.2 (by decide) (by decide) (by decide) (Nat.le_trans (Nat.le_of_ble_eq_true rfl) hfm.1) (Nat.le_trans (Nat.le_of_ble_eq_true rfl) hfm.2) (by decide +kernel) dJx4a65c_grow_92f84_52 (fun ra H hQ o1 hrt hAr hfr hrs hS => ?_)
    refine W.widen (k := 1) (n := 150) (Nat.le_of_ble_eq_true rfl) (Nat.le_of_ble_eq_true rfl) ?_
    refine lv_dup_x1 hx hb dJx4a65c_grow_92f84_55 rfl rfl ?_
    refine lp_elem E hin hQ hS hq hN (by decide) hrt hAr hfr (by decide +kernel) dJx4a65c_grow_92f84_56 (fun H locs hQ hS => ?_)
    rw [show (fun _ => none : Nat → Option Nat) = rw q from (funext fun i => hr0 i (Nat.zero_le _)).symm, ru_self] at hQ
    exact W.aret (v := .ref ra) hx hb hr (Or.inr ⟨_, rfl⟩) (Or.inr ⟨_, rfl⟩) (fun t ht hW => ⟨⟨(), ra, rfl, trivial, by rw [ht]; exact hQ, va_K.moved hW.alike hK⟩, hS.F ht⟩) hS.2.2 dJx4a65c_grow_92f84_59
  · have hv2 : lv N cap 2 q := ⟨by decide, by rw [hN]; exact hq.2.1, fun _ => by omega⟩
    refine lq_len E hQ hv2 dJx4a65c_grow_92f84_4 ?_
    rw [hC]
    refine lv_istore_n (lv' := [(2, .int (nI C)), (0, .ref (g 1 q)), (1, .int (nI (C + 1)))]) hx hb dJx4a65c_grow_92f84_5 rfl hl (by decide) rfl (fun ls hl => ?_)
    refine lv_iload_n hx hb dJx4a65c_grow_92f84_6 rfl (lv_at hl 0 rfl) ?_
    refine lv_if_gt (tgt := 20) hx hb dJx4a65c_grow_92f84_7 (by decide) (fun _ => ?_) (fun z => absurd (nI_lt (a := 0) (by omega) (by omega)) z)
    refine lv_iload_n hx hb dJx4a65c_grow_92f84_20 rfl (lv_at hl 0 rfl) ?_
    refine lv_iload_n hx hb dJx4a65c_grow_92f84_21 rfl (lv_at hl 2 rfl) ?_
    refine lv_iload_n hx hb dJx4a65c_grow_92f84_22 rfl (lv_at hl 0 rfl) ?_
    refine lv_isub hx hb dJx4a65c_grow_92f84_23 ?_
    rw [show nI (C + 1) - nI C = 1 by rw [nI_succ, Int32.add_comm, Int32.add_sub_cancel]]
    refine lv_iload_n hx hb dJx4a65c_grow_92f84_24 rfl (lv_at hl 0 rfl) ?_
    refine lv_iconst (v := 1) hx hb dJx4a65c_grow_92f84_25 (by decide) ?_
    refine lv_ishr hx hb dJx4a65c_grow_92f84_26 ?_
    rw [shr1 C (by omega)]
    have hlen := nlen C (by omega) (by omega)
    refine kqS_i (As := [.int (nI C), .int 1, .int (nI (C / 2))]) (rest := []) E hml hS qBl (fun U hU hW => ⟨by rw [hU]; exact hQ, va_K.moved hW.alike hK⟩) (l_newLen l (aE := aE) τ (nI C) 1 (nI (C / 2)) (by rw [hlen]; exact nI_nle (by omega) (by omega)) (by rw [hlen]; exact (show ¬ nI 2147483639 < nI (gn C) from nI_nlt (by omega) (by omega)))) (va_cwS 3 hts gJx4a65c_grow_92f84_J8_newLength_cabcc rfl rfl rfl (by decide +kernel) ⟨Nat.le_trans (Nat.le_of_ble_eq_true rfl) hR.1, Nat.le_trans (Nat.le_of_ble_eq_true rfl) hR.2⟩) rfl hl.1 rfl (Nat.le_of_ble_eq_true rfl) dJx4a65c_grow_92f84_27 ⟨Nat.zero_le _, Nat.zero_le _⟩ (fun v u t H locs ht hvm hw hB hz hk hS => ?_)
    subst hw
    have hQ : cQ D cI cO A g cap N rw τ H := by rw [← ht]; exact hB.1
    rw [hlen]
    refine lv_istore_n (lv' := [(3, .int (nI (gn C))), (2, .int (nI C)), (0, .ref (g 1 q)), (1, .int (nI (C + 1)))]) hx hb dJx4a65c_grow_92f84_30 rfl hl (by decide) rfl (fun ls hl => ?_)
    refine lv_aload_n hx hb dJx4a65c_grow_92f84_31 rfl (lv_at hl 2 rfl) ?_
    refine lv_aload_n hx hb dJx4a65c_grow_92f84_32 rfl (lv_at hl 2 rfl) ?_
    refine lg_elem E hin hQ hq (by decide +kernel) dJx4a65c_grow_92f84_33 ?_
    refine lv_iload_n hx hb dJx4a65c_grow_92f84_36 rfl (lv_at hl 0 rfl) ?_
    refine kqS_r (As := [.ref (g 2 q), .int (nI (gn C))]) (rest := [.ref (g 1 q)]) E hml hS qyBl (fun U hU hW => ⟨⟨by rw [hU]; exact hQ, va_K.moved hW.alike hK⟩, cY_at hY hS hU hW⟩) (l_copy1 l (aE := aE) τ q (gn C) hv2 (by omega) (by omega) (fun i hi => hr0 i (by omega)) hel) (va_cwS 2 hts gJx4a65c_grow_92f84_J7_copyOf_1904c rfl rfl rfl (by decide +kernel) ⟨Nat.le_trans (Nat.le_of_ble_eq_true rfl) hR.1, Nat.le_trans (Nat.le_of_ble_eq_true rfl) hR.2⟩) rfl hl.1 rfl (Nat.le_of_ble_eq_true rfl) dJx4a65c_grow_92f84_37 ⟨by omega, by omega⟩ (fun u ra t H1 locs1 ht hvm hw hB hz hk hS => ?_)
    obtain ⟨hfr, hAr, hnew, hQ1, -⟩ := hB
    rw [ht] at hnew hQ1
    refine W.widen (k := 1) (n := 150) (by omega) (by omega) ?_
    refine lv_dup_x1 hx hb dJx4a65c_grow_92f84_40 rfl rfl ?_
    refine lp_elem E hin hQ1 hS hq hN b3 hnew hAr hfr (by decide +kernel) dJx4a65c_grow_92f84_41 (fun H locs hQ hS => ?_)
    rw [ru_self] at hQ
    exact W.aret (v := .ref ra) hx hb hr (Or.inr ⟨_, rfl⟩) (Or.inr ⟨_, rfl⟩) (fun t ht hW => ⟨⟨(), ra, rfl, trivial, by rw [ht]; exact hQ, va_K.moved hW.alike hK⟩, hS.F ht⟩) hS.2.2 dJx4a65c_grow_92f84_44
set_option maxHeartbeats 1000000 in
set_option maxRecDepth 100000 in
theorem l_grow1 (l : Launch) {D : va_G} {A : Nat → Prop} {cI cO : ClassId} {aE : Nat} {g : Gh} {cap N : Nat → Nat} {rw : Nat → Nat → Option Nat} (τ : St) (q C : Nat) (hq : lv N cap 1 q) (hN : N 2 = N 1) (hC : cap q = C) (h99 : C ≤ 99) (hE : C = 0 → g 2 q = aE) (hr0 : ∀ i, C ≤ i → rw q i = none) (hel : EL N cap g (rw q)) (hs : τ 54 q = nI C) : Met l yJx4a65c_grow_d5877 wsJx4a65c_grow_d5877 ({ frames := 4, cells := 1, slots := 150, locals := 140 }) (va_Pc [.ref (g 1 q)] (qY D cI cO A aE g cap N rw τ)) (va_Qr (fun (_ : Unit) => True) (fun _ ra t => qU D cI cO A (gq g q ra) (cq cap q (gn C)) N rw τ t) A) 1 150 A := by
  refine Met.ofW (cc := cJx4a65c_grow_d5877) (maxL := 1) (ret := (some (.array (.object "java/lang/Object")))) (by decide) rfl ?_
  intro p e s m args below meth c s₁ B hml hv
  obtain ⟨rfl, ⟨⟨hQ, hK⟩, hY⟩⟩ := hv
  have E : kE p c cJx4a65c_grow_d5877 s m ([.ref (g 1 q)] : List Value).toArray wsJx4a65c_grow_d5877 RJx4a65c D cI cO := ⟨⟨B.exec, B.bytes⟩, atoms_spec (ws := wsJx4a65c_grow_d5877) B.pre, findClass_of_methodNamed B.named, hK⟩
  have hx := E.1.1
  have hb := E.1.2
  have hts := E.2.1
  have hr := B.returns
  have hlocks := B.notSynchronized
  have hS : va_S A s.heap s.heap [] := va_S.rf
  have hR : 4 ≤ ((headSpec wsJx4a65c_grow_d5877 ({ frames := 4, cells := 1, slots := 150, locals := 140 })).room).frames ∧ 140 ≤ ((headSpec wsJx4a65c_grow_d5877 ({ frames := 4, cells := 1, slots := 150, locals := 140 })).room).locals := ⟨Nat.le_of_ble_eq_true rfl, Nat.le_of_ble_eq_true rfl⟩
  have hfm : 1 ≤ ((headSpec wsJx4a65c_grow_d5877 ({ frames := 4, cells := 1, slots := 150, locals := 140 })).room).cells ∧ 150 ≤ ((headSpec wsJx4a65c_grow_d5877 ({ frames := 4, cells := 1, slots := 150, locals := 140 })).room).slots := ⟨Nat.le_refl _, Nat.le_refl _⟩
  have hl := lv_entry ([.ref (g 1 q)]) (n := 1) (Nat.le_of_ble_eq_true rfl)
  rw [lg_entry_eq]
  generalize (lg_sl ([.ref (g 1 q)]) ++ List.replicate (1 - (lg_sl ([.ref (g 1 q)])).length) Slot.unset).toArray = ls at hl ⊢
  generalize (headSpec wsJx4a65c_grow_d5877 ({ frames := 4, cells := 1, slots := 150, locals := 140 })).room = R at hR hfm ⊢
  have hin : ∀ w ∈ wsJx4a65c0, w ∈ wsJx4a65c_grow_d5877 := by decide +kernel
  refine lv_aload_n hx hb dJx4a65c_grow_d5877_0 rfl (lv_at hl 0 rfl) ?_
  refine lv_aload_n hx hb dJx4a65c_grow_d5877_1 rfl (lv_at hl 0 rfl) ?_
  refine lg_size E hin hQ hq (by decide +kernel) dJx4a65c_grow_d5877_2 ?_
  rw [hs]
  refine lv_iconst (v := 1) hx hb dJx4a65c_grow_d5877_5 (by decide) ?_
  refine lv_iadd hx hb dJx4a65c_grow_d5877_6 ?_
  rw [nI_1]
  refine kqV_r (As := [.int (nI (C + 1))]) (rest := []) E hml hS (el_list hK hQ hq) qyBl (fun U hU hW => ⟨⟨by rw [hU]; exact hQ, va_K.moved hW.alike hK⟩, cY_at hY hS hU hW⟩) (l_grow2 l (aE := aE) τ q C hq hN hC h99 hE hr0 hel) (cwV 1 hts gJx4a65c_grow_d5877_Jx4a65c_grow_92f84 rfl rfl rfl (by decide +kernel) ⟨Nat.le_trans (Nat.le_of_ble_eq_true rfl) hR.1, Nat.le_trans (Nat.le_of_ble_eq_true rfl) hR.2⟩) rfl hl.1 rfl (Nat.le_of_ble_eq_true rfl) dJx4a65c_grow_d5877_7 ⟨Nat.le_trans (Nat.le_of_ble_eq_true rfl) hfm.1, Nat.le_trans (Nat.le_of_ble_eq_true rfl) hfm.2⟩ (fun u ra t H1 locs1 ht hvm hw hB hz hk hS => ?_)
  have hQ := hB.1
  rw [ht] at hQ
  refine W.widen (k := 1) (n := 150) (Nat.le_of_ble_eq_true rfl) (Nat.le_of_ble_eq_true rfl) ?_
  exact W.aret (v := .ref ra) hx hb hr (Or.inr ⟨_, rfl⟩) (Or.inr ⟨_, rfl⟩) (fun t ht hW => ⟨⟨(), ra, rfl, trivial, by rw [ht]; exact hQ, va_K.moved hW.alike hK⟩, hS.F ht⟩) hS.2.2 dJx4a65c_grow_d5877_10
set_option maxHeartbeats 1000000 in
set_option maxRecDepth 100000 in
theorem l_add3 (l : Launch) {D : va_G} {A : Nat → Prop} {cI cO : ClassId} {aE : Nat} {g : Gh} {cap N : Nat → Nat} {rw : Nat → Nat → Option Nat} (τ : St) (q C e₁ : Nat) (hq : lv N cap 1 q) (hN : N 2 = N 1) (hC : C ≤ cap q) (hcb : cap q ≤ 150) (h99 : C ≤ 99) (hE : cap q = 0 → g 2 q = aE) (hr0 : ∀ i, C ≤ i → rw q i = none) (hel : EL N cap g (rw q)) (hs : τ 54 q = nI C) (he : ∃ k j, lv N cap k j ∧ (k = 4 ∨ k = 5 ∨ k = 6 ∨ k = 8) ∧ e₁ = g k j) : Met l yJx4a65c_add_72be8 wsJx4a65c_add_72be8 ({ frames := 5, cells := 1, slots := 150, locals := 165 }) (va_Pc [.ref (g 1 q), .ref e₁, .ref (g 2 q), .int (nI C)] (qY D cI cO A aE g cap N rw τ)) (va_Qv (fun (u : Gh × (Nat → Nat)) => GC g cap q u.1 u.2 ∧ C < u.2 q) (fun u t => qU D cI cO A u.1 u.2 N (ru rw q (va_up (rw q) C (some e₁))) (st τ 54 q (nI (C + 1))) t) A) 1 150 A := by
  refine Met.ofW (cc := cJx4a65c_add_72be8) (maxL := 4) (ret := none) (by decide) rfl ?_
  intro p e s m args below meth c s₁ B hml hv
  obtain ⟨rfl, ⟨⟨hQ, hK⟩, hY⟩⟩ := hv
  have E : kE p c cJx4a65c_add_72be8 s m ([.ref (g 1 q), .ref e₁, .ref (g 2 q), .int (nI C)] : List Value).toArray wsJx4a65c_add_72be8 RJx4a65c D cI cO := ⟨⟨B.exec, B.bytes⟩, atoms_spec (ws := wsJx4a65c_add_72be8) B.pre, findClass_of_methodNamed B.named, hK⟩
  have hx := E.1.1
  have hb := E.1.2
  have hts := E.2.1
  have hr := B.returns
  have hlocks := B.notSynchronized
  have hS : va_S A s.heap s.heap [] := va_S.rf
  have hR : 5 ≤ ((headSpec wsJx4a65c_add_72be8 ({ frames := 5, cells := 1, slots := 150, locals := 165 })).room).frames ∧ 165 ≤ ((headSpec wsJx4a65c_add_72be8 ({ frames := 5, cells := 1, slots := 150, locals := 165 })).room).locals := ⟨Nat.le_of_ble_eq_true rfl, Nat.le_of_ble_eq_true rfl⟩
  have hfm : 1 ≤ ((headSpec wsJx4a65c_add_72be8 ({ frames := 5, cells := 1, slots := 150, locals := 165 })).room).cells ∧ 150 ≤ ((headSpec wsJx4a65c_add_72be8 ({ frames := 5, cells := 1, slots := 150, locals := 165 })).room).slots := ⟨Nat.le_refl _, Nat.le_refl _⟩
  have hl := lv_entry ([.ref (g 1 q), .ref e₁, .ref (g 2 q), .int (nI C)]) (n := 4) (Nat.le_of_ble_eq_true rfl)
  rw [lg_entry_eq]
  generalize (lg_sl ([.ref (g 1 q), .ref e₁, .ref (g 2 q), .int (nI C)]) ++ List.replicate (4 - (lg_sl ([.ref (g 1 q), .ref e₁, .ref (g 2 q), .int (nI C)])).length) Slot.unset).toArray = ls at hl ⊢
  generalize (headSpec wsJx4a65c_add_72be8 ({ frames := 5, cells := 1, slots := 150, locals := 165 })).room = R at hR hfm ⊢
  have hin : ∀ w ∈ wsJx4a65c0, w ∈ wsJx4a65c_add_72be8 := by decide +kernel
  have J : ∀ (g1 : Gh) (cap1 : Nat → Nat) (H : Heap) (locs : List Loc) (ls : Array Slot), GC g cap q g1 cap1 → C < cap1 q → cQ D cI cO A g1 cap1 N rw τ H → va_S A s.heap H locs → lv_has ls 4 [(2, .ref (g1 2 q)), (0, .ref (g1 1 q)), (1, .ref e₁), (3, .int (nI C))] → W p l e R s m ([.ref (g 1 q), .ref e₁, .ref (g 2 q), .int (nI C)] : List Value).toArray below meth c H locs 1 150 (MQ below (va_Qv (fun (u : Gh × (Nat → Nat)) => GC g cap q u.1 u.2 ∧ C < u.2 q) (fun u t => qU D cI cO A u.1 u.2 N (ru rw q (va_up (rw q) C (some e₁))) (st τ 54 q (nI (C + 1))) t) A) ([.ref (g 1 q), .ref e₁, .ref (g 2 q), .int (nI C)] : List Value).toArray s 1 150 A) (F0 m 11 ls []) := by
    intro g1 cap1 H locs ls hG hlt hQ hS hl
    have hq1 : lv N cap1 1 q := GC_lv hG hq
    have hv2 : lv N cap1 2 q := ⟨by decide, by rw [hN]; exact hq.2.1, fun _ => hG.2.2.2.1⟩
    have hb1 := hG.2.2.2.2
    obtain ⟨C1, cell1, x1, x2, x3, x4⟩ := el_cell E hQ hY.2.2.2.2.2.1 (f := fun _ => some e₁) (fun i y h => by
      obtain ⟨k, j, a, b, c⟩ := he
      refine ⟨k, j, GC_lv hG a, b, ?_⟩
      rw [hG.1 k j (by rcases b with rfl | rfl | rfl | rfl <;> decide), ← c]
      exact (Option.some.inj h).symm) 0 e₁ rfl
    refine lv_aload_n hx hb dJx4a65c_add_72be8_11 rfl (lv_at hl 0 rfl) ?_
    refine lv_iload_n hx hb dJx4a65c_add_72be8_12 rfl (lv_at hl 3 rfl) ?_
    refine lv_aload_n hx hb dJx4a65c_add_72be8_13 rfl (lv_at hl 2 rfl) ?_
    refine lq_ast E hQ hS hv2 (vp_in_nI hlt (by omega)) ⟨cell1, x1, x2, x3⟩ x4 dJx4a65c_add_72be8_14 (fun H locs hQ hS => ?_)
    rw [nI_clamp (by omega)] at hQ
    refine lv_aload_n hx hb dJx4a65c_add_72be8_15 rfl (lv_at hl 1 rfl) ?_
    refine lv_iload_n hx hb dJx4a65c_add_72be8_16 rfl (lv_at hl 3 rfl) ?_
    refine lv_iconst (v := 1) hx hb dJx4a65c_add_72be8_17 (by decide) ?_
    refine lv_iadd hx hb dJx4a65c_add_72be8_18 ?_
    rw [nI_1]
    refine lp_size E hin hQ hS hq1 (by decide +kernel) dJx4a65c_add_72be8_19 (fun H locs hQ hS => ?_)
    exact W.vret hx hb hr (fun t ht hW => ⟨⟨(g1, cap1), rfl, ⟨hG, hlt⟩, by rw [ht]; exact hQ, va_K.moved hW.alike hK⟩, hS.F ht⟩) hS.2.2 dJx4a65c_add_72be8_22
  refine lv_iload_n hx hb dJx4a65c_add_72be8_0 rfl (lv_at hl 3 rfl) ?_
  refine lv_aload_n hx hb dJx4a65c_add_72be8_1 rfl (lv_at hl 2 rfl) ?_
  have hlen : ln0 s (g 2 q) (cap q) s.heap := by
    by_cases h0 : cap q = 0
    · rw [h0, hE h0]; exact hY.2.1
    · have h1 := (hQ.1 2 q ⟨by decide, by rw [hN]; exact hq.2.1, fun _ => by omega⟩).1
      rw [cD_2] at h1; exact ln0.of E.2.2.2 h1
  refine lq_len0 E hlen dJx4a65c_add_72be8_2 ?_
  refine lv_icmp_ne (tgt := 11) hx hb dJx4a65c_add_72be8_3 (by decide) (fun z => ?_) (fun z => ?_)
  · have hne : C ≠ cap q := fun w => z (by rw [← w])
    refine W.widen (k := 1) (n := 150) (Nat.zero_le _) (Nat.zero_le _) ?_
    exact J g cap s.heap [] ls (GC_rf (by omega) hcb) (by omega) hQ hS (lv_sub hl [2, 0, 1, 3] rfl)
  · have hcap : cap q = C := by
      exact ((nI_eq (a := C) (b := cap q) (by omega) (by omega)).mp z).symm
    refine lv_aload_n hx hb dJx4a65c_add_72be8_6 rfl (lv_at hl 0 rfl) ?_
    refine kqV_r (As := []) (rest := []) E hml hS (el_list hK hQ hq) qyBl (fun U hU hW => ⟨⟨by rw [hU]; exact hQ, va_K.moved hW.alike hK⟩, cY_at hY hS hU hW⟩) (l_grow1 l (aE := aE) τ q C hq hN hcap h99 (fun z => hE (by omega)) hr0 hel hs) (cwV 0 hts gJx4a65c_add_72be8_Jx4a65c_grow_d5877 rfl rfl rfl (by decide +kernel) ⟨Nat.le_trans (Nat.le_of_ble_eq_true rfl) hR.1, Nat.le_trans (Nat.le_of_ble_eq_true rfl) hR.2⟩) rfl hl.1 rfl (Nat.le_of_ble_eq_true rfl) dJx4a65c_add_72be8_7 ⟨Nat.le_trans (Nat.le_of_ble_eq_true rfl) hfm.1, Nat.le_trans (Nat.le_of_ble_eq_true rfl) hfm.2⟩ (fun u ra t H1 locs1 ht hvm hw hB hz hk hS => ?_)
    have hQ := hB.1
    rw [ht] at hQ
    refine W.widen (k := 1) (n := 150) (Nat.le_of_ble_eq_true rfl) (Nat.le_of_ble_eq_true rfl) ?_
    refine lv_astore_n (lv' := [(2, .ref ra), (0, .ref (g 1 q)), (1, .ref e₁), (3, .int (nI C))]) hx hb dJx4a65c_add_72be8_10 rfl hl (by decide) rfl (fun ls hl => ?_)
    refine J (gq g q ra) (cq cap q (gn C)) H1 locs1 ls (GC_gq (by have := gn_b h99; omega) (gn_b h99).2.2 (gn_b h99).2.1) (by show C < (if q = q then gn C else cap q); rw [if_pos rfl]; have := gn_b h99; omega) hQ hS ?_
    rw [gq_2, if_pos rfl, gq_o (by decide)]
    exact hl
set_option maxHeartbeats 1000000 in
set_option maxRecDepth 100000 in
theorem l_add (l : Launch) {D : va_G} {A : Nat → Prop} {cI cO : ClassId} {aE : Nat} {g : Gh} {cap N : Nat → Nat} {rw : Nat → Nat → Option Nat} (τ : St) (q C e₁ : Nat) (hq : lv N cap 1 q) (hN : N 2 = N 1) (hC : C ≤ cap q) (hcb : cap q ≤ 150) (h99 : C ≤ 99) (hE : cap q = 0 → g 2 q = aE) (hr0 : ∀ i, C ≤ i → rw q i = none) (hel : EL N cap g (rw q)) (hs : τ 54 q = nI C) (he : ∃ k j, lv N cap k j ∧ (k = 4 ∨ k = 5 ∨ k = 6 ∨ k = 8) ∧ e₁ = g k j) : Met l yJx4a65c_add_9ea2d wsJx4a65c_add_9ea2d ({ frames := 6, cells := 1, slots := 150, locals := 190 }) (va_Pc [.ref (g 1 q), .ref e₁] (qY D cI cO A aE g cap N rw τ)) (va_Qi (fun r (u : Gh × (Nat → Nat)) => r = 1 ∧ (GC g cap q u.1 u.2 ∧ C < u.2 q)) (fun u t => qU D cI cO A u.1 u.2 N (ru rw q (va_up (rw q) C (some e₁))) (st (st τ 52 q (τ 52 q + 1)) 54 q (nI (C + 1))) t) A) 1 150 A := by
  refine Met.ofW (cc := cJx4a65c_add_9ea2d) (maxL := 2) (ret := (some .boolean)) (by decide) rfl ?_
  intro p e s m args below meth c s₁ B hml hv
  obtain ⟨rfl, ⟨⟨hQ, hK⟩, hY⟩⟩ := hv
  have E : kE p c cJx4a65c_add_9ea2d s m ([.ref (g 1 q), .ref e₁] : List Value).toArray wsJx4a65c_add_9ea2d RJx4a65c D cI cO := ⟨⟨B.exec, B.bytes⟩, atoms_spec (ws := wsJx4a65c_add_9ea2d) B.pre, findClass_of_methodNamed B.named, hK⟩
  have hx := E.1.1
  have hb := E.1.2
  have hts := E.2.1
  have hr := B.returns
  have hlocks := B.notSynchronized
  have hS : va_S A s.heap s.heap [] := va_S.rf
  have hR : 6 ≤ ((headSpec wsJx4a65c_add_9ea2d ({ frames := 6, cells := 1, slots := 150, locals := 190 })).room).frames ∧ 190 ≤ ((headSpec wsJx4a65c_add_9ea2d ({ frames := 6, cells := 1, slots := 150, locals := 190 })).room).locals := ⟨Nat.le_of_ble_eq_true rfl, Nat.le_of_ble_eq_true rfl⟩
  have hfm : 1 ≤ ((headSpec wsJx4a65c_add_9ea2d ({ frames := 6, cells := 1, slots := 150, locals := 190 })).room).cells ∧ 150 ≤ ((headSpec wsJx4a65c_add_9ea2d ({ frames := 6, cells := 1, slots := 150, locals := 190 })).room).slots := ⟨Nat.le_refl _, Nat.le_refl _⟩
  have hl := lv_entry ([.ref (g 1 q), .ref e₁]) (n := 2) (Nat.le_of_ble_eq_true rfl)
  rw [lg_entry_eq]
  generalize (lg_sl ([.ref (g 1 q), .ref e₁]) ++ List.replicate (2 - (lg_sl ([.ref (g 1 q), .ref e₁])).length) Slot.unset).toArray = ls at hl ⊢
  generalize (headSpec wsJx4a65c_add_9ea2d ({ frames := 6, cells := 1, slots := 150, locals := 190 })).room = R at hR hfm ⊢
  have hin : ∀ w ∈ wsJx4a65c0, w ∈ wsJx4a65c_add_9ea2d := by decide +kernel
  refine lv_aload_n hx hb dJx4a65c_add_9ea2d_0 rfl (lv_at hl 0 rfl) ?_
  refine lv_dup hx hb dJx4a65c_add_9ea2d_1 rfl ?_
  refine lg_modC E hin hQ hq (by decide +kernel) (by decide +kernel) dJx4a65c_add_9ea2d_2 ?_
  refine lv_iconst (v := 1) hx hb dJx4a65c_add_9ea2d_5 (by decide) ?_
  refine lv_iadd hx hb dJx4a65c_add_9ea2d_6 ?_
  refine lp_modC E hin hQ hS hq (by decide +kernel) (by decide +kernel) dJx4a65c_add_9ea2d_7 (fun H locs hQ hS => ?_)
  have hs1 : (st τ 52 q (τ 52 q + 1)) 54 q = nI C := by rw [st_nf τ q _ (f := 52) (g := 54) (by decide)]; exact hs
  refine lv_aload_n hx hb dJx4a65c_add_9ea2d_10 rfl (lv_at hl 0 rfl) ?_
  refine lv_aload_n hx hb dJx4a65c_add_9ea2d_11 rfl (lv_at hl 1 rfl) ?_
  refine lv_aload_n hx hb dJx4a65c_add_9ea2d_12 rfl (lv_at hl 0 rfl) ?_
  refine lg_elem E hin hQ hq (by decide +kernel) dJx4a65c_add_9ea2d_13 ?_
  refine lv_aload_n hx hb dJx4a65c_add_9ea2d_16 rfl (lv_at hl 0 rfl) ?_
  refine lg_size E hin hQ hq (by decide +kernel) dJx4a65c_add_9ea2d_17 ?_
  rw [hs1]
  refine kqV_v (As := [.ref e₁, .ref (g 2 q), .int (nI C)]) (rest := []) E hml hS (el_list hK hQ hq) qyBl (fun U hU hW => ⟨⟨by rw [hU]; exact hQ, va_K.moved hW.alike hK⟩, cY_at hY hS hU hW⟩) (l_add3 l (aE := aE) (st τ 52 q (τ 52 q + 1)) q C e₁ hq hN hC hcb h99 hE hr0 hel hs1 he) (cwV 3 hts gJx4a65c_add_9ea2d_Jx4a65c_add_72be8 rfl rfl rfl (by decide +kernel) ⟨Nat.le_trans (Nat.le_of_ble_eq_true rfl) hR.1, Nat.le_trans (Nat.le_of_ble_eq_true rfl) hR.2⟩) rfl hl.1 rfl (Nat.le_of_ble_eq_true rfl) dJx4a65c_add_9ea2d_20 ⟨Nat.le_trans (Nat.le_of_ble_eq_true rfl) hfm.1, Nat.le_trans (Nat.le_of_ble_eq_true rfl) hfm.2⟩ (fun u t H1 locs1 ht hvm hw hB hz hk hS => ?_)
  have hQ := hB.1
  rw [ht] at hQ
  refine W.widen (k := 1) (n := 150) (Nat.le_of_ble_eq_true rfl) (Nat.le_of_ble_eq_true rfl) ?_
  refine lv_iconst (v := 1) hx hb dJx4a65c_add_9ea2d_23 (by decide) ?_
  exact W.zret (v := 1) hx hb hr rfl (fun t ht hW => ⟨⟨1, u, rfl, ⟨rfl, hw⟩, by rw [ht]; exact hQ, va_K.moved hW.alike hK⟩, hS.F ht⟩) hS.2.2 dJx4a65c_add_9ea2d_24
