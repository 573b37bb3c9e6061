/-! lists written: adding at a place -/
theorem nI_sub {a b : Nat} (h : b ≤ a) : nI a - nI b = nI (a - b) := by
  obtain ⟨d, rfl⟩ : ∃ d, a = d + b := ⟨a - b, by omega⟩
  rw [← nI_add, Int32.add_sub_cancel, Nat.add_sub_cancel]
theorem cQ_row {D : va_G} {cI cO : ClassId} {A : Nat → Prop} {g : Gh} {cap N : Nat → Nat} {rw : Nat → Nat → Option Nat} {τ : St} {H H1 : Heap} (hQ : cQ D cI cO A g cap N rw τ H) {q : Nat} (he : lv N cap 2 q) {f : Nat → Option Nat} (h1 : va_at D vwCl (g 2 q, rE cO (cap q) f) H1) (oq : ∀ x : Nat, x ≠ g 2 q → H1[x]? = H[x]?) : cQ D cI cO A g cap N (ru rw q f) τ H1 := by
  refine cQ_set hQ he ?_ oq (fun k' n' hl hne => ?_)
  · rw [cD_2]
    unfold ru
    rw [if_pos rfl]; exact h1
  · by_cases hk : k' = 2
    · subst hk
      rw [cD_2, cD_2]
      unfold ru
      rw [if_neg (fun z => hne ⟨rfl, z⟩)]
    · rw [cD_o hk, cD_o hk]
theorem ru_ru {rw : Nat → Nat → Option Nat} {q : Nat} {f f' : Nat → Option Nat} : ru (ru rw q f) q f' = ru rw q f' := by
  funext j
  unfold ru
  by_cases h : j = q
  · rw [if_pos h, if_pos h]
  · rw [if_neg h, if_neg h, if_neg h]
theorem ru_at {rw : Nat → Nat → Option Nat} {q : Nat} {f : Nat → Option Nat} : ru rw q f q = f := if_pos rfl
set_option maxHeartbeats 1000000 in
set_option maxRecDepth 100000 in
theorem l_rcadd (l : Launch) {D : va_G} {A : Nat → Prop} {cI cO : ClassId} {aE : Nat} {g : Gh} {cap N : Nat → Nat} {rw : Nat → Nat → Option Nat} (τ : St) (q : Nat) (i : Int32) (hq : lv N cap 1 q) (h1 : ¬ τ 54 q < i) (h0 : 0 ≤ i) : Met l yJx4a65c_rangeCheckForAdd_d00df wsJx4a65c_rangeCheckForAdd_d00df ({ frames := 0, cells := 0, slots := 0, locals := 0 }) (va_Pc [.ref (g 1 q), .int i] (qU D cI cO A g cap N rw τ)) (va_Qv (fun (_ : Unit) => True) (fun _ t => qU D cI cO A g cap N rw τ t) A) 0 0 A := by
  refine Met.ofW (cc := cJx4a65c_rangeCheckForAdd_d00df) (maxL := 2) (ret := none) (by decide) rfl ?_
  intro p e s m args below meth c s₁ B hml hv
  obtain ⟨rfl, ⟨hQ, hK⟩⟩ := hv
  have E : kE p c cJx4a65c_rangeCheckForAdd_d00df s m ([.ref (g 1 q), .int i] : List Value).toArray wsJx4a65c_rangeCheckForAdd_d00df RJx4a65c D cI cO := ⟨⟨B.exec, B.bytes⟩, atoms_spec (ws := wsJx4a65c_rangeCheckForAdd_d00df) B.pre, findClass_of_methodNamed B.named, hK⟩
  have hx := E.1.1
  have hb := E.1.2
  have hts := E.2.1
  have hr := B.returns
  have hlocks := B.notSynchronized
  have hS : va_S A s.heap s.heap [] := va_S.rf
  have hR : 0 ≤ ((headSpec wsJx4a65c_rangeCheckForAdd_d00df ({ frames := 0, cells := 0, slots := 0, locals := 0 })).room).frames ∧ 0 ≤ ((headSpec wsJx4a65c_rangeCheckForAdd_d00df ({ frames := 0, cells := 0, slots := 0, locals := 0 })).room).locals := ⟨Nat.le_of_ble_eq_true rfl, Nat.le_of_ble_eq_true rfl⟩
  have hfm : 0 ≤ ((headSpec wsJx4a65c_rangeCheckForAdd_d00df ({ frames := 0, cells := 0, slots := 0, locals := 0 })).room).cells ∧ 0 ≤ ((headSpec wsJx4a65c_rangeCheckForAdd_d00df ({ frames := 0, cells := 0, slots := 0, locals := 0 })).room).slots := ⟨Nat.le_refl _, Nat.le_refl _⟩
  have hl := lv_entry ([.ref (g 1 q), .int i]) (n := 2) (Nat.le_of_ble_eq_true rfl)
  rw [lg_entry_eq]
  generalize (lg_sl ([.ref (g 1 q), .int i]) ++ List.replicate (2 - (lg_sl ([.ref (g 1 q), .int i])).length) Slot.unset).toArray = ls at hl ⊢
  generalize (headSpec wsJx4a65c_rangeCheckForAdd_d00df ({ frames := 0, cells := 0, slots := 0, locals := 0 })).room = R at hR hfm ⊢
  refine lv_iload_n hx hb dJx4a65c_rangeCheckForAdd_d00df_0 rfl (lv_at hl 1 rfl) ?_
  refine lv_aload_n hx hb dJx4a65c_rangeCheckForAdd_d00df_1 rfl (lv_at hl 0 rfl) ?_
  refine lg_size E (by decide +kernel) hQ hq (by decide +kernel) dJx4a65c_rangeCheckForAdd_d00df_2 ?_
  refine lv_icmp_gt (tgt := 12) hx hb dJx4a65c_rangeCheckForAdd_d00df_5 (by decide) (fun z => absurd z h1) (fun _ => ?_)
  refine lv_iload_n hx hb dJx4a65c_rangeCheckForAdd_d00df_8 rfl (lv_at hl 1 rfl) ?_
  refine lv_if_ge (tgt := 25) hx hb dJx4a65c_rangeCheckForAdd_d00df_9 (by decide) (fun _ => ?_) (fun z => absurd h0 z)
  exact W.vret hx hb hr (fun t ht hW => ⟨⟨(), rfl, trivial, by rw [ht]; exact hQ, va_K.moved hW.alike hK⟩, hS.F ht⟩) hS.2.2 dJx4a65c_rangeCheckForAdd_d00df_25
set_option maxHeartbeats 1000000 in
set_option maxRecDepth 100000 in
theorem l_addAt (l : Launch) {D : va_G} {A : Nat → Prop} {cI cO : ClassId} {aE : Nat} {g : Gh} {cap N : Nat → Nat} {rw : Nat → Nat → Option Nat} (τ : St) (q C I e₁ : Nat) (hq : lv N cap 1 q) (hN : N 2 = N 1) (hC : C ≤ cap q) (hcb : cap q ≤ 150) (h99 : C ≤ 99) (hI : I ≤ C) (hE : cap q = 0 → g 2 q = aE) (hr0 : ∀ i, C ≤ i → rw q i = none) (hel : EL N cap g (rw q)) (hs : τ 54 q = nI C) (he : ∃ k j, lv N cap k j ∧ (k = 4 ∨ k = 5 ∨ k = 6 ∨ k = 8) ∧ e₁ = g k j) : Met l yJx4a65c_add_7a177 wsJx4a65c_add_7a177 ({ frames := 5, cells := 1, slots := 150, locals := 170 }) (va_Pc [.ref (g 1 q), .int (nI I), .ref e₁] (qY D cI cO A aE g cap N rw τ)) (va_Qv (fun (u : Gh × (Nat → Nat)) => GC g cap q u.1 u.2 ∧ C < u.2 q) (fun u t => qU D cI cO A u.1 u.2 N (ru rw q (va_up (va_cpy (rw q) (rw q) I (I + 1) (C - I)) I (some e₁))) (st (st τ 52 q (τ 52 q + 1)) 54 q (nI (C + 1))) t) A) 1 150 A := by
  refine Met.ofW (cc := cJx4a65c_add_7a177) (maxL := 5) (ret := none) (by decide) rfl ?_
  intro p e s m args below meth c s₁ B hml hv
  obtain ⟨rfl, ⟨⟨hQ, hK⟩, hY⟩⟩ := hv
  have E : kE p c cJx4a65c_add_7a177 s m ([.ref (g 1 q), .int (nI I), .ref e₁] : List Value).toArray wsJx4a65c_add_7a177 RJx4a65c D cI cO := ⟨⟨B.exec, B.bytes⟩, atoms_spec (ws := wsJx4a65c_add_7a177) B.pre, findClass_of_methodNamed B.named, hK⟩
  have hx := E.1.1
  have hb := E.1.2
  have hts := E.2.1
  have hr := B.returns
  have hlocks := B.notSynchronized
  have hS : va_S A s.heap s.heap [] := va_S.rf
  have hR : 5 ≤ ((headSpec wsJx4a65c_add_7a177 ({ frames := 5, cells := 1, slots := 150, locals := 170 })).room).frames ∧ 170 ≤ ((headSpec wsJx4a65c_add_7a177 ({ frames := 5, cells := 1, slots := 150, locals := 170 })).room).locals := ⟨Nat.le_of_ble_eq_true rfl, Nat.le_of_ble_eq_true rfl⟩
  have hfm : 1 ≤ ((headSpec wsJx4a65c_add_7a177 ({ frames := 5, cells := 1, slots := 150, locals := 170 })).room).cells ∧ 150 ≤ ((headSpec wsJx4a65c_add_7a177 ({ frames := 5, cells := 1, slots := 150, locals := 170 })).room).slots := ⟨Nat.le_refl _, Nat.le_refl _⟩
  have hl := lv_entry ([.ref (g 1 q), .int (nI I), .ref e₁]) (n := 5) (Nat.le_of_ble_eq_true rfl)
  rw [lg_entry_eq]
  generalize (lg_sl ([.ref (g 1 q), .int (nI I), .ref e₁]) ++ List.replicate (5 - (lg_sl ([.ref (g 1 q), .int (nI I), .ref e₁])).length) Slot.unset).toArray = ls at hl ⊢
  generalize (headSpec wsJx4a65c_add_7a177 ({ frames := 5, cells := 1, slots := 150, locals := 170 })).room = R at hR hfm ⊢
  have hin : ∀ w ∈ wsJx4a65c0, w ∈ wsJx4a65c_add_7a177 := by decide +kernel
  have J : ∀ (g1 : Gh) (cap1 : Nat → Nat) (H : Heap) (locs : List Loc) (ls : Array Slot), GC g cap q g1 cap1 → C < cap1 q → cQ D cI cO A g1 cap1 N rw (st τ 52 q (τ 52 q + 1)) H → va_S A s.heap H locs → lv_has ls 5 [(4, .ref (g1 2 q)), (3, .int (nI C)), (0, .ref (g1 1 q)), (1, .int (nI I)), (2, .ref e₁)] → W p l e R s m ([.ref (g 1 q), .int (nI I), .ref e₁] : List Value).toArray below meth c H locs 1 150 (MQ below (va_Qv (fun (u : Gh × (Nat → Nat)) => GC g cap q u.1 u.2 ∧ C < u.2 q) (fun u t => qU D cI cO A u.1 u.2 N (ru rw q (va_up (va_cpy (rw q) (rw q) I (I + 1) (C - I)) I (some e₁))) (st (st τ 52 q (τ 52 q + 1)) 54 q (nI (C + 1))) t) A) ([.ref (g 1 q), .int (nI I), .ref e₁] : List Value).toArray s 1 150 A) (F0 m 38 ls []) := by
    intro g1 cap1 H locs ls hG hlt hQ hS hl
    have hq1 : lv N cap1 1 q := GC_lv hG hq
    have hv2 : lv N cap1 2 q := ⟨by decide, by rw [hN]; exact hq.2.1, fun _ => hG.2.2.2.1⟩
    have hb1 := hG.2.2.2.2
    have hel1 : EL N cap1 g1 (rw q) := fun i y h => by
      obtain ⟨k, j, a, b, c⟩ := hel i y h
      exact ⟨k, j, GC_lv hG a, b, by rw [hG.1 k j (by rcases b with rfl | rfl | rfl | rfl <;> decide)]; exact c⟩
    have hele : EL N cap1 g1 (fun _ => some e₁) := fun i y h => by
      obtain ⟨k, j, a, b, c⟩ := he
      refine ⟨k, j, GC_lv hG a, b, ?_⟩
      rw [hG.1 k j (by rcases b with rfl | rfl | rfl | rfl <;> decide), ← c]
      exact (Option.some.inj h).symm
    refine lv_aload hx hb dJx4a65c_add_7a177_38 (lv_at hl 0 rfl) ?_
    refine lv_iload_n hx hb dJx4a65c_add_7a177_40 rfl (lv_at hl 3 rfl) ?_
    refine lv_aload hx hb dJx4a65c_add_7a177_41 (lv_at hl 0 rfl) ?_
    refine lv_iload_n hx hb dJx4a65c_add_7a177_43 rfl (lv_at hl 3 rfl) ?_
    refine lv_iconst (v := 1) hx hb dJx4a65c_add_7a177_44 (by decide) ?_
    refine lv_iadd hx hb dJx4a65c_add_7a177_45 ?_
    rw [nI_1]
    refine lv_iload_n hx hb dJx4a65c_add_7a177_46 rfl (lv_at hl 1 rfl) ?_
    refine lv_iload_n hx hb dJx4a65c_add_7a177_47 rfl (lv_at hl 3 rfl) ?_
    refine lv_isub hx hb dJx4a65c_add_7a177_48 ?_
    rw [nI_sub hI]
    have hsrc := (hQ.1 2 q hv2).1
    rw [cD_2] at hsrc
    refine lq_cpy E (hml.trans hl.1.symm) ⟨by decide +kernel, by decide +kernel, by decide +kernel, by decide +kernel⟩ hsrc hsrc (hQ.1 2 q hv2).2 hS (nI_pos (by omega)) (nI_pos (by omega)) (nI_pos (by omega)) (by rw [nI_clamp (by omega), nI_clamp (by omega)]; omega) (by rw [nI_clamp (by omega), nI_clamp (by omega)]; omega) (fun i y h => el_cell E hQ hY.2.2.2.2.2.1 hel1 i y h) (Nat.le_trans (Nat.le_of_ble_eq_true rfl) hR.1) (Nat.le_trans (Nat.le_of_ble_eq_true rfl) hR.2) dJx4a65c_add_7a177_49 (fun H locs hnew oq hsz hS => ?_)
    rw [nI_clamp (by omega), nI_clamp (by omega), nI_clamp (by omega)] at hnew
    have hQ := cQ_row hQ hv2 hnew oq
    obtain ⟨C1, cell1, x1, x2, x3, x4⟩ := el_cell E hQ hY.2.2.2.2.2.1 hele 0 e₁ rfl
    refine lv_aload hx hb dJx4a65c_add_7a177_52 (lv_at hl 0 rfl) ?_
    refine lv_iload_n hx hb dJx4a65c_add_7a177_54 rfl (lv_at hl 3 rfl) ?_
    refine lv_aload_n hx hb dJx4a65c_add_7a177_55 rfl (lv_at hl 4 rfl) ?_
    refine lq_ast E hQ hS hv2 (vp_in_nI (by omega) (by omega)) ⟨cell1, x1, x2, x3⟩ x4 dJx4a65c_add_7a177_56 (fun H locs hQ hS => ?_)
    rw [nI_clamp (by omega), ru_at, ru_ru] at hQ
    refine lv_aload_n hx hb dJx4a65c_add_7a177_57 rfl (lv_at hl 2 rfl) ?_
    refine lv_iload_n hx hb dJx4a65c_add_7a177_58 rfl (lv_at hl 1 rfl) ?_
    refine lv_iconst (v := 1) hx hb dJx4a65c_add_7a177_59 (by decide) ?_
    refine lv_iadd hx hb dJx4a65c_add_7a177_60 ?_
    rw [nI_1]
    refine lp_size E hin hQ hS hq1 (by decide +kernel) dJx4a65c_add_7a177_61 (fun H locs hQ hS => ?_)
    exact W.vret hx hb hr (fun t ht hW => ⟨⟨(g1, cap1), rfl, ⟨hG, hlt⟩, by rw [ht]; exact hQ, va_K.moved hW.alike hK⟩, hS.F ht⟩) hS.2.2 dJx4a65c_add_7a177_64
  refine lv_aload_n hx hb dJx4a65c_add_7a177_0 rfl (lv_at hl 0 rfl) ?_
  refine lv_iload_n hx hb dJx4a65c_add_7a177_1 rfl (lv_at hl 1 rfl) ?_
  refine kqV_v (As := [.int (nI I)]) (rest := []) E hml hS (el_list hK hQ hq) qBl (fun U hU hW => ⟨by rw [hU]; exact hQ, va_K.moved hW.alike hK⟩) (l_rcadd l (aE := aE) τ q (nI I) hq (by rw [hs]; exact nI_nlt hI (by omega)) (nI_pos' (by omega))) (cwV 1 hts gJx4a65c_add_7a177_Jx4a65c_rangeCheckForAdd_d00df rfl rfl rfl (by decide +kernel) ⟨Nat.le_trans (Nat.le_of_ble_eq_true rfl) hR.1, Nat.le_trans (Nat.le_of_ble_eq_true rfl) hR.2⟩) rfl hl.1 rfl (Nat.le_of_ble_eq_true rfl) dJx4a65c_add_7a177_2 ⟨Nat.zero_le _, Nat.zero_le _⟩ (fun u t H locs ht hvm hw hB hz hk hS => ?_)
  have hQ := hB.1
  rw [ht] at hQ
  refine lv_aload_n hx hb dJx4a65c_add_7a177_5 rfl (lv_at hl 0 rfl) ?_
  refine lv_dup hx hb dJx4a65c_add_7a177_6 rfl ?_
  refine lg_modC E hin hQ hq (by decide +kernel) (by decide +kernel) dJx4a65c_add_7a177_7 ?_
  refine lv_iconst (v := 1) hx hb dJx4a65c_add_7a177_10 (by decide) ?_
  refine lv_iadd hx hb dJx4a65c_add_7a177_11 ?_
  refine lp_modC E hin hQ hS hq (by decide +kernel) (by decide +kernel) dJx4a65c_add_7a177_12 (fun H locs hQ hS => ?_)
  have hs1 : (st τ 52 q (τ 52 q + 1)) 54 q = nI C := by rw [st_nf τ q _ (f := 52) (g := 54) (by decide)]; exact hs
  refine lv_aload_n hx hb dJx4a65c_add_7a177_15 rfl (lv_at hl 0 rfl) ?_
  refine lg_size E hin hQ hq (by decide +kernel) dJx4a65c_add_7a177_16 ?_
  rw [hs1]
  refine lv_dup hx hb dJx4a65c_add_7a177_19 rfl ?_
  refine lv_istore_n (lv' := [(3, .int (nI C)), (0, .ref (g 1 q)), (1, .int (nI I)), (2, .ref e₁)]) hx hb dJx4a65c_add_7a177_20 rfl hl (by decide) rfl (fun ls hl => ?_)
  refine lv_aload_n hx hb dJx4a65c_add_7a177_21 rfl (lv_at hl 1 rfl) ?_
  refine lg_elem E hin hQ hq (by decide +kernel) dJx4a65c_add_7a177_22 ?_
  refine lv_dup hx hb dJx4a65c_add_7a177_25 rfl ?_
  refine lv_astore (lv' := [(4, .ref (g 2 q)), (3, .int (nI C)), (0, .ref (g 1 q)), (1, .int (nI I)), (2, .ref e₁)]) hx hb dJx4a65c_add_7a177_26 hl (by decide) rfl (fun ls hl => ?_)
  have hlen : ln0 s (g 2 q) (cap q) H := by
    by_cases h0 : cap q = 0
    · rw [h0, hE h0]
      exact hY.2.1.kept (hS.2.1 aE hY.2.1.lt hY.2.2.1)
    · have h1 := (hQ.1 2 q ⟨by decide, by rw [hN]; exact hq.2.1, fun _ => by omega⟩).1
      rw [cD_2] at h1; exact ln0.of E.2.2.2 h1
  refine lq_len0 E hlen dJx4a65c_add_7a177_28 ?_
  refine lv_icmp_ne (tgt := 38) hx hb dJx4a65c_add_7a177_29 (by decide) (fun z => ?_) (fun z => ?_)
  · have hne : C ≠ cap q := fun w => z (by rw [← w])
    refine W.widen (k := 1) (n := 150) (Nat.zero_le _) (Nat.zero_le _) ?_
    exact J g cap H locs ls (GC_rf (by omega) hcb) (by omega) hQ hS hl
  · have hcap : cap q = C := ((nI_eq (a := C) (b := cap q) (by omega) (by omega)).mp z).symm
    refine lv_aload_n hx hb dJx4a65c_add_7a177_32 rfl (lv_at hl 2 rfl) ?_
    refine kqV_r (As := []) (rest := []) E hml hS (el_list hK hQ hq) qyBl (fun U hU hW => ⟨⟨by rw [hU]; exact hQ, va_K.moved hW.alike hK⟩, cY_at hY hS hU hW⟩) (l_grow1 l (aE := aE) (st τ 52 q (τ 52 q + 1)) q C hq hN hcap h99 (fun z => hE (by omega)) hr0 hel hs1) (cwV 0 hts gJx4a65c_add_7a177_Jx4a65c_grow_d5877 rfl rfl rfl (by decide +kernel) ⟨Nat.le_trans (Nat.le_of_ble_eq_true rfl) hR.1, Nat.le_trans (Nat.le_of_ble_eq_true rfl) hR.2⟩) rfl hl.1 rfl (Nat.le_of_ble_eq_true rfl) dJx4a65c_add_7a177_33 ⟨Nat.le_trans (Nat.le_of_ble_eq_true rfl) hfm.1, Nat.le_trans (Nat.le_of_ble_eq_true rfl) hfm.2⟩ (fun u ra t H1 locs1 ht hvm hw hB hz hk hS => ?_)
    have hQ := hB.1
    rw [ht] at hQ
    refine W.widen (k := 1) (n := 150) (Nat.le_of_ble_eq_true rfl) (Nat.le_of_ble_eq_true rfl) ?_
    refine lv_astore (lv' := [(4, .ref ra), (3, .int (nI C)), (0, .ref (g 1 q)), (1, .int (nI I)), (2, .ref e₁)]) hx hb dJx4a65c_add_7a177_36 hl (by decide) rfl (fun ls hl => ?_)
    refine J (gq g q ra) (cq cap q (gn C)) H1 locs1 ls (GC_gq (by have := gn_b h99; omega) (gn_b h99).2.2 (gn_b h99).2.1) (by show C < (if q = q then gn C else cap q); rw [if_pos rfl]; have := gn_b h99; omega) hQ hS ?_
    rw [gq_2, if_pos rfl, gq_o (by decide)]
    exact hl
