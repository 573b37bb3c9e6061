/-! ArrayList, read: size and get, over the class's world -/
set_option maxHeartbeats 1000000 in
set_option maxRecDepth 100000 in
theorem c_AL_size (l : Launch) {D : va_G} {A : Nat → Prop} {cI cO : ClassId} {g : Gh} {cap N : Nat → Nat} (σ : St) (q : Nat) (hq : lv N cap 1 q) : Met l yJx4a65c_size_8abf5 wsJx4a65c_size_8abf5 ({ frames := 0, cells := 0, slots := 0, locals := 0 }) (va_Pc [.ref (g 1 q)] (cU D cI cO A g cap N σ)) (va_Qi (fun r (_ : Unit) => r = σ 54 q) (fun _ t => cU D cI cO A g cap N σ t) A) 0 0 A := by
  refine Met.ofW (cc := cJx4a65c_size_8abf5) (maxL := 1) (ret := (some .int)) (by decide) rfl ?_
  intro p e s m args below meth c s₁ B hml hv
  obtain ⟨rfl, hP, hK⟩ := hv
  have E : kE p c cJx4a65c_size_8abf5 s m ([.ref (g 1 q)] : List Value).toArray wsJx4a65c_size_8abf5 RJx4a65c D cI cO := ⟨⟨B.exec, B.bytes⟩, atoms_spec (ws := wsJx4a65c_size_8abf5) B.pre, findClass_of_methodNamed B.named, hK⟩
  have hx := E.1.1
  have hb := E.1.2
  have hts := E.2.1
  have hr := B.returns
  have hlocks := B.notSynchronized
  have hS : va_S A s.heap s.heap [] := va_S.rf
  have hR : 0 ≤ ((headSpec wsJx4a65c_size_8abf5 ({ frames := 0, cells := 0, slots := 0, locals := 0 })).room).frames ∧ 0 ≤ ((headSpec wsJx4a65c_size_8abf5 ({ frames := 0, cells := 0, slots := 0, locals := 0 })).room).locals := ⟨Nat.le_of_ble_eq_true rfl, Nat.le_of_ble_eq_true rfl⟩
  have hf : 0 ≤ ((headSpec wsJx4a65c_size_8abf5 ({ frames := 0, cells := 0, slots := 0, locals := 0 })).room).cells ∧ 0 ≤ ((headSpec wsJx4a65c_size_8abf5 ({ frames := 0, cells := 0, slots := 0, locals := 0 })).room).slots := ⟨Nat.zero_le _, Nat.zero_le _⟩
  have hl := lv_entry ([.ref (g 1 q)]) (n := 1) (Nat.le_of_ble_eq_true rfl)
  rw [lg_entry_eq]
  generalize (lg_sl ([.ref (g 1 q)]) ++ List.replicate (1 - (lg_sl ([.ref (g 1 q)])).length) Slot.unset).toArray = ls at hl ⊢
  refine lv_aload_n hx hb dJx4a65c_size_8abf5_0 rfl (lv_at hl 0 rfl) ?_
  refine kg_size E (by decide +kernel) hP hq (by decide +kernel) dJx4a65c_size_8abf5_1 ?_
  exact W.iret (v := σ 54 q) hx hb hr (fun t ht hW => ⟨⟨_, (), rfl, rfl, by rw [ht]; exact hP, va_K.moved hW.alike hK⟩, hS.F ht⟩) hS.2.2 dJx4a65c_size_8abf5_4
set_option maxHeartbeats 1000000 in
set_option maxRecDepth 100000 in
theorem c_chk3 (l : Launch) {D : va_G} {A : Nat → Prop} {cI cO : ClassId} {g : Gh} {cap N : Nat → Nat} (σ : St) (i n : Int32) (h0 : ¬ i < 0) (h1 : i < n) : Met l yJ3_checkIndex_8e157 wsJ3_checkIndex_8e157 ({ frames := 0, cells := 0, slots := 0, locals := 0 }) (va_Pc [.int i, .int n, .null] (cU D cI cO A g cap N σ)) (va_Qi (fun r (_ : Unit) => r = i) (fun _ t => cU D cI cO A g cap N σ t) A) 0 0 A := by
  refine Met.ofW (cc := cJ3_checkIndex_8e157) (maxL := 3) (ret := (some .int)) (by decide) rfl ?_
  intro p e s m args below meth c s₁ B hml hv
  obtain ⟨rfl, hP, hK⟩ := hv
  have E : kE p c cJ3_checkIndex_8e157 s m ([.int i, .int n, .null] : List Value).toArray wsJ3_checkIndex_8e157 RJ3 D cI cO := ⟨⟨B.exec, B.bytes⟩, atoms_spec (ws := wsJ3_checkIndex_8e157) B.pre, findClass_of_methodNamed B.named, hK⟩
  have hx := E.1.1
  have hb := E.1.2
  have hts := E.2.1
  have hr := B.returns
  have hlocks := B.notSynchronized
  have hS : va_S A s.heap s.heap [] := va_S.rf
  have hR : 0 ≤ ((headSpec wsJ3_checkIndex_8e157 ({ frames := 0, cells := 0, slots := 0, locals := 0 })).room).frames ∧ 0 ≤ ((headSpec wsJ3_checkIndex_8e157 ({ frames := 0, cells := 0, slots := 0, locals := 0 })).room).locals := ⟨Nat.le_of_ble_eq_true rfl, Nat.le_of_ble_eq_true rfl⟩
  have hf : 0 ≤ ((headSpec wsJ3_checkIndex_8e157 ({ frames := 0, cells := 0, slots := 0, locals := 0 })).room).cells ∧ 0 ≤ ((headSpec wsJ3_checkIndex_8e157 ({ frames := 0, cells := 0, slots := 0, locals := 0 })).room).slots := ⟨Nat.zero_le _, Nat.zero_le _⟩
  have hl := lv_entry ([.int i, .int n, .null]) (n := 3) (Nat.le_of_ble_eq_true rfl)
  rw [lg_entry_eq]
  generalize (lg_sl ([.int i, .int n, .null]) ++ List.replicate (3 - (lg_sl ([.int i, .int n, .null])).length) Slot.unset).toArray = ls at hl ⊢
  refine lv_iload_n hx hb dJ3_checkIndex_8e157_0 rfl (lv_at hl 0 rfl) ?_
  refine lv_if_lt (tgt := 9) hx hb dJ3_checkIndex_8e157_1 (by decide) (fun z => absurd z h0) (fun _ => ?_)
  refine lv_iload_n hx hb dJ3_checkIndex_8e157_4 rfl (lv_at hl 0 rfl) ?_
  refine lv_iload_n hx hb dJ3_checkIndex_8e157_5 rfl (lv_at hl 1 rfl) ?_
  refine lv_icmp_lt (tgt := 16) hx hb dJ3_checkIndex_8e157_6 (by decide) (fun _ => ?_) (fun z => absurd h1 z)
  refine lv_iload_n hx hb dJ3_checkIndex_8e157_16 rfl (lv_at hl 0 rfl) ?_
  exact W.iret (v := i) hx hb hr (fun t ht hW => ⟨⟨_, (), rfl, rfl, by rw [ht]; exact hP, va_K.moved hW.alike hK⟩, hS.F ht⟩) hS.2.2 dJ3_checkIndex_8e157_17
set_option maxHeartbeats 1000000 in
set_option maxRecDepth 100000 in
theorem c_chk15 (l : Launch) {D : va_G} {A : Nat → Prop} {cI cO : ClassId} {g : Gh} {cap N : Nat → Nat} (σ : St) (i n : Int32) (h0 : ¬ i < 0) (h1 : i < n) : Met l yJ15_checkIndex_7cf53 wsJ15_checkIndex_7cf53 ({ frames := 1, cells := 0, slots := 0, locals := 22 }) (va_Pc [.int i, .int n] (cU D cI cO A g cap N σ)) (va_Qi (fun r (_ : Unit) => r = i) (fun _ t => cU D cI cO A g cap N σ t) A) 0 0 A := by
  refine Met.ofW (cc := cJ15_checkIndex_7cf53) (maxL := 2) (ret := (some .int)) (by decide) rfl ?_
  intro p e s m args below meth c s₁ B hml hv
  obtain ⟨rfl, hP, hK⟩ := hv
  have E : kE p c cJ15_checkIndex_7cf53 s m ([.int i, .int n] : List Value).toArray wsJ15_checkIndex_7cf53 RJ15 D cI cO := ⟨⟨B.exec, B.bytes⟩, atoms_spec (ws := wsJ15_checkIndex_7cf53) B.pre, findClass_of_methodNamed B.named, hK⟩
  have hx := E.1.1
  have hb := E.1.2
  have hts := E.2.1
  have hr := B.returns
  have hlocks := B.notSynchronized
  have hS : va_S A s.heap s.heap [] := va_S.rf
  have hR : 1 ≤ ((headSpec wsJ15_checkIndex_7cf53 ({ frames := 1, cells := 0, slots := 0, locals := 22 })).room).frames ∧ 22 ≤ ((headSpec wsJ15_checkIndex_7cf53 ({ frames := 1, cells := 0, slots := 0, locals := 22 })).room).locals := ⟨Nat.le_of_ble_eq_true rfl, Nat.le_of_ble_eq_true rfl⟩
  have hf : 0 ≤ ((headSpec wsJ15_checkIndex_7cf53 ({ frames := 1, cells := 0, slots := 0, locals := 22 })).room).cells ∧ 0 ≤ ((headSpec wsJ15_checkIndex_7cf53 ({ frames := 1, cells := 0, slots := 0, locals := 22 })).room).slots := ⟨Nat.zero_le _, Nat.zero_le _⟩
  have hl := lv_entry ([.int i, .int n]) (n := 2) (Nat.le_of_ble_eq_true rfl)
  rw [lg_entry_eq]
  generalize (lg_sl ([.int i, .int n]) ++ List.replicate (2 - (lg_sl ([.int i, .int n])).length) Slot.unset).toArray = ls at hl ⊢
  refine lv_iload_n hx hb dJ15_checkIndex_7cf53_0 rfl (lv_at hl 0 rfl) ?_
  refine lv_iload_n hx hb dJ15_checkIndex_7cf53_1 rfl (lv_at hl 1 rfl) ?_
  refine lv_null hx hb dJ15_checkIndex_7cf53_2 ?_
  refine kcS_i E hml hP hS (c_chk3 l σ i n h0 h1) (va_cwS 3 hts gJ15_checkIndex_7cf53_J3_checkIndex_8e157 rfl rfl rfl (by decide +kernel) ⟨Nat.le_trans (Nat.le_of_ble_eq_true rfl) hR.1, Nat.le_trans (Nat.le_of_ble_eq_true rfl) hR.2⟩) rfl hl.1 rfl (Nat.le_of_ble_eq_true rfl) dJ15_checkIndex_7cf53_3 hf (fun H locs hP hS => ?_)
  exact W.iret (v := i) hx hb hr (fun t ht hW => ⟨⟨_, (), rfl, rfl, by rw [ht]; exact hP, va_K.moved hW.alike hK⟩, hS.F ht⟩) hS.2.2 dJ15_checkIndex_7cf53_6
set_option maxHeartbeats 1000000 in
set_option maxRecDepth 100000 in
theorem c_AL_elem (l : Launch) {D : va_G} {A : Nat → Prop} {cI cO : ClassId} {g : Gh} {cap N : Nat → Nat} (σ : St) (q : Nat) (i : Int32) (hq : lv N cap 1 q) (h2 : N 2 = N 1) (hL : KL cap N σ q) (hi : vp_in i (σ 54 q).toNatClampNeg) : Met l yJx4a65c_elementData_915e3 wsJx4a65c_elementData_915e3 ({ frames := 0, cells := 0, slots := 0, locals := 0 }) (va_Pc [.ref (g 1 q), .int i] (cU D cI cO A g cap N σ)) (va_Qr (fun (_ : Unit) => True) (fun _ ra t => ra = g (ek q) (cn σ q i.toNatClampNeg) ∧ cU D cI cO A g cap N σ t) A) 0 0 A := by
  refine Met.ofW (cc := cJx4a65c_elementData_915e3) (maxL := 2) (ret := (some (.object "java/lang/Object"))) (by decide) rfl ?_
  intro p e s m args below meth c s₁ B hml hv
  obtain ⟨rfl, hP, hK⟩ := hv
  have E : kE p c cJx4a65c_elementData_915e3 s m ([.ref (g 1 q), .int i] : List Value).toArray wsJx4a65c_elementData_915e3 RJx4a65c D cI cO := ⟨⟨B.exec, B.bytes⟩, atoms_spec (ws := wsJx4a65c_elementData_915e3) B.pre, findClass_of_methodNamed B.named, hK⟩
  have hx := E.1.1
  have hb := E.1.2
  have hts := E.2.1
  have hr := B.returns
  have hlocks := B.notSynchronized
  have hS : va_S A s.heap s.heap [] := va_S.rf
  have hR : 0 ≤ ((headSpec wsJx4a65c_elementData_915e3 ({ frames := 0, cells := 0, slots := 0, locals := 0 })).room).frames ∧ 0 ≤ ((headSpec wsJx4a65c_elementData_915e3 ({ frames := 0, cells := 0, slots := 0, locals := 0 })).room).locals := ⟨Nat.le_of_ble_eq_true rfl, Nat.le_of_ble_eq_true rfl⟩
  have hf : 0 ≤ ((headSpec wsJx4a65c_elementData_915e3 ({ frames := 0, cells := 0, slots := 0, locals := 0 })).room).cells ∧ 0 ≤ ((headSpec wsJx4a65c_elementData_915e3 ({ frames := 0, cells := 0, slots := 0, locals := 0 })).room).slots := ⟨Nat.zero_le _, Nat.zero_le _⟩
  have hl := lv_entry ([.ref (g 1 q), .int i]) (n := 2) (Nat.le_of_ble_eq_true rfl)
  rw [lg_entry_eq]
  generalize (lg_sl ([.ref (g 1 q), .int i]) ++ List.replicate (2 - (lg_sl ([.ref (g 1 q), .int i])).length) Slot.unset).toArray = ls at hl ⊢
  obtain ⟨C, eC, hC, h100, -⟩ := hL
  have hi2 := vp_lt hi
  have hCn : (σ 54 q).toNatClampNeg = C := by rw [eC]; exact nI_clamp (by omega)
  have hv2 : lv N cap 2 q := ⟨by decide, by rw [h2]; exact hq.2.1, fun _ => by omega⟩
  have hin : vp_in i (cap q) := fun z => hi (z.elim Or.inl (fun w => Or.inr (by omega)))
  refine lv_aload_n hx hb dJx4a65c_elementData_915e3_0 rfl (lv_at hl 0 rfl) ?_
  refine kg_elem E (by decide +kernel) hP hq (by decide +kernel) dJx4a65c_elementData_915e3_1 ?_
  refine lv_iload_n hx hb dJx4a65c_elementData_915e3_4 rfl (lv_at hl 1 rfl) ?_
  refine va_aldq (D := D) (f := crow g σ q) hx hb hK (one_P (hP.1 2 q hv2).1) 0 1 rfl rfl hin dJx4a65c_elementData_915e3_5 ?_
  rw [show crow g σ q i.toNatClampNeg = some (g (ek q) (cn σ q i.toNatClampNeg)) from if_pos hi2]
  exact W.aret (v := .ref (g (ek q) (cn σ q i.toNatClampNeg))) hx hb hr (Or.inl ⟨_, rfl⟩) (Or.inr ⟨_, rfl⟩) (fun t ht hW => ⟨⟨(), _, rfl, trivial, rfl, by rw [ht]; exact hP, va_K.moved hW.alike hK⟩, hS.F ht⟩) hS.2.2 dJx4a65c_elementData_915e3_6
set_option maxHeartbeats 1000000 in
set_option maxRecDepth 100000 in
theorem c_AL_get (l : Launch) {D : va_G} {A : Nat → Prop} {cI cO : ClassId} {g : Gh} {cap N : Nat → Nat} (σ : St) (q : Nat) (i : Int32) (hq : lv N cap 1 q) (h2 : N 2 = N 1) (hL : KL cap N σ q) (hi : vp_in i (σ 54 q).toNatClampNeg) : Met l yJx4a65c_get_915e3 wsJx4a65c_get_915e3 ({ frames := 2, cells := 0, slots := 0, locals := 43 }) (va_Pc [.ref (g 1 q), .int i] (cU D cI cO A g cap N σ)) (va_Qr (fun (_ : Unit) => True) (fun _ ra t => ra = g (ek q) (cn σ q i.toNatClampNeg) ∧ cU D cI cO A g cap N σ t) A) 0 0 A := by
  refine Met.ofW (cc := cJx4a65c_get_915e3) (maxL := 2) (ret := (some (.object "java/lang/Object"))) (by decide) rfl ?_
  intro p e s m args below meth c s₁ B hml hv
  obtain ⟨rfl, hP, hK⟩ := hv
  have E : kE p c cJx4a65c_get_915e3 s m ([.ref (g 1 q), .int i] : List Value).toArray wsJx4a65c_get_915e3 RJx4a65c D cI cO := ⟨⟨B.exec, B.bytes⟩, atoms_spec (ws := wsJx4a65c_get_915e3) B.pre, findClass_of_methodNamed B.named, hK⟩
  have hx := E.1.1
  have hb := E.1.2
  have hts := E.2.1
  have hr := B.returns
  have hlocks := B.notSynchronized
  have hS : va_S A s.heap s.heap [] := va_S.rf
  have hR : 2 ≤ ((headSpec wsJx4a65c_get_915e3 ({ frames := 2, cells := 0, slots := 0, locals := 43 })).room).frames ∧ 43 ≤ ((headSpec wsJx4a65c_get_915e3 ({ frames := 2, cells := 0, slots := 0, locals := 43 })).room).locals := ⟨Nat.le_of_ble_eq_true rfl, Nat.le_of_ble_eq_true rfl⟩
  have hf : 0 ≤ ((headSpec wsJx4a65c_get_915e3 ({ frames := 2, cells := 0, slots := 0, locals := 43 })).room).cells ∧ 0 ≤ ((headSpec wsJx4a65c_get_915e3 ({ frames := 2, cells := 0, slots := 0, locals := 43 })).room).slots := ⟨Nat.zero_le _, Nat.zero_le _⟩
  have hl := lv_entry ([.ref (g 1 q), .int i]) (n := 2) (Nat.le_of_ble_eq_true rfl)
  rw [lg_entry_eq]
  generalize (lg_sl ([.ref (g 1 q), .int i]) ++ List.replicate (2 - (lg_sl ([.ref (g 1 q), .int i])).length) Slot.unset).toArray = ls at hl ⊢
  have h0 : ¬ i < 0 := fun z => hi (Or.inl z)
  have h1 : i < σ 54 q := by
    obtain ⟨C, eC, hC, h100, -⟩ := hL
    rw [eC, nI_clamp (by omega)] at hi
    obtain ⟨j, hj, rfl⟩ := vp_in_of hi (by omega)
    rw [eC]; exact nI_lt hj (by omega)
  refine lv_iload_n hx hb dJx4a65c_get_915e3_0 rfl (lv_at hl 1 rfl) ?_
  refine lv_aload_n hx hb dJx4a65c_get_915e3_1 rfl (lv_at hl 0 rfl) ?_
  refine kg_size E (by decide +kernel) hP hq (by decide +kernel) dJx4a65c_get_915e3_2 ?_
  refine kcS_i E hml hP hS (c_chk15 l σ i (σ 54 q) h0 h1) (va_cwS 2 hts gJx4a65c_get_915e3_J15_checkIndex_7cf53 rfl rfl rfl (by decide +kernel) ⟨Nat.le_trans (Nat.le_of_ble_eq_true rfl) hR.1, Nat.le_trans (Nat.le_of_ble_eq_true rfl) hR.2⟩) rfl hl.1 rfl (Nat.le_of_ble_eq_true rfl) dJx4a65c_get_915e3_5 hf (fun H locs hP hS => ?_)
  refine lv_pop hx hb dJx4a65c_get_915e3_8 rfl ?_
  refine lv_aload_n hx hb dJx4a65c_get_915e3_9 rfl (lv_at hl 0 rfl) ?_
  refine lv_iload_n hx hb dJx4a65c_get_915e3_10 rfl (lv_at hl 1 rfl) ?_
  refine kcV_r (v := g (ek q) (cn σ q i.toNatClampNeg)) E hml hP hS (kr_1 E.2.2.2 hP hq) (c_AL_elem l σ q i hq h2 hL hi) (cwV 1 hts gJx4a65c_get_915e3_Jx4a65c_elementData_915e3 rfl rfl rfl (by decide +kernel) ⟨Nat.le_trans (Nat.le_of_ble_eq_true rfl) hR.1, Nat.le_trans (Nat.le_of_ble_eq_true rfl) hR.2⟩) rfl hl.1 rfl (Nat.le_of_ble_eq_true rfl) dJx4a65c_get_915e3_11 hf (fun H locs hP hS => ?_)
  exact W.aret (v := .ref (g (ek q) (cn σ q i.toNatClampNeg))) hx hb hr (Or.inl ⟨_, rfl⟩) (Or.inr ⟨_, rfl⟩) (fun t ht hW => ⟨⟨(), _, rfl, trivial, rfl, by rw [ht]; exact hP, va_K.moved hW.alike hK⟩, hS.F ht⟩) hS.2.2 dJx4a65c_get_915e3_14
theorem c_AL_getA (l : Launch) {D : va_G} {A : Nat → Prop} {cI cO : ClassId} {g : Gh} {cap N : Nat → Nat} (σ : St) (q : Nat) (i : Int32) (hq : lv N cap 1 q) (h2 : N 2 = N 1) (hL : KL cap N σ q) (hi : vp_in i (σ 54 q).toNatClampNeg) (h4 : 4 ≤ q) : Met l yJx4a65c_get_915e3 wsJx4a65c_get_915e3 ({ frames := 2, cells := 0, slots := 0, locals := 43 }) (va_Pc [.ref (g 1 q), .int i] (cU D cI cO A g cap N σ)) (va_Qr (fun (_ : Unit) => True) (fun _ ra t => ra = g 8 (σ (100 + q) i.toNatClampNeg).toNatClampNeg ∧ cU D cI cO A g cap N σ t) A) 0 0 A := by
  have h := c_AL_get l (D := D) (A := A) (cI := cI) (cO := cO) (g := g) σ q i hq h2 hL hi
  rw [show ek q = 8 by unfold ek; rw [if_neg (by omega), if_neg (by omega), if_neg (by omega)], show cn σ q i.toNatClampNeg = (σ (100 + q) i.toNatClampNeg).toNatClampNeg by unfold cn; rw [if_neg (by omega)]] at h
  exact h
