/-! ArrayList made: its constructor and its supers' -/
set_option maxHeartbeats 1000000 in
set_option maxRecDepth 100000 in
theorem c_Jxa1e45_init_da8c8 (l : Launch) {D : va_G} {cI cO : ClassId} (r : Nat) : Met l yJxa1e45_init_da8c8 wsJxa1e45_init_da8c8 ({ frames := 1, cells := 0, slots := 0, locals := 24 }) (va_Pc [.ref r] (fun U => va_P D vwCl [(r, .inr (2, [.int 0, .null, .int 0]))] U.heap ∧ va_K D vwCl (cT cI cO) U)) (va_Qv (fun (_ : Unit) => True) (fun _ t => va_P D vwCl [(r, .inr (2, [.int 0, .null, .int 0]))] t.heap ∧ va_K D vwCl (cT cI cO) t) (fun x => x = r)) 0 0 (fun x => x = r) := by
  refine Met.ofW (cc := cJxa1e45_init_da8c8) (maxL := 1) (ret := none) (by decide) rfl ?_
  intro p e s m args below meth c s₁ B hml hv
  obtain ⟨rfl, hP, hK⟩ := hv
  have E : kE p c cJxa1e45_init_da8c8 s m ([.ref r] : List Value).toArray wsJxa1e45_init_da8c8 RJxa1e45 D cI cO := ⟨⟨B.exec, B.bytes⟩, atoms_spec (ws := wsJxa1e45_init_da8c8) B.pre, findClass_of_methodNamed B.named, hK⟩
  have hx := E.1.1
  have hb := E.1.2
  have hts := E.2.1
  have hr := B.returns
  have hlocks := B.notSynchronized
  have hS : va_S (fun x => x = r) s.heap s.heap [] := va_S.rf
  have hR : 1 ≤ ((headSpec wsJxa1e45_init_da8c8 ({ frames := 1, cells := 0, slots := 0, locals := 24 })).room).frames ∧ 24 ≤ ((headSpec wsJxa1e45_init_da8c8 ({ frames := 1, cells := 0, slots := 0, locals := 24 })).room).locals := ⟨Nat.le_refl _, Nat.le_refl _⟩
  have hl := lv_entry ([.ref r]) (n := 1) (Nat.le_of_ble_eq_true rfl)
  rw [lg_entry_eq]
  generalize (lg_sl ([.ref r]) ++ List.replicate (1 - (lg_sl ([.ref r])).length) Slot.unset).toArray = ls at hl ⊢
  generalize (headSpec wsJxa1e45_init_da8c8 ({ frames := 1, cells := 0, slots := 0, locals := 24 })).room = R at hR ⊢
  refine lv_aload_n hx hb dJxa1e45_init_da8c8_0 rfl (lv_at hl 0 rfl) ?_
  refine W.objInit hx hb E.2.2.1 (idx := 1) (hts (.methodLink RJxa1e45 1 objectInit) (by decide +kernel)) (hts (.instanceMethod objectInit) (by decide +kernel)) (hts (.code objectInit ⟨#[0xb1]⟩ 1 none) (by decide +kernel)) (g := F0 m 1 ls [.ref r]) rfl (hl.1.trans hml.symm) rfl dJxa1e45_init_da8c8_1 hR.1 (Nat.le_trans (Nat.le_of_ble_eq_true rfl) hR.2) ?_
  show W p l e R s m _ below meth c _ _ 0 0 _ (F0 m 4 ls [])
  exact W.vret hx hb hr (fun t ht hW => ⟨⟨(), rfl, trivial, by rw [ht]; exact hP, va_K.moved hW.alike hK⟩, hS.F ht⟩) hS.2.2 dJxa1e45_init_da8c8_4
set_option maxHeartbeats 1000000 in
set_option maxRecDepth 100000 in
theorem c_Jxc12de_init_da8c8 (l : Launch) {D : va_G} {cI cO : ClassId} (r : Nat) : Met l yJxc12de_init_da8c8 wsJxc12de_init_da8c8 ({ frames := 2, cells := 0, slots := 0, locals := 50 }) (va_Pc [.ref r] (fun U => va_P D vwCl [(r, .inr (2, [.int 0, .null, .int 0]))] U.heap ∧ va_K D vwCl (cT cI cO) U)) (va_Qv (fun (_ : Unit) => True) (fun _ t => va_P D vwCl [(r, .inr (2, [.int 0, .null, .int 0]))] t.heap ∧ va_K D vwCl (cT cI cO) t) (fun x => x = r)) 0 0 (fun x => x = r) := by
  refine Met.ofW (cc := cJxc12de_init_da8c8) (maxL := 1) (ret := none) (by decide) rfl ?_
  intro p e s m args below meth c s₁ B hml hv
  obtain ⟨rfl, hP, hK⟩ := hv
  have E : kE p c cJxc12de_init_da8c8 s m ([.ref r] : List Value).toArray wsJxc12de_init_da8c8 RJxc12de D cI cO := ⟨⟨B.exec, B.bytes⟩, atoms_spec (ws := wsJxc12de_init_da8c8) B.pre, findClass_of_methodNamed B.named, hK⟩
  have hx := E.1.1
  have hb := E.1.2
  have hts := E.2.1
  have hr := B.returns
  have hlocks := B.notSynchronized
  have hS : va_S (fun x => x = r) s.heap s.heap [] := va_S.rf
  have hR : 2 ≤ ((headSpec wsJxc12de_init_da8c8 ({ frames := 2, cells := 0, slots := 0, locals := 50 })).room).frames ∧ 50 ≤ ((headSpec wsJxc12de_init_da8c8 ({ frames := 2, cells := 0, slots := 0, locals := 50 })).room).locals := ⟨Nat.le_refl _, Nat.le_refl _⟩
  have hl := lv_entry ([.ref r]) (n := 1) (Nat.le_of_ble_eq_true rfl)
  rw [lg_entry_eq]
  generalize (lg_sl ([.ref r]) ++ List.replicate (1 - (lg_sl ([.ref r])).length) Slot.unset).toArray = ls at hl ⊢
  generalize (headSpec wsJxc12de_init_da8c8 ({ frames := 2, cells := 0, slots := 0, locals := 50 })).room = R at hR ⊢
  have hin : ∀ w ∈ u_ws RJx4a65c TJx4a65c 3, w ∈ wsJxc12de_init_da8c8 := by decide +kernel
  refine lv_aload_n hx hb dJxc12de_init_da8c8_0 rfl (lv_at hl 0 rfl) ?_
  refine kn_init (A := fun x => x = r) (r := r) (As := []) (rest := []) (PU := fun U => va_P D vwCl [(r, .inr (2, [.int 0, .null, .int 0]))] U.heap ∧ va_K D vwCl (cT cI cO) U) E hml hS rfl (fun a U g mk q => ⟨q.1, q.2.1, va_K.moved (u := U) (U := U.calling g mk a) (Vm.Alike.refl U.vm) q.2.2⟩) (fun U hU hW => ⟨by rw [hU]; exact hP, va_K.moved hW.alike E.2.2.2⟩) (c_Jxa1e45_init_da8c8 l r) (cwI 0 hts gJxc12de_init_da8c8_Jxa1e45_init_da8c8 rfl rfl rfl (hts (.initialized yJxa1e45_init_da8c8.cls) (by decide +kernel)) (hts (.methodLink RJxc12de 1 yJxa1e45_init_da8c8) (by decide +kernel)) (hts (.instanceMethod yJxa1e45_init_da8c8) (by decide +kernel)) rfl (by decide +kernel) ⟨Nat.le_trans (Nat.le_of_ble_eq_true rfl) hR.1, Nat.le_trans (Nat.le_of_ble_eq_true rfl) hR.2⟩) rfl hl.1 rfl (Nat.le_of_ble_eq_true rfl) dJxc12de_init_da8c8_1 ⟨Nat.zero_le _, Nat.zero_le _⟩ (fun t H2 locs ht hB hk hz hS => ?_)
  have hP := hB.1
  rw [ht] at hP
  have hD : va_D (fun x => x = r) [(r, .inr (2, [.int 0, .null, .int 0]))] := one_D rfl
  refine lv_aload_n hx hb dJxc12de_init_da8c8_4 rfl (lv_at hl 0 rfl) ?_
  refine lv_iconst (v := 0) hx hb dJxc12de_init_da8c8_5 (by decide) ?_
  refine va_put (ws := [(r, .inr (2, [.int 0, .null, .int 0]))]) (D := D) (cl := vwCl) (ci := 2) (v := .int (0 : Int32)) (ty := .int) (C := RJx4a65c) (T := TJx4a65c) (N := 3) hx hb hts hin tyJx4a65c tyJx4a65c_ok nmJx4a65c E.2.2.1 E.2.2.2 hP hD hS 0 rfl rfl 0 (by decide) (hts (.fieldLink RJxc12de 7 "java/util/AbstractList" "modCount" "I") (by decide +kernel)) (fun _ h9 => h9) rfl (by decide +kernel) rfl rfl (Nat.le_of_ble_eq_true rfl) dJxc12de_init_da8c8_6 (fun H locs hP hD hS => ?_)
  exact W.vret hx hb hr (fun t ht hW => ⟨⟨(), rfl, trivial, by rw [ht]; exact hP, va_K.moved hW.alike hK⟩, hS.F ht⟩) hS.2.2 dJxc12de_init_da8c8_9
set_option maxHeartbeats 1000000 in
set_option maxRecDepth 100000 in
theorem c_Jx4a65c_init_da8c8 (l : Launch) {D : va_G} {cI cO : ClassId} (r : Nat) (aE : Nat) : Met l yJx4a65c_init_da8c8 wsJx4a65c_init_da8c8 ({ frames := 3, cells := 0, slots := 0, locals := 80 }) (va_Pc [.ref r] (fun U => (va_P D vwCl [(r, .inr (2, [.int 0, .null, .int 0]))] U.heap ∧ va_K D vwCl (cT cI cO) U) ∧ va_Z "java/util/ArrayList" "DEFAULTCAPACITY_EMPTY_ELEMENTDATA" "[Ljava/lang/Object;" (.ref aE) (fun x => x = r) U U.heap)) (va_Qv (fun (_ : Unit) => True) (fun _ t => va_P D vwCl [(r, .inr (2, [.int 0, .ref aE, .int 0]))] t.heap ∧ va_K D vwCl (cT cI cO) t) (fun x => x = r)) 0 0 (fun x => x = r) := by
  refine Met.ofW (cc := cJx4a65c_init_da8c8) (maxL := 1) (ret := none) (by decide) rfl ?_
  intro p e s m args below meth c s₁ B hml hv
  obtain ⟨rfl, ⟨hP, hK⟩, hZ⟩ := hv
  have E : kE p c cJx4a65c_init_da8c8 s m ([.ref r] : List Value).toArray wsJx4a65c_init_da8c8 RJx4a65c D cI cO := ⟨⟨B.exec, B.bytes⟩, atoms_spec (ws := wsJx4a65c_init_da8c8) B.pre, findClass_of_methodNamed B.named, hK⟩
  have hx := E.1.1
  have hb := E.1.2
  have hts := E.2.1
  have hr := B.returns
  have hlocks := B.notSynchronized
  have hS : va_S (fun x => x = r) s.heap s.heap [] := va_S.rf
  have hR : 3 ≤ ((headSpec wsJx4a65c_init_da8c8 ({ frames := 3, cells := 0, slots := 0, locals := 80 })).room).frames ∧ 80 ≤ ((headSpec wsJx4a65c_init_da8c8 ({ frames := 3, cells := 0, slots := 0, locals := 80 })).room).locals := ⟨Nat.le_refl _, Nat.le_refl _⟩
  have hl := lv_entry ([.ref r]) (n := 1) (Nat.le_of_ble_eq_true rfl)
  rw [lg_entry_eq]
  generalize (lg_sl ([.ref r]) ++ List.replicate (1 - (lg_sl ([.ref r])).length) Slot.unset).toArray = ls at hl ⊢
  generalize (headSpec wsJx4a65c_init_da8c8 ({ frames := 3, cells := 0, slots := 0, locals := 80 })).room = R at hR ⊢
  have hin : ∀ w ∈ u_ws RJx4a65c TJx4a65c 3, w ∈ wsJx4a65c_init_da8c8 := by decide +kernel
  refine lv_aload_n hx hb dJx4a65c_init_da8c8_0 rfl (lv_at hl 0 rfl) ?_
  refine kn_init (A := fun x => x = r) (r := r) (As := []) (rest := []) (PU := fun U => va_P D vwCl [(r, .inr (2, [.int 0, .null, .int 0]))] U.heap ∧ va_K D vwCl (cT cI cO) U) E hml hS rfl (fun a U g mk q => ⟨q.1, q.2.1, va_K.moved (u := U) (U := U.calling g mk a) (Vm.Alike.refl U.vm) q.2.2⟩) (fun U hU hW => ⟨by rw [hU]; exact hP, va_K.moved hW.alike E.2.2.2⟩) (c_Jxc12de_init_da8c8 l r) (cwI 0 hts gJx4a65c_init_da8c8_Jxc12de_init_da8c8 rfl rfl rfl (hts (.initialized yJxc12de_init_da8c8.cls) (by decide +kernel)) (hts (.methodLink RJx4a65c 1 yJxc12de_init_da8c8) (by decide +kernel)) (hts (.instanceMethod yJxc12de_init_da8c8) (by decide +kernel)) rfl (by decide +kernel) ⟨Nat.le_trans (Nat.le_of_ble_eq_true rfl) hR.1, Nat.le_trans (Nat.le_of_ble_eq_true rfl) hR.2⟩) rfl hl.1 rfl (Nat.le_of_ble_eq_true rfl) dJx4a65c_init_da8c8_1 ⟨Nat.zero_le _, Nat.zero_le _⟩ (fun t H2 locs ht hB hk hz hS => ?_)
  have hP := hB.1
  rw [ht] at hP
  have hD : va_D (fun x => x = r) [(r, .inr (2, [.int 0, .null, .int 0]))] := one_D rfl
  refine lv_aload_n hx hb dJx4a65c_init_da8c8_4 rfl (lv_at hl 0 rfl) ?_
  refine va_gets (A := fun x => x = r) hx hb hZ hS E.2.2.1 (hts (.fieldLink RJx4a65c 39 "java/util/ArrayList" "DEFAULTCAPACITY_EMPTY_ELEMENTDATA" "[Ljava/lang/Object;") (by decide +kernel)) (fun _ h9 => h9) dJx4a65c_init_da8c8_5 ?_
  refine va_put (ws := [(r, .inr (2, [.int 0, .null, .int 0]))]) (D := D) (cl := vwCl) (ci := 2) (v := .ref aE) (ty := .array (.object "java/lang/Object")) (C := RJx4a65c) (T := TJx4a65c) (N := 3) hx hb hts hin tyJx4a65c tyJx4a65c_ok nmJx4a65c E.2.2.1 E.2.2.2 hP hD hS 0 rfl rfl 1 (by decide) (hts (.fieldLink RJx4a65c 9 "java/util/ArrayList" "elementData" "[Ljava/lang/Object;") (by decide +kernel)) (fun _ h9 => h9) rfl (by decide +kernel) rfl rfl (Nat.le_of_ble_eq_true rfl) dJx4a65c_init_da8c8_8 (fun H locs hP hD hS => ?_)
  exact W.vret hx hb hr (fun t ht hW => ⟨⟨(), rfl, trivial, by rw [ht]; exact hP, va_K.moved hW.alike hK⟩, hS.F ht⟩) hS.2.2 dJx4a65c_init_da8c8_11
