/-! constructors: of one fresh object; nothing else is touched -/
theorem one_D {A : Nat → Prop} {a : Nat} {x : va_E} (h : A a) : va_D A [(a, x)] := ⟨fun i j p q hi hj _ => by
  have h1 := (List.getElem?_eq_some_iff.mp hi).1
  have h2 := (List.getElem?_eq_some_iff.mp hj).1
  simp at h1 h2; omega, fun k q hk => by
  have h1 := (List.getElem?_eq_some_iff.mp hk).1
  simp at h1; subst h1; cases hk; exact h⟩
set_option maxHeartbeats 4000000 in
set_option maxRecDepth 100000 in
theorem c_X1_init (l : Launch) {D : va_G} {cI cO : ClassId} (r : Nat) (sa : Nat) (kind : Int32) (length : Int32) (weight : Int32) (danger : Int32) (urgent : Int32) (lorry : Int32) (h_urgent : isB urgent) (h_lorry : isB lorry) : Met l yX1_init wsX1_init ({ frames := 1, cells := 0, slots := 0, locals := 24 }) (va_Pc [.ref r, .ref sa, .int kind, .int length, .int weight, .int danger, .int urgent, .int lorry] (fun U => va_P D vwCl [(r, .inr (4, [.int 0, .null, .int 0, .int 0, .int 0, .int 0, .int 0, .int 0, .int 0, .int 0, .int 0, .int 0]))] U.heap ∧ va_K D vwCl (cT cI cO) U)) (va_Qv (fun (_ : Unit) => True) (fun _ t => va_P D vwCl [(r, .inr (4, [.int ((-1) : Int32), .ref sa, .int kind, .int length, .int weight, .int danger, .int urgent, .int lorry, .int (0 : Int32), .int (0 : Int32), .int (0 : Int32), .int ((-1) : Int32)]))] t.heap ∧ va_K D vwCl (cT cI cO) t) (fun x => x = r)) 0 0 (fun x => x = r) := by
  refine Met.ofW (cc := cX1_init) (maxL := 8) (ret := none) (by decide) rfl ?_
  intro p e s m args below meth c s₁ B hml hv
  obtain ⟨rfl, hP, hK⟩ := hv
  have E : kE p c cX1_init s m ([.ref r, .ref sa, .int kind, .int length, .int weight, .int danger, .int urgent, .int lorry] : List Value).toArray wsX1_init RX1 D cI cO := ⟨⟨B.exec, B.bytes⟩, atoms_spec (ws := wsX1_init) B.pre, findClass_of_methodNamed B.named, hK⟩
  have hx := E.1.1
  have hb := E.1.2
  have hts := E.2.1
  have hr := B.returns
  have hlocks := B.notSynchronized
  have hname : meth.name = "<init>" := (name_of_methodNamed B.named B.method).1
  have hin : ∀ w ∈ u_ws RX1 TX1 12, w ∈ wsX1_init := by decide +kernel
  have hS : va_S (fun x => x = r) s.heap s.heap [] := va_S.rf
  have hD : va_D (fun x => x = r) [(r, .inr (4, [.int 0, .null, .int 0, .int 0, .int 0, .int 0, .int 0, .int 0, .int 0, .int 0, .int 0, .int 0]))] := one_D rfl
  have hR : 1 ≤ ((headSpec wsX1_init ({ frames := 1, cells := 0, slots := 0, locals := 24 })).room).frames ∧ 24 ≤ ((headSpec wsX1_init ({ frames := 1, cells := 0, slots := 0, locals := 24 })).room).locals := ⟨Nat.le_refl _, Nat.le_refl _⟩
  have hl := lv_entry ([.ref r, .ref sa, .int kind, .int length, .int weight, .int danger, .int urgent, .int lorry]) (n := 8) (Nat.le_of_ble_eq_true rfl)
  rw [lg_entry_eq]
  generalize (lg_sl ([.ref r, .ref sa, .int kind, .int length, .int weight, .int danger, .int urgent, .int lorry]) ++ List.replicate (8 - (lg_sl ([.ref r, .ref sa, .int kind, .int length, .int weight, .int danger, .int urgent, .int lorry])).length) Slot.unset).toArray = ls at hl ⊢
  generalize (headSpec wsX1_init ({ frames := 1, cells := 0, slots := 0, locals := 24 })).room = R at hR ⊢
  refine lv_aload_n hx hb dX1_init_0 rfl (lv_at hl 0 rfl) ?_
  refine W.objInit hx hb E.2.2.1 (idx := 3) (hts (.methodLink RX1 3 objectInit) (by decide +kernel)) (hts (.instanceMethod objectInit) (by decide +kernel)) (hts (.code objectInit ⟨#[0xb1]⟩ 1 none) (by decide +kernel)) (g := F0 m 1 ls [.ref r]) rfl (hl.1.trans hml.symm) rfl dX1_init_1 hR.1 (Nat.le_trans (Nat.le_of_ble_eq_true rfl) hR.2) ?_
  show W p l e R s m _ below meth c _ _ 0 0 _ (F0 m 4 ls [])
  refine lv_aload_n hx hb dX1_init_4 rfl (lv_at hl 0 rfl) ?_
  refine lv_iconst (v := -1) hx hb dX1_init_5 (by decide) ?_
  refine va_put (ws := [(r, .inr (4, [.int 0, .null, .int 0, .int 0, .int 0, .int 0, .int 0, .int 0, .int 0, .int 0, .int 0, .int 0]))]) (D := D) (cl := vwCl) (ci := 4) (v := .int ((-1) : Int32)) (ty := .int) (C := RX1) (T := TX1) (N := 12) hx hb hts hin tyX1 tyX1_ok nmX1 E.2.2.1 E.2.2.2 hP hD hS 0 rfl rfl 0 (by decide) (hts (.fieldLink RX1 9 "IsleBoats$Booking" "number" "I") (by decide +kernel)) (fun _ h9 => h9) rfl (by decide +kernel) rfl rfl (Nat.le_of_ble_eq_true rfl) dX1_init_6 (fun H locs hP hD hS => ?_)
  refine lv_aload_n hx hb dX1_init_9 rfl (lv_at hl 0 rfl) ?_
  refine lv_iconst (v := 0) hx hb dX1_init_10 (by decide) ?_
  refine va_put (ws := [(r, .inr (4, [.int ((-1) : Int32), .null, .int 0, .int 0, .int 0, .int 0, .int 0, .int 0, .int 0, .int 0, .int 0, .int 0]))]) (D := D) (cl := vwCl) (ci := 4) (v := .int (0 : Int32)) (ty := .int) (C := RX1) (T := TX1) (N := 12) hx hb hts hin tyX1 tyX1_ok nmX1 E.2.2.1 E.2.2.2 hP hD hS 0 rfl rfl 8 (by decide) (hts (.fieldLink RX1 15 "IsleBoats$Booking" "state" "I") (by decide +kernel)) (fun _ h9 => h9) rfl (by decide +kernel) rfl rfl (Nat.le_of_ble_eq_true rfl) dX1_init_11 (fun H locs hP hD hS => ?_)
  refine lv_aload_n hx hb dX1_init_14 rfl (lv_at hl 0 rfl) ?_
  refine lv_iconst (v := 0) hx hb dX1_init_15 (by decide) ?_
  refine va_put (ws := [(r, .inr (4, [.int ((-1) : Int32), .null, .int 0, .int 0, .int 0, .int 0, .int 0, .int 0, .int (0 : Int32), .int 0, .int 0, .int 0]))]) (D := D) (cl := vwCl) (ci := 4) (v := .int (0 : Int32)) (ty := .int) (C := RX1) (T := TX1) (N := 12) hx hb hts hin tyX1 tyX1_ok nmX1 E.2.2.1 E.2.2.2 hP hD hS 0 rfl rfl 9 (by decide) (hts (.fieldLink RX1 18 "IsleBoats$Booking" "reason" "I") (by decide +kernel)) (fun _ h9 => h9) rfl (by decide +kernel) rfl rfl (Nat.le_of_ble_eq_true rfl) dX1_init_16 (fun H locs hP hD hS => ?_)
  refine lv_aload_n hx hb dX1_init_19 rfl (lv_at hl 0 rfl) ?_
  refine lv_iconst (v := 0) hx hb dX1_init_20 (by decide) ?_
  refine va_put (ws := [(r, .inr (4, [.int ((-1) : Int32), .null, .int 0, .int 0, .int 0, .int 0, .int 0, .int 0, .int (0 : Int32), .int (0 : Int32), .int 0, .int 0]))]) (D := D) (cl := vwCl) (ci := 4) (v := .int (0 : Int32)) (ty := .int) (C := RX1) (T := TX1) (N := 12) hx hb hts hin tyX1 tyX1_ok nmX1 E.2.2.1 E.2.2.2 hP hD hS 0 rfl rfl 10 (by decide) (hts (.fieldLink RX1 21 "IsleBoats$Booking" "points" "I") (by decide +kernel)) (fun _ h9 => h9) rfl (by decide +kernel) rfl rfl (Nat.le_of_ble_eq_true rfl) dX1_init_21 (fun H locs hP hD hS => ?_)
  refine lv_aload_n hx hb dX1_init_24 rfl (lv_at hl 0 rfl) ?_
  refine lv_iconst (v := -1) hx hb dX1_init_25 (by decide) ?_
  refine va_put (ws := [(r, .inr (4, [.int ((-1) : Int32), .null, .int 0, .int 0, .int 0, .int 0, .int 0, .int 0, .int (0 : Int32), .int (0 : Int32), .int (0 : Int32), .int 0]))]) (D := D) (cl := vwCl) (ci := 4) (v := .int ((-1) : Int32)) (ty := .int) (C := RX1) (T := TX1) (N := 12) hx hb hts hin tyX1 tyX1_ok nmX1 E.2.2.1 E.2.2.2 hP hD hS 0 rfl rfl 11 (by decide) (hts (.fieldLink RX1 24 "IsleBoats$Booking" "side" "I") (by decide +kernel)) (fun _ h9 => h9) rfl (by decide +kernel) rfl rfl (Nat.le_of_ble_eq_true rfl) dX1_init_26 (fun H locs hP hD hS => ?_)
  refine lv_aload_n hx hb dX1_init_29 rfl (lv_at hl 0 rfl) ?_
  refine lv_aload_n hx hb dX1_init_30 rfl (lv_at hl 1 rfl) ?_
  refine va_put (ws := [(r, .inr (4, [.int ((-1) : Int32), .null, .int 0, .int 0, .int 0, .int 0, .int 0, .int 0, .int (0 : Int32), .int (0 : Int32), .int (0 : Int32), .int ((-1) : Int32)]))]) (D := D) (cl := vwCl) (ci := 4) (v := .ref sa) (ty := .object "IsleBoats$Sailing") (C := RX1) (T := TX1) (N := 12) hx hb hts hin tyX1 tyX1_ok nmX1 E.2.2.1 E.2.2.2 hP hD hS 0 rfl rfl 1 (by decide) (hts (.fieldLink RX1 27 "IsleBoats$Booking" "sailing" "LIsleBoats$Sailing;") (by decide +kernel)) (fun _ h9 => h9) rfl (by decide +kernel) rfl rfl (Nat.le_of_ble_eq_true rfl) dX1_init_31 (fun H locs hP hD hS => ?_)
  refine lv_aload_n hx hb dX1_init_34 rfl (lv_at hl 0 rfl) ?_
  refine lv_iload_n hx hb dX1_init_35 rfl (lv_at hl 2 rfl) ?_
  refine va_putF (ws := [(r, .inr (4, [.int ((-1) : Int32), .ref sa, .int 0, .int 0, .int 0, .int 0, .int 0, .int 0, .int (0 : Int32), .int (0 : Int32), .int (0 : Int32), .int ((-1) : Int32)]))]) (D := D) (cl := vwCl) (ci := 4) (v := .int kind) (ty := .int) (C := RX1) (T := TX1) (N := 12) hx hb hts hin tyX1 tyX1_ok nmX1 E.2.2.1 E.2.2.2 hP hD hS 0 rfl rfl 2 (by decide) (hts (.fieldLink RX1 31 "IsleBoats$Booking" "kind" "I") (by decide +kernel)) (fun _ h9 => h9) rfl hname rfl (by decide +kernel) rfl rfl (Nat.le_of_ble_eq_true rfl) dX1_init_36 (fun H locs hP hD hS => ?_)
  refine lv_aload_n hx hb dX1_init_39 rfl (lv_at hl 0 rfl) ?_
  refine lv_iload_n hx hb dX1_init_40 rfl (lv_at hl 3 rfl) ?_
  refine va_putF (ws := [(r, .inr (4, [.int ((-1) : Int32), .ref sa, .int kind, .int 0, .int 0, .int 0, .int 0, .int 0, .int (0 : Int32), .int (0 : Int32), .int (0 : Int32), .int ((-1) : Int32)]))]) (D := D) (cl := vwCl) (ci := 4) (v := .int length) (ty := .int) (C := RX1) (T := TX1) (N := 12) hx hb hts hin tyX1 tyX1_ok nmX1 E.2.2.1 E.2.2.2 hP hD hS 0 rfl rfl 3 (by decide) (hts (.fieldLink RX1 34 "IsleBoats$Booking" "length" "I") (by decide +kernel)) (fun _ h9 => h9) rfl hname rfl (by decide +kernel) rfl rfl (Nat.le_of_ble_eq_true rfl) dX1_init_41 (fun H locs hP hD hS => ?_)
  refine lv_aload_n hx hb dX1_init_44 rfl (lv_at hl 0 rfl) ?_
  refine lv_iload hx hb dX1_init_45 (lv_at hl 4 rfl) ?_
  refine va_putF (ws := [(r, .inr (4, [.int ((-1) : Int32), .ref sa, .int kind, .int length, .int 0, .int 0, .int 0, .int 0, .int (0 : Int32), .int (0 : Int32), .int (0 : Int32), .int ((-1) : Int32)]))]) (D := D) (cl := vwCl) (ci := 4) (v := .int weight) (ty := .int) (C := RX1) (T := TX1) (N := 12) hx hb hts hin tyX1 tyX1_ok nmX1 E.2.2.1 E.2.2.2 hP hD hS 0 rfl rfl 4 (by decide) (hts (.fieldLink RX1 37 "IsleBoats$Booking" "weight" "I") (by decide +kernel)) (fun _ h9 => h9) rfl hname rfl (by decide +kernel) rfl rfl (Nat.le_of_ble_eq_true rfl) dX1_init_47 (fun H locs hP hD hS => ?_)
  refine lv_aload_n hx hb dX1_init_50 rfl (lv_at hl 0 rfl) ?_
  refine lv_iload hx hb dX1_init_51 (lv_at hl 5 rfl) ?_
  refine va_putF (ws := [(r, .inr (4, [.int ((-1) : Int32), .ref sa, .int kind, .int length, .int weight, .int 0, .int 0, .int 0, .int (0 : Int32), .int (0 : Int32), .int (0 : Int32), .int ((-1) : Int32)]))]) (D := D) (cl := vwCl) (ci := 4) (v := .int danger) (ty := .int) (C := RX1) (T := TX1) (N := 12) hx hb hts hin tyX1 tyX1_ok nmX1 E.2.2.1 E.2.2.2 hP hD hS 0 rfl rfl 5 (by decide) (hts (.fieldLink RX1 40 "IsleBoats$Booking" "danger" "I") (by decide +kernel)) (fun _ h9 => h9) rfl hname rfl (by decide +kernel) rfl rfl (Nat.le_of_ble_eq_true rfl) dX1_init_53 (fun H locs hP hD hS => ?_)
  refine lv_aload_n hx hb dX1_init_56 rfl (lv_at hl 0 rfl) ?_
  refine lv_iload hx hb dX1_init_57 (lv_at hl 6 rfl) ?_
  refine va_putF (ws := [(r, .inr (4, [.int ((-1) : Int32), .ref sa, .int kind, .int length, .int weight, .int danger, .int 0, .int 0, .int (0 : Int32), .int (0 : Int32), .int (0 : Int32), .int ((-1) : Int32)]))]) (D := D) (cl := vwCl) (ci := 4) (v := .int urgent) (ty := .boolean) (C := RX1) (T := TX1) (N := 12) hx hb hts hin tyX1 tyX1_ok nmX1 E.2.2.1 E.2.2.2 hP hD hS 0 rfl rfl 6 (by decide) (hts (.fieldLink RX1 43 "IsleBoats$Booking" "isUrgent" "Z") (by decide +kernel)) (fun _ h9 => h9) rfl hname rfl (by decide +kernel) (isB_n h_urgent) (isB_f h_urgent) (Nat.le_of_ble_eq_true rfl) dX1_init_59 (fun H locs hP hD hS => ?_)
  refine lv_aload_n hx hb dX1_init_62 rfl (lv_at hl 0 rfl) ?_
  refine lv_iload hx hb dX1_init_63 (lv_at hl 7 rfl) ?_
  refine va_putF (ws := [(r, .inr (4, [.int ((-1) : Int32), .ref sa, .int kind, .int length, .int weight, .int danger, .int urgent, .int 0, .int (0 : Int32), .int (0 : Int32), .int (0 : Int32), .int ((-1) : Int32)]))]) (D := D) (cl := vwCl) (ci := 4) (v := .int lorry) (ty := .boolean) (C := RX1) (T := TX1) (N := 12) hx hb hts hin tyX1 tyX1_ok nmX1 E.2.2.1 E.2.2.2 hP hD hS 0 rfl rfl 7 (by decide) (hts (.fieldLink RX1 47 "IsleBoats$Booking" "isLorry" "Z") (by decide +kernel)) (fun _ h9 => h9) rfl hname rfl (by decide +kernel) (isB_n h_lorry) (isB_f h_lorry) (Nat.le_of_ble_eq_true rfl) dX1_init_65 (fun H locs hP hD hS => ?_)
  exact W.vret hx hb hr (fun t ht hW => ⟨⟨(), rfl, trivial, by rw [ht]; exact hP, va_K.moved hW.alike hK⟩, hS.F ht⟩) hS.2.2 dX1_init_68
set_option maxHeartbeats 4000000 in
set_option maxRecDepth 100000 in
theorem c_X2_init (l : Launch) {D : va_G} {cI cO : ClassId} (r : Nat) (num : Int32) (depth : Int32) (range : Int32) (phase : Int32) (lit : Int32) (h_lit : isB lit) : Met l yX2_init wsX2_init ({ frames := 1, cells := 0, slots := 0, locals := 24 }) (va_Pc [.ref r, .int num, .int depth, .int range, .int phase, .int lit] (fun U => va_P D vwCl [(r, .inr (5, [.int 0, .int 0, .int 0, .int 0, .int 0, .int 0, .int 0, .int 0, .int 0, .int 0]))] U.heap ∧ va_K D vwCl (cT cI cO) U)) (va_Qv (fun (_ : Unit) => True) (fun _ t => va_P D vwCl [(r, .inr (5, [.int num, .int depth, .int range, .int phase, .int lit, .int (0 : Int32), .int (0 : Int32), .int (0 : Int32), .int (0 : Int32), .int (0 : Int32)]))] t.heap ∧ va_K D vwCl (cT cI cO) t) (fun x => x = r)) 0 0 (fun x => x = r) := by
  refine Met.ofW (cc := cX2_init) (maxL := 6) (ret := none) (by decide) rfl ?_
  intro p e s m args below meth c s₁ B hml hv
  obtain ⟨rfl, hP, hK⟩ := hv
  have E : kE p c cX2_init s m ([.ref r, .int num, .int depth, .int range, .int phase, .int lit] : List Value).toArray wsX2_init RX2 D cI cO := ⟨⟨B.exec, B.bytes⟩, atoms_spec (ws := wsX2_init) B.pre, findClass_of_methodNamed B.named, hK⟩
  have hx := E.1.1
  have hb := E.1.2
  have hts := E.2.1
  have hr := B.returns
  have hlocks := B.notSynchronized
  have hname : meth.name = "<init>" := (name_of_methodNamed B.named B.method).1
  have hin : ∀ w ∈ u_ws RX2 TX2 10, w ∈ wsX2_init := by decide +kernel
  have hS : va_S (fun x => x = r) s.heap s.heap [] := va_S.rf
  have hD : va_D (fun x => x = r) [(r, .inr (5, [.int 0, .int 0, .int 0, .int 0, .int 0, .int 0, .int 0, .int 0, .int 0, .int 0]))] := one_D rfl
  have hR : 1 ≤ ((headSpec wsX2_init ({ frames := 1, cells := 0, slots := 0, locals := 24 })).room).frames ∧ 24 ≤ ((headSpec wsX2_init ({ frames := 1, cells := 0, slots := 0, locals := 24 })).room).locals := ⟨Nat.le_refl _, Nat.le_refl _⟩
  have hl := lv_entry ([.ref r, .int num, .int depth, .int range, .int phase, .int lit]) (n := 6) (Nat.le_of_ble_eq_true rfl)
  rw [lg_entry_eq]
  generalize (lg_sl ([.ref r, .int num, .int depth, .int range, .int phase, .int lit]) ++ List.replicate (6 - (lg_sl ([.ref r, .int num, .int depth, .int range, .int phase, .int lit])).length) Slot.unset).toArray = ls at hl ⊢
  generalize (headSpec wsX2_init ({ frames := 1, cells := 0, slots := 0, locals := 24 })).room = R at hR ⊢
  refine lv_aload_n hx hb dX2_init_0 rfl (lv_at hl 0 rfl) ?_
  refine W.objInit hx hb E.2.2.1 (idx := 3) (hts (.methodLink RX2 3 objectInit) (by decide +kernel)) (hts (.instanceMethod objectInit) (by decide +kernel)) (hts (.code objectInit ⟨#[0xb1]⟩ 1 none) (by decide +kernel)) (g := F0 m 1 ls [.ref r]) rfl (hl.1.trans hml.symm) rfl dX2_init_1 hR.1 (Nat.le_trans (Nat.le_of_ble_eq_true rfl) hR.2) ?_
  show W p l e R s m _ below meth c _ _ 0 0 _ (F0 m 4 ls [])
  refine lv_aload_n hx hb dX2_init_4 rfl (lv_at hl 0 rfl) ?_
  refine lv_iconst (v := 0) hx hb dX2_init_5 (by decide) ?_
  refine va_put (ws := [(r, .inr (5, [.int 0, .int 0, .int 0, .int 0, .int 0, .int 0, .int 0, .int 0, .int 0, .int 0]))]) (D := D) (cl := vwCl) (ci := 5) (v := .int (0 : Int32)) (ty := .int) (C := RX2) (T := TX2) (N := 10) hx hb hts hin tyX2 tyX2_ok nmX2 E.2.2.1 E.2.2.2 hP hD hS 0 rfl rfl 5 (by decide) (hts (.fieldLink RX2 9 "IsleBoats$Pier" "swell" "I") (by decide +kernel)) (fun _ h9 => h9) rfl (by decide +kernel) rfl rfl (Nat.le_of_ble_eq_true rfl) dX2_init_6 (fun H locs hP hD hS => ?_)
  refine lv_aload_n hx hb dX2_init_9 rfl (lv_at hl 0 rfl) ?_
  refine lv_iconst (v := 0) hx hb dX2_init_10 (by decide) ?_
  refine va_put (ws := [(r, .inr (5, [.int 0, .int 0, .int 0, .int 0, .int 0, .int (0 : Int32), .int 0, .int 0, .int 0, .int 0]))]) (D := D) (cl := vwCl) (ci := 5) (v := .int (0 : Int32)) (ty := .int) (C := RX2) (T := TX2) (N := 10) hx hb hts hin tyX2 tyX2_ok nmX2 E.2.2.1 E.2.2.2 hP hD hS 0 rfl rfl 6 (by decide) (hts (.fieldLink RX2 15 "IsleBoats$Pier" "lastArrival" "I") (by decide +kernel)) (fun _ h9 => h9) rfl (by decide +kernel) rfl rfl (Nat.le_of_ble_eq_true rfl) dX2_init_11 (fun H locs hP hD hS => ?_)
  refine lv_aload_n hx hb dX2_init_14 rfl (lv_at hl 0 rfl) ?_
  refine lv_iconst (v := 0) hx hb dX2_init_15 (by decide) ?_
  refine va_put (ws := [(r, .inr (5, [.int 0, .int 0, .int 0, .int 0, .int 0, .int (0 : Int32), .int (0 : Int32), .int 0, .int 0, .int 0]))]) (D := D) (cl := vwCl) (ci := 5) (v := .int (0 : Int32)) (ty := .int) (C := RX2) (T := TX2) (N := 10) hx hb hts hin tyX2 tyX2_ok nmX2 E.2.2.1 E.2.2.2 hP hD hS 0 rfl rfl 7 (by decide) (hts (.fieldLink RX2 18 "IsleBoats$Pier" "cause" "I") (by decide +kernel)) (fun _ h9 => h9) rfl (by decide +kernel) rfl rfl (Nat.le_of_ble_eq_true rfl) dX2_init_16 (fun H locs hP hD hS => ?_)
  refine lv_aload_n hx hb dX2_init_19 rfl (lv_at hl 0 rfl) ?_
  refine lv_iconst (v := 0) hx hb dX2_init_20 (by decide) ?_
  refine va_put (ws := [(r, .inr (5, [.int 0, .int 0, .int 0, .int 0, .int 0, .int (0 : Int32), .int (0 : Int32), .int (0 : Int32), .int 0, .int 0]))]) (D := D) (cl := vwCl) (ci := 5) (v := .int (0 : Int32)) (ty := .int) (C := RX2) (T := TX2) (N := 10) hx hb hts hin tyX2 tyX2_ok nmX2 E.2.2.1 E.2.2.2 hP hD hS 0 rfl rfl 8 (by decide) (hts (.fieldLink RX2 21 "IsleBoats$Pier" "longestEnded" "I") (by decide +kernel)) (fun _ h9 => h9) rfl (by decide +kernel) rfl rfl (Nat.le_of_ble_eq_true rfl) dX2_init_21 (fun H locs hP hD hS => ?_)
  refine lv_aload_n hx hb dX2_init_24 rfl (lv_at hl 0 rfl) ?_
  refine lv_iconst (v := 0) hx hb dX2_init_25 (by decide) ?_
  refine va_put (ws := [(r, .inr (5, [.int 0, .int 0, .int 0, .int 0, .int 0, .int (0 : Int32), .int (0 : Int32), .int (0 : Int32), .int (0 : Int32), .int 0]))]) (D := D) (cl := vwCl) (ci := 5) (v := .int (0 : Int32)) (ty := .int) (C := RX2) (T := TX2) (N := 10) hx hb hts hin tyX2 tyX2_ok nmX2 E.2.2.1 E.2.2.2 hP hD hS 0 rfl rfl 9 (by decide) (hts (.fieldLink RX2 24 "IsleBoats$Pier" "causeOfLongestEnded" "I") (by decide +kernel)) (fun _ h9 => h9) rfl (by decide +kernel) rfl rfl (Nat.le_of_ble_eq_true rfl) dX2_init_26 (fun H locs hP hD hS => ?_)
  refine lv_aload_n hx hb dX2_init_29 rfl (lv_at hl 0 rfl) ?_
  refine lv_iload_n hx hb dX2_init_30 rfl (lv_at hl 1 rfl) ?_
  refine va_putF (ws := [(r, .inr (5, [.int 0, .int 0, .int 0, .int 0, .int 0, .int (0 : Int32), .int (0 : Int32), .int (0 : Int32), .int (0 : Int32), .int (0 : Int32)]))]) (D := D) (cl := vwCl) (ci := 5) (v := .int num) (ty := .int) (C := RX2) (T := TX2) (N := 10) hx hb hts hin tyX2 tyX2_ok nmX2 E.2.2.1 E.2.2.2 hP hD hS 0 rfl rfl 0 (by decide) (hts (.fieldLink RX2 27 "IsleBoats$Pier" "number" "I") (by decide +kernel)) (fun _ h9 => h9) rfl hname rfl (by decide +kernel) rfl rfl (Nat.le_of_ble_eq_true rfl) dX2_init_31 (fun H locs hP hD hS => ?_)
  refine lv_aload_n hx hb dX2_init_34 rfl (lv_at hl 0 rfl) ?_
  refine lv_iload_n hx hb dX2_init_35 rfl (lv_at hl 2 rfl) ?_
  refine va_putF (ws := [(r, .inr (5, [.int num, .int 0, .int 0, .int 0, .int 0, .int (0 : Int32), .int (0 : Int32), .int (0 : Int32), .int (0 : Int32), .int (0 : Int32)]))]) (D := D) (cl := vwCl) (ci := 5) (v := .int depth) (ty := .int) (C := RX2) (T := TX2) (N := 10) hx hb hts hin tyX2 tyX2_ok nmX2 E.2.2.1 E.2.2.2 hP hD hS 0 rfl rfl 1 (by decide) (hts (.fieldLink RX2 30 "IsleBoats$Pier" "depth" "I") (by decide +kernel)) (fun _ h9 => h9) rfl hname rfl (by decide +kernel) rfl rfl (Nat.le_of_ble_eq_true rfl) dX2_init_36 (fun H locs hP hD hS => ?_)
  refine lv_aload_n hx hb dX2_init_39 rfl (lv_at hl 0 rfl) ?_
  refine lv_iload_n hx hb dX2_init_40 rfl (lv_at hl 3 rfl) ?_
  refine va_putF (ws := [(r, .inr (5, [.int num, .int depth, .int 0, .int 0, .int 0, .int (0 : Int32), .int (0 : Int32), .int (0 : Int32), .int (0 : Int32), .int (0 : Int32)]))]) (D := D) (cl := vwCl) (ci := 5) (v := .int range) (ty := .int) (C := RX2) (T := TX2) (N := 10) hx hb hts hin tyX2 tyX2_ok nmX2 E.2.2.1 E.2.2.2 hP hD hS 0 rfl rfl 2 (by decide) (hts (.fieldLink RX2 33 "IsleBoats$Pier" "range" "I") (by decide +kernel)) (fun _ h9 => h9) rfl hname rfl (by decide +kernel) rfl rfl (Nat.le_of_ble_eq_true rfl) dX2_init_41 (fun H locs hP hD hS => ?_)
  refine lv_aload_n hx hb dX2_init_44 rfl (lv_at hl 0 rfl) ?_
  refine lv_iload hx hb dX2_init_45 (lv_at hl 4 rfl) ?_
  refine va_putF (ws := [(r, .inr (5, [.int num, .int depth, .int range, .int 0, .int 0, .int (0 : Int32), .int (0 : Int32), .int (0 : Int32), .int (0 : Int32), .int (0 : Int32)]))]) (D := D) (cl := vwCl) (ci := 5) (v := .int phase) (ty := .int) (C := RX2) (T := TX2) (N := 10) hx hb hts hin tyX2 tyX2_ok nmX2 E.2.2.1 E.2.2.2 hP hD hS 0 rfl rfl 3 (by decide) (hts (.fieldLink RX2 36 "IsleBoats$Pier" "phase" "I") (by decide +kernel)) (fun _ h9 => h9) rfl hname rfl (by decide +kernel) rfl rfl (Nat.le_of_ble_eq_true rfl) dX2_init_47 (fun H locs hP hD hS => ?_)
  refine lv_aload_n hx hb dX2_init_50 rfl (lv_at hl 0 rfl) ?_
  refine lv_iload hx hb dX2_init_51 (lv_at hl 5 rfl) ?_
  refine va_putF (ws := [(r, .inr (5, [.int num, .int depth, .int range, .int phase, .int 0, .int (0 : Int32), .int (0 : Int32), .int (0 : Int32), .int (0 : Int32), .int (0 : Int32)]))]) (D := D) (cl := vwCl) (ci := 5) (v := .int lit) (ty := .boolean) (C := RX2) (T := TX2) (N := 10) hx hb hts hin tyX2 tyX2_ok nmX2 E.2.2.1 E.2.2.2 hP hD hS 0 rfl rfl 4 (by decide) (hts (.fieldLink RX2 39 "IsleBoats$Pier" "isLit" "Z") (by decide +kernel)) (fun _ h9 => h9) rfl hname rfl (by decide +kernel) (isB_n h_lit) (isB_f h_lit) (Nat.le_of_ble_eq_true rfl) dX2_init_53 (fun H locs hP hD hS => ?_)
  exact W.vret hx hb hr (fun t ht hW => ⟨⟨(), rfl, trivial, by rw [ht]; exact hP, va_K.moved hW.alike hK⟩, hS.F ht⟩) hS.2.2 dX2_init_56
set_option maxHeartbeats 4000000 in
set_option maxRecDepth 100000 in
theorem c_X0_init (l : Launch) {D : va_G} {cI cO : ClassId} (r : Nat) (num : Int32) (draught : Int32) (length : Int32) (weight : Int32) (trim : Int32) (swell : Int32) (piers : Int32) : Met l yX0_init wsX0_init ({ frames := 1, cells := 0, slots := 0, locals := 24 }) (va_Pc [.ref r, .int num, .int draught, .int length, .int weight, .int trim, .int swell, .int piers] (fun U => va_P D vwCl [(r, .inr (3, [.int 0, .int 0, .int 0, .int 0, .int 0, .int 0, .int 0, .int 0, .int 0]))] U.heap ∧ va_K D vwCl (cT cI cO) U)) (va_Qv (fun (_ : Unit) => True) (fun _ t => va_P D vwCl [(r, .inr (3, [.int num, .int draught, .int length, .int weight, .int trim, .int swell, .int piers, .int ((-1) : Int32), .int (0 : Int32)]))] t.heap ∧ va_K D vwCl (cT cI cO) t) (fun x => x = r)) 0 0 (fun x => x = r) := by
  refine Met.ofW (cc := cX0_init) (maxL := 8) (ret := none) (by decide) rfl ?_
  intro p e s m args below meth c s₁ B hml hv
  obtain ⟨rfl, hP, hK⟩ := hv
  have E : kE p c cX0_init s m ([.ref r, .int num, .int draught, .int length, .int weight, .int trim, .int swell, .int piers] : List Value).toArray wsX0_init RX0 D cI cO := ⟨⟨B.exec, B.bytes⟩, atoms_spec (ws := wsX0_init) B.pre, findClass_of_methodNamed B.named, hK⟩
  have hx := E.1.1
  have hb := E.1.2
  have hts := E.2.1
  have hr := B.returns
  have hlocks := B.notSynchronized
  have hname : meth.name = "<init>" := (name_of_methodNamed B.named B.method).1
  have hin : ∀ w ∈ u_ws RX0 TX0 9, w ∈ wsX0_init := by decide +kernel
  have hS : va_S (fun x => x = r) s.heap s.heap [] := va_S.rf
  have hD : va_D (fun x => x = r) [(r, .inr (3, [.int 0, .int 0, .int 0, .int 0, .int 0, .int 0, .int 0, .int 0, .int 0]))] := one_D rfl
  have hR : 1 ≤ ((headSpec wsX0_init ({ frames := 1, cells := 0, slots := 0, locals := 24 })).room).frames ∧ 24 ≤ ((headSpec wsX0_init ({ frames := 1, cells := 0, slots := 0, locals := 24 })).room).locals := ⟨Nat.le_refl _, Nat.le_refl _⟩
  have hl := lv_entry ([.ref r, .int num, .int draught, .int length, .int weight, .int trim, .int swell, .int piers]) (n := 8) (Nat.le_of_ble_eq_true rfl)
  rw [lg_entry_eq]
  generalize (lg_sl ([.ref r, .int num, .int draught, .int length, .int weight, .int trim, .int swell, .int piers]) ++ List.replicate (8 - (lg_sl ([.ref r, .int num, .int draught, .int length, .int weight, .int trim, .int swell, .int piers])).length) Slot.unset).toArray = ls at hl ⊢
  generalize (headSpec wsX0_init ({ frames := 1, cells := 0, slots := 0, locals := 24 })).room = R at hR ⊢
  refine lv_aload_n hx hb dX0_init_0 rfl (lv_at hl 0 rfl) ?_
  refine W.objInit hx hb E.2.2.1 (idx := 3) (hts (.methodLink RX0 3 objectInit) (by decide +kernel)) (hts (.instanceMethod objectInit) (by decide +kernel)) (hts (.code objectInit ⟨#[0xb1]⟩ 1 none) (by decide +kernel)) (g := F0 m 1 ls [.ref r]) rfl (hl.1.trans hml.symm) rfl dX0_init_1 hR.1 (Nat.le_trans (Nat.le_of_ble_eq_true rfl) hR.2) ?_
  show W p l e R s m _ below meth c _ _ 0 0 _ (F0 m 4 ls [])
  refine lv_aload_n hx hb dX0_init_4 rfl (lv_at hl 0 rfl) ?_
  refine lv_iconst (v := -1) hx hb dX0_init_5 (by decide) ?_
  refine va_put (ws := [(r, .inr (3, [.int 0, .int 0, .int 0, .int 0, .int 0, .int 0, .int 0, .int 0, .int 0]))]) (D := D) (cl := vwCl) (ci := 3) (v := .int ((-1) : Int32)) (ty := .int) (C := RX0) (T := TX0) (N := 9) hx hb hts hin tyX0 tyX0_ok nmX0 E.2.2.1 E.2.2.2 hP hD hS 0 rfl rfl 7 (by decide) (hts (.fieldLink RX0 9 "IsleBoats$Boat" "pier" "I") (by decide +kernel)) (fun _ h9 => h9) rfl (by decide +kernel) rfl rfl (Nat.le_of_ble_eq_true rfl) dX0_init_6 (fun H locs hP hD hS => ?_)
  refine lv_aload_n hx hb dX0_init_9 rfl (lv_at hl 0 rfl) ?_
  refine lv_iconst (v := 0) hx hb dX0_init_10 (by decide) ?_
  refine va_put (ws := [(r, .inr (3, [.int 0, .int 0, .int 0, .int 0, .int 0, .int 0, .int 0, .int ((-1) : Int32), .int 0]))]) (D := D) (cl := vwCl) (ci := 3) (v := .int (0 : Int32)) (ty := .boolean) (C := RX0) (T := TX0) (N := 9) hx hb hts hin tyX0 tyX0_ok nmX0 E.2.2.1 E.2.2.2 hP hD hS 0 rfl rfl 8 (by decide) (hts (.fieldLink RX0 15 "IsleBoats$Boat" "isBroken" "Z") (by decide +kernel)) (fun _ h9 => h9) rfl (by decide +kernel) rfl rfl (Nat.le_of_ble_eq_true rfl) dX0_init_11 (fun H locs hP hD hS => ?_)
  refine lv_aload_n hx hb dX0_init_14 rfl (lv_at hl 0 rfl) ?_
  refine lv_iload_n hx hb dX0_init_15 rfl (lv_at hl 1 rfl) ?_
  refine va_putF (ws := [(r, .inr (3, [.int 0, .int 0, .int 0, .int 0, .int 0, .int 0, .int 0, .int ((-1) : Int32), .int (0 : Int32)]))]) (D := D) (cl := vwCl) (ci := 3) (v := .int num) (ty := .int) (C := RX0) (T := TX0) (N := 9) hx hb hts hin tyX0 tyX0_ok nmX0 E.2.2.1 E.2.2.2 hP hD hS 0 rfl rfl 0 (by decide) (hts (.fieldLink RX0 19 "IsleBoats$Boat" "number" "I") (by decide +kernel)) (fun _ h9 => h9) rfl hname rfl (by decide +kernel) rfl rfl (Nat.le_of_ble_eq_true rfl) dX0_init_16 (fun H locs hP hD hS => ?_)
  refine lv_aload_n hx hb dX0_init_19 rfl (lv_at hl 0 rfl) ?_
  refine lv_iload_n hx hb dX0_init_20 rfl (lv_at hl 2 rfl) ?_
  refine va_putF (ws := [(r, .inr (3, [.int num, .int 0, .int 0, .int 0, .int 0, .int 0, .int 0, .int ((-1) : Int32), .int (0 : Int32)]))]) (D := D) (cl := vwCl) (ci := 3) (v := .int draught) (ty := .int) (C := RX0) (T := TX0) (N := 9) hx hb hts hin tyX0 tyX0_ok nmX0 E.2.2.1 E.2.2.2 hP hD hS 0 rfl rfl 1 (by decide) (hts (.fieldLink RX0 22 "IsleBoats$Boat" "draught" "I") (by decide +kernel)) (fun _ h9 => h9) rfl hname rfl (by decide +kernel) rfl rfl (Nat.le_of_ble_eq_true rfl) dX0_init_21 (fun H locs hP hD hS => ?_)
  refine lv_aload_n hx hb dX0_init_24 rfl (lv_at hl 0 rfl) ?_
  refine lv_iload_n hx hb dX0_init_25 rfl (lv_at hl 3 rfl) ?_
  refine va_putF (ws := [(r, .inr (3, [.int num, .int draught, .int 0, .int 0, .int 0, .int 0, .int 0, .int ((-1) : Int32), .int (0 : Int32)]))]) (D := D) (cl := vwCl) (ci := 3) (v := .int length) (ty := .int) (C := RX0) (T := TX0) (N := 9) hx hb hts hin tyX0 tyX0_ok nmX0 E.2.2.1 E.2.2.2 hP hD hS 0 rfl rfl 2 (by decide) (hts (.fieldLink RX0 25 "IsleBoats$Boat" "length" "I") (by decide +kernel)) (fun _ h9 => h9) rfl hname rfl (by decide +kernel) rfl rfl (Nat.le_of_ble_eq_true rfl) dX0_init_26 (fun H locs hP hD hS => ?_)
  refine lv_aload_n hx hb dX0_init_29 rfl (lv_at hl 0 rfl) ?_
  refine lv_iload hx hb dX0_init_30 (lv_at hl 4 rfl) ?_
  refine va_putF (ws := [(r, .inr (3, [.int num, .int draught, .int length, .int 0, .int 0, .int 0, .int 0, .int ((-1) : Int32), .int (0 : Int32)]))]) (D := D) (cl := vwCl) (ci := 3) (v := .int weight) (ty := .int) (C := RX0) (T := TX0) (N := 9) hx hb hts hin tyX0 tyX0_ok nmX0 E.2.2.1 E.2.2.2 hP hD hS 0 rfl rfl 3 (by decide) (hts (.fieldLink RX0 28 "IsleBoats$Boat" "weight" "I") (by decide +kernel)) (fun _ h9 => h9) rfl hname rfl (by decide +kernel) rfl rfl (Nat.le_of_ble_eq_true rfl) dX0_init_32 (fun H locs hP hD hS => ?_)
  refine lv_aload_n hx hb dX0_init_35 rfl (lv_at hl 0 rfl) ?_
  refine lv_iload hx hb dX0_init_36 (lv_at hl 5 rfl) ?_
  refine va_putF (ws := [(r, .inr (3, [.int num, .int draught, .int length, .int weight, .int 0, .int 0, .int 0, .int ((-1) : Int32), .int (0 : Int32)]))]) (D := D) (cl := vwCl) (ci := 3) (v := .int trim) (ty := .int) (C := RX0) (T := TX0) (N := 9) hx hb hts hin tyX0 tyX0_ok nmX0 E.2.2.1 E.2.2.2 hP hD hS 0 rfl rfl 4 (by decide) (hts (.fieldLink RX0 31 "IsleBoats$Boat" "trim" "I") (by decide +kernel)) (fun _ h9 => h9) rfl hname rfl (by decide +kernel) rfl rfl (Nat.le_of_ble_eq_true rfl) dX0_init_38 (fun H locs hP hD hS => ?_)
  refine lv_aload_n hx hb dX0_init_41 rfl (lv_at hl 0 rfl) ?_
  refine lv_iload hx hb dX0_init_42 (lv_at hl 6 rfl) ?_
  refine va_putF (ws := [(r, .inr (3, [.int num, .int draught, .int length, .int weight, .int trim, .int 0, .int 0, .int ((-1) : Int32), .int (0 : Int32)]))]) (D := D) (cl := vwCl) (ci := 3) (v := .int swell) (ty := .int) (C := RX0) (T := TX0) (N := 9) hx hb hts hin tyX0 tyX0_ok nmX0 E.2.2.1 E.2.2.2 hP hD hS 0 rfl rfl 5 (by decide) (hts (.fieldLink RX0 34 "IsleBoats$Boat" "swell" "I") (by decide +kernel)) (fun _ h9 => h9) rfl hname rfl (by decide +kernel) rfl rfl (Nat.le_of_ble_eq_true rfl) dX0_init_44 (fun H locs hP hD hS => ?_)
  refine lv_aload_n hx hb dX0_init_47 rfl (lv_at hl 0 rfl) ?_
  refine lv_iload hx hb dX0_init_48 (lv_at hl 7 rfl) ?_
  refine va_putF (ws := [(r, .inr (3, [.int num, .int draught, .int length, .int weight, .int trim, .int swell, .int 0, .int ((-1) : Int32), .int (0 : Int32)]))]) (D := D) (cl := vwCl) (ci := 3) (v := .int piers) (ty := .int) (C := RX0) (T := TX0) (N := 9) hx hb hts hin tyX0 tyX0_ok nmX0 E.2.2.1 E.2.2.2 hP hD hS 0 rfl rfl 6 (by decide) (hts (.fieldLink RX0 37 "IsleBoats$Boat" "piers" "I") (by decide +kernel)) (fun _ h9 => h9) rfl hname rfl (by decide +kernel) rfl rfl (Nat.le_of_ble_eq_true rfl) dX0_init_50 (fun H locs hP hD hS => ?_)
  exact W.vret hx hb hr (fun t ht hW => ⟨⟨(), rfl, trivial, by rw [ht]; exact hP, va_K.moved hW.alike hK⟩, hS.F ht⟩) hS.2.2 dX0_init_53
set_option maxHeartbeats 4000000 in
set_option maxRecDepth 100000 in
theorem c_X4_init (l : Launch) {D : va_G} {cI cO : ClassId} (r : Nat) (num : Int32) : Met l yX4_init wsX4_init ({ frames := 1, cells := 0, slots := 0, locals := 24 }) (va_Pc [.ref r, .int num] (fun U => va_P D vwCl [(r, .inr (7, [.int 0, .int 0, .int 0]))] U.heap ∧ va_K D vwCl (cT cI cO) U)) (va_Qv (fun (_ : Unit) => True) (fun _ t => va_P D vwCl [(r, .inr (7, [.int num, .int (0 : Int32), .int (0 : Int32)]))] t.heap ∧ va_K D vwCl (cT cI cO) t) (fun x => x = r)) 0 0 (fun x => x = r) := by
  refine Met.ofW (cc := cX4_init) (maxL := 2) (ret := none) (by decide) rfl ?_
  intro p e s m args below meth c s₁ B hml hv
  obtain ⟨rfl, hP, hK⟩ := hv
  have E : kE p c cX4_init s m ([.ref r, .int num] : List Value).toArray wsX4_init RX4 D cI cO := ⟨⟨B.exec, B.bytes⟩, atoms_spec (ws := wsX4_init) B.pre, findClass_of_methodNamed B.named, hK⟩
  have hx := E.1.1
  have hb := E.1.2
  have hts := E.2.1
  have hr := B.returns
  have hlocks := B.notSynchronized
  have hname : meth.name = "<init>" := (name_of_methodNamed B.named B.method).1
  have hin : ∀ w ∈ u_ws RX4 TX4 3, w ∈ wsX4_init := by decide +kernel
  have hS : va_S (fun x => x = r) s.heap s.heap [] := va_S.rf
  have hD : va_D (fun x => x = r) [(r, .inr (7, [.int 0, .int 0, .int 0]))] := one_D rfl
  have hR : 1 ≤ ((headSpec wsX4_init ({ frames := 1, cells := 0, slots := 0, locals := 24 })).room).frames ∧ 24 ≤ ((headSpec wsX4_init ({ frames := 1, cells := 0, slots := 0, locals := 24 })).room).locals := ⟨Nat.le_refl _, Nat.le_refl _⟩
  have hl := lv_entry ([.ref r, .int num]) (n := 2) (Nat.le_of_ble_eq_true rfl)
  rw [lg_entry_eq]
  generalize (lg_sl ([.ref r, .int num]) ++ List.replicate (2 - (lg_sl ([.ref r, .int num])).length) Slot.unset).toArray = ls at hl ⊢
  generalize (headSpec wsX4_init ({ frames := 1, cells := 0, slots := 0, locals := 24 })).room = R at hR ⊢
  refine lv_aload_n hx hb dX4_init_0 rfl (lv_at hl 0 rfl) ?_
  refine W.objInit hx hb E.2.2.1 (idx := 1) (hts (.methodLink RX4 1 objectInit) (by decide +kernel)) (hts (.instanceMethod objectInit) (by decide +kernel)) (hts (.code objectInit ⟨#[0xb1]⟩ 1 none) (by decide +kernel)) (g := F0 m 1 ls [.ref r]) rfl (hl.1.trans hml.symm) rfl dX4_init_1 hR.1 (Nat.le_trans (Nat.le_of_ble_eq_true rfl) hR.2) ?_
  show W p l e R s m _ below meth c _ _ 0 0 _ (F0 m 4 ls [])
  refine lv_aload_n hx hb dX4_init_4 rfl (lv_at hl 0 rfl) ?_
  refine lv_iconst (v := 0) hx hb dX4_init_5 (by decide) ?_
  refine va_put (ws := [(r, .inr (7, [.int 0, .int 0, .int 0]))]) (D := D) (cl := vwCl) (ci := 7) (v := .int (0 : Int32)) (ty := .int) (C := RX4) (T := TX4) (N := 3) hx hb hts hin tyX4 tyX4_ok nmX4 E.2.2.1 E.2.2.2 hP hD hS 0 rfl rfl 1 (by decide) (hts (.fieldLink RX4 7 "IsleBoats$Side" "weight" "I") (by decide +kernel)) (fun _ h9 => h9) rfl (by decide +kernel) rfl rfl (Nat.le_of_ble_eq_true rfl) dX4_init_6 (fun H locs hP hD hS => ?_)
  refine lv_aload_n hx hb dX4_init_9 rfl (lv_at hl 0 rfl) ?_
  refine lv_iconst (v := 0) hx hb dX4_init_10 (by decide) ?_
  refine va_put (ws := [(r, .inr (7, [.int 0, .int (0 : Int32), .int 0]))]) (D := D) (cl := vwCl) (ci := 7) (v := .int (0 : Int32)) (ty := .int) (C := RX4) (T := TX4) (N := 3) hx hb hts hin tyX4 tyX4_ok nmX4 E.2.2.1 E.2.2.2 hP hD hS 0 rfl rfl 2 (by decide) (hts (.fieldLink RX4 13 "IsleBoats$Side" "length" "I") (by decide +kernel)) (fun _ h9 => h9) rfl (by decide +kernel) rfl rfl (Nat.le_of_ble_eq_true rfl) dX4_init_11 (fun H locs hP hD hS => ?_)
  refine lv_aload_n hx hb dX4_init_14 rfl (lv_at hl 0 rfl) ?_
  refine lv_iload_n hx hb dX4_init_15 rfl (lv_at hl 1 rfl) ?_
  refine va_putF (ws := [(r, .inr (7, [.int 0, .int (0 : Int32), .int (0 : Int32)]))]) (D := D) (cl := vwCl) (ci := 7) (v := .int num) (ty := .int) (C := RX4) (T := TX4) (N := 3) hx hb hts hin tyX4 tyX4_ok nmX4 E.2.2.1 E.2.2.2 hP hD hS 0 rfl rfl 0 (by decide) (hts (.fieldLink RX4 16 "IsleBoats$Side" "number" "I") (by decide +kernel)) (fun _ h9 => h9) rfl hname rfl (by decide +kernel) rfl rfl (Nat.le_of_ble_eq_true rfl) dX4_init_16 (fun H locs hP hD hS => ?_)
  exact W.vret hx hb hr (fun t ht hW => ⟨⟨(), rfl, trivial, by rw [ht]; exact hP, va_K.moved hW.alike hK⟩, hS.F ht⟩) hS.2.2 dX4_init_19
