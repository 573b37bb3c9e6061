/-! THROWS: what a throw asks of the state, and the four need.. methods -/
def xstr : List (Nat × String) := [(82, "a boat can't relieve itself"), (96, "a sailing goes to another pier"), (176, "there is no such place"), (200, "there is no such number"), (202, "an argument is out of range"), (206, "there are no more than these"), (209, "the sailing is not planned any more")]
def xwd : List Cond := [.castable "java/lang/IllegalArgumentException" "java/lang/IllegalArgumentException", .castable "java/lang/IllegalStateException" "java/lang/IllegalStateException", .castable "java/lang/IndexOutOfBoundsException" "java/lang/IndexOutOfBoundsException", .declares (Bundle.initS "java/lang/RuntimeException"), .declares (Bundle.initS "java/lang/Exception"), .declares (Bundle.initS Bundle.tN)]
theorem xwd_on : ∀ w ∈ xwd, w.onTables = true := by decide +kernel
theorem xwd_warm {s U : State} (hW : s.WarmedH U.vm) (h : ∀ w ∈ xwd, va_Nw w s) : ∀ w ∈ xwd, va_Nw w U := by
  intro w hw
  have k := h w hw
  simp only [xwd, List.mem_cons, List.not_mem_nil, or_false] at hw
  rcases hw with rfl | rfl | rfl | rfl | rfl | rfl
  · exact k.warmC hW
  · exact k.warmC hW
  · exact k.warmC hW
  · exact k.warmD hW
  · exact k.warmD hW
  · exact k.warmD hW
def cX (A : Nat → Prop) (U : State) : Prop := vx_Zq Bundle.tN "UNASSIGNED_STACK" Bundle.steD A U U.heap ∧ vx_Zq Bundle.tN "SUPPRESSED_SENTINEL" Bundle.listD A U U.heap ∧ (∀ q ∈ xstr, ∃ a, vk_R RX5 q.1 q.2 a U) ∧ (∀ w ∈ xwd, va_Nw w U) ∧ (∀ a : Nat, U.heap.size ≤ a → A a)
theorem cX_at {A : Nat → Prop} {s U : State} {H : Heap} {locs : List Loc} (h : cX A s) (hS : va_S A s.heap H locs) (hU : U.heap = H) (hW : s.WarmedH U.vm) : cX A U := by
  obtain ⟨h1, h2, h3, h4, h7⟩ := h
  have k : ∀ a : Nat, a < s.heap.size → ¬ A a → U.heap[a]? = s.heap[a]? := fun a q w => by rw [hU]; exact hS.2.1 a q w
  exact ⟨(h1.kept k).moved hW.alike, (h2.kept k).moved hW.alike, fun q hq => (h3 q hq).elim fun a w => ⟨a, w.warm hW⟩, xwd_warm hW h4, fun a q => h7 a (Nat.le_trans hS.1 (by rw [← hU]; exact q))⟩
def cUX (D : va_G) (cI cO : ClassId) (A : Nat → Prop) (g : Gh) (cap N : Nat → Nat) (τ : St) (U : State) : Prop := cU D cI cO A g cap N τ U ∧ cX A U
theorem xBl {D : va_G} {cI cO : ClassId} {A : Nat → Prop} {g : Gh} {cap N : Nat → Nat} {τ : St} {av : List Value} : FrameBlind (va_Pc av (cUX D cI cO A g cap N τ)) := fun a U g mk q => ⟨q.1, ⟨q.2.1.1, va_K.moved (u := U) (U := U.calling g mk a) (Vm.Alike.refl U.vm) q.2.1.2⟩, q.2.2.1.moved (u := U) (U := U.calling g mk a) (Vm.Alike.refl U.vm), q.2.2.2.1.moved (u := U) (U := U.calling g mk a) (Vm.Alike.refl U.vm), fun z hz => (q.2.2.2.2.1 z hz).elim fun b w => ⟨b, w.same rfl⟩, fun w hw => va_Nw.same (u := U) (U := U.calling g mk a) (xwd_on w hw) rfl (q.2.2.2.2.2.1 w hw), q.2.2.2.2.2.2⟩
set_option maxHeartbeats 1000000 in
set_option maxRecDepth 100000 in
theorem c_X5_needNumber (l : Launch) (hst : l.stackTraces = false) {D : va_G} {A : Nat → Prop} {cI cO : ClassId} {g : Gh} {cap N : Nat → Nat} (σ : St) (x : Int32) (n : Int32) : vx_Met l yX5_needNumber wsX5_needNumber ({ frames := 6, cells := 1, slots := 6, locals := 82 }) (va_Pc [.int x, .int n] (cUX D cI cO A g cap N σ)) (va_Qv (fun (_ : Unit) => ¬ x < 0 ∧ x < n) (fun _ t => cU D cI cO A g cap N σ t) A) (vx_X (fun (_ : Unit) => ¬ (¬ x < 0 ∧ x < n)) (fun E _ t => E = "java/lang/IndexOutOfBoundsException" ∧ cU D cI cO A g cap N σ t) A) 1 6 A := by
  refine vx_ofW (cc := cX5_needNumber) (maxL := 2) (ret := none) (by decide) rfl ?_
  intro p e s m args below meth c s₁ B hml htab hv
  obtain ⟨rfl, ⟨hP, hK⟩, hX⟩ := hv
  have E : kE p c cX5_needNumber s m ([.int x, .int n] : List Value).toArray wsX5_needNumber RX5 D cI cO := ⟨⟨B.exec, B.bytes⟩, atoms_spec (ws := wsX5_needNumber) B.pre, findClass_of_methodNamed B.named, hK⟩
  have hx := E.1.1
  have hb := E.1.2
  have hts := E.2.1
  have hr := B.returns
  have hlocks := B.notSynchronized
  have hS : va_S A s.heap s.heap [] := va_S.rf
  have hl := lv_entry ([.int x, .int n]) (n := 2) (Nat.le_of_ble_eq_true rfl)
  rw [lg_entry_eq]
  generalize (lg_sl ([.int x, .int n]) ++ List.replicate (2 - (lg_sl ([.int x, .int n])).length) Slot.unset).toArray = ls at hl ⊢
  have thr : ¬ (¬ x < 0 ∧ x < n) → ∀ rest : List Value, rest = [] → W p l e (headSpec wsX5_needNumber ({ frames := 6, cells := 1, slots := 6, locals := 82 })).room s m ([.int x, .int n] : List Value).toArray below meth c s.heap [] 0 0 (vx_MQ below (va_Qv (fun (_ : Unit) => ¬ x < 0 ∧ x < n) (fun _ t => cU D cI cO A g cap N σ t) A) (vx_X (fun (_ : Unit) => ¬ (¬ x < 0 ∧ x < n)) (fun E _ t => E = "java/lang/IndexOutOfBoundsException" ∧ cU D cI cO A g cap N σ t) A) ([.int x, .int n] : List Value).toArray s 1 6 A) (F0 m 9 ls rest) := by
    intro hbad rest hrest
    subst hrest
    obtain ⟨sa, hsa⟩ := hX.2.2.1 (200, "there is no such number") (by decide +kernel)
    exact vx_throwS (cls := "java/lang/IndexOutOfBoundsException") (text := "there is no such number") (names := ["java/lang/RuntimeException", "java/lang/Exception"]) (ik := 174) (is := 200) (ic := 178) (sa := sa) (A := A) hx hb hst E.2.2.1 (by decide +kernel) (by decide +kernel) (hts (.classLink RX5 174 "java/lang/IndexOutOfBoundsException") (by decide +kernel)) (hts (.initialized "java/lang/IndexOutOfBoundsException") (by decide +kernel)) hsa (vx_hat (B := xwd) (fun w hw => hts w (List.mem_cons_of_mem _ (List.mem_append_right _ hw))) (by decide +kernel) (fun w hw => (hX.2.2.2.1 w hw).use (xwd_on w hw))) (by decide +kernel) hX.1 hX.2.1 hS (hl.1.trans hml.symm) dX5_needNumber_9 dX5_needNumber_12 dX5_needNumber_13 dX5_needNumber_15 dX5_needNumber_18 (fun x hx => (htab x hx).elim) (Nat.le_of_ble_eq_true rfl) (Nat.le_of_ble_eq_true rfl) (Nat.le_of_ble_eq_true rfl) (Nat.le_of_ble_eq_true rfl) hlocks (fun t hA hz hk => ⟨(), hbad, ⟨rfl, cP_kept hP (fun q hq _ => hk q hq), va_K.moved hA hK⟩, hz, fun q hq _ => hk q hq⟩) (fun z hz => by cases hz) (Nat.le_refl _) (Nat.le_refl _)
  refine lv_iload_n hx hb dX5_needNumber_0 rfl (lv_at hl 0 rfl) ?_
  refine lv_if_lt (tgt := 9) hx hb dX5_needNumber_1 (by decide) (fun z => thr (fun w => w.1 z) _ rfl) (fun h0 => ?_)
  refine lv_iload_n hx hb dX5_needNumber_4 rfl (lv_at hl 0 rfl) ?_
  refine lv_iload_n hx hb dX5_needNumber_5 rfl (lv_at hl 1 rfl) ?_
  refine lv_icmp_lt (tgt := 19) hx hb dX5_needNumber_6 (by decide) (fun h1 => ?_) (fun z => thr (fun w => z w.2) _ rfl)
  exact vx_ret (W.widen (k := 1) (n := 6) (Nat.zero_le _) (Nat.zero_le _) (W.vret hx hb hr (fun t ht hW => ⟨⟨(), rfl, ⟨h0, h1⟩, by rw [ht]; exact hP, va_K.moved hW.alike hK⟩, hS.F ht⟩) hS.2.2 dX5_needNumber_19))
set_option maxHeartbeats 1000000 in
set_option maxRecDepth 100000 in
theorem c_X5_needWithin (l : Launch) (hst : l.stackTraces = false) {D : va_G} {A : Nat → Prop} {cI cO : ClassId} {g : Gh} {cap N : Nat → Nat} (σ : St) (v : Int32) (lo : Int32) (hi : Int32) : vx_Met l yX5_needWithin wsX5_needWithin ({ frames := 6, cells := 1, slots := 6, locals := 82 }) (va_Pc [.int v, .int lo, .int hi] (cUX D cI cO A g cap N σ)) (va_Qv (fun (_ : Unit) => ¬ v < lo ∧ v ≤ hi) (fun _ t => cU D cI cO A g cap N σ t) A) (vx_X (fun (_ : Unit) => ¬ (¬ v < lo ∧ v ≤ hi)) (fun E _ t => E = "java/lang/IllegalArgumentException" ∧ cU D cI cO A g cap N σ t) A) 1 6 A := by
  refine vx_ofW (cc := cX5_needWithin) (maxL := 3) (ret := none) (by decide) rfl ?_
  intro p e s m args below meth c s₁ B hml htab hv
  obtain ⟨rfl, ⟨hP, hK⟩, hX⟩ := hv
  have E : kE p c cX5_needWithin s m ([.int v, .int lo, .int hi] : List Value).toArray wsX5_needWithin RX5 D cI cO := ⟨⟨B.exec, B.bytes⟩, atoms_spec (ws := wsX5_needWithin) B.pre, findClass_of_methodNamed B.named, hK⟩
  have hx := E.1.1
  have hb := E.1.2
  have hts := E.2.1
  have hr := B.returns
  have hlocks := B.notSynchronized
  have hS : va_S A s.heap s.heap [] := va_S.rf
  have hl := lv_entry ([.int v, .int lo, .int hi]) (n := 3) (Nat.le_of_ble_eq_true rfl)
  rw [lg_entry_eq]
  generalize (lg_sl ([.int v, .int lo, .int hi]) ++ List.replicate (3 - (lg_sl ([.int v, .int lo, .int hi])).length) Slot.unset).toArray = ls at hl ⊢
  have thr : ¬ (¬ v < lo ∧ v ≤ hi) → ∀ rest : List Value, rest = [] → W p l e (headSpec wsX5_needWithin ({ frames := 6, cells := 1, slots := 6, locals := 82 })).room s m ([.int v, .int lo, .int hi] : List Value).toArray below meth c s.heap [] 0 0 (vx_MQ below (va_Qv (fun (_ : Unit) => ¬ v < lo ∧ v ≤ hi) (fun _ t => cU D cI cO A g cap N σ t) A) (vx_X (fun (_ : Unit) => ¬ (¬ v < lo ∧ v ≤ hi)) (fun E _ t => E = "java/lang/IllegalArgumentException" ∧ cU D cI cO A g cap N σ t) A) ([.int v, .int lo, .int hi] : List Value).toArray s 1 6 A) (F0 m 10 ls rest) := by
    intro hbad rest hrest
    subst hrest
    obtain ⟨sa, hsa⟩ := hX.2.2.1 (202, "an argument is out of range") (by decide +kernel)
    exact vx_throwS (cls := "java/lang/IllegalArgumentException") (text := "an argument is out of range") (names := ["java/lang/RuntimeException", "java/lang/Exception"]) (ik := 80) (is := 202) (ic := 84) (sa := sa) (A := A) hx hb hst E.2.2.1 (by decide +kernel) (by decide +kernel) (hts (.classLink RX5 80 "java/lang/IllegalArgumentException") (by decide +kernel)) (hts (.initialized "java/lang/IllegalArgumentException") (by decide +kernel)) hsa (vx_hat (B := xwd) (fun w hw => hts w (List.mem_cons_of_mem _ (List.mem_append_right _ hw))) (by decide +kernel) (fun w hw => (hX.2.2.2.1 w hw).use (xwd_on w hw))) (by decide +kernel) hX.1 hX.2.1 hS (hl.1.trans hml.symm) dX5_needWithin_10 dX5_needWithin_13 dX5_needWithin_14 dX5_needWithin_16 dX5_needWithin_19 (fun x hx => (htab x hx).elim) (Nat.le_of_ble_eq_true rfl) (Nat.le_of_ble_eq_true rfl) (Nat.le_of_ble_eq_true rfl) (Nat.le_of_ble_eq_true rfl) hlocks (fun t hA hz hk => ⟨(), hbad, ⟨rfl, cP_kept hP (fun q hq _ => hk q hq), va_K.moved hA hK⟩, hz, fun q hq _ => hk q hq⟩) (fun z hz => by cases hz) (Nat.le_refl _) (Nat.le_refl _)
  refine lv_iload_n hx hb dX5_needWithin_0 rfl (lv_at hl 0 rfl) ?_
  refine lv_iload_n hx hb dX5_needWithin_1 rfl (lv_at hl 1 rfl) ?_
  refine lv_icmp_lt (tgt := 10) hx hb dX5_needWithin_2 (by decide) (fun z => thr (fun w => w.1 z) _ rfl) (fun h0 => ?_)
  refine lv_iload_n hx hb dX5_needWithin_5 rfl (lv_at hl 0 rfl) ?_
  refine lv_iload_n hx hb dX5_needWithin_6 rfl (lv_at hl 2 rfl) ?_
  refine lv_icmp_le (tgt := 20) hx hb dX5_needWithin_7 (by decide) (fun h1 => ?_) (fun z => thr (fun w => z w.2) _ rfl)
  exact vx_ret (W.widen (k := 1) (n := 6) (Nat.zero_le _) (Nat.zero_le _) (W.vret hx hb hr (fun t ht hW => ⟨⟨(), rfl, ⟨h0, h1⟩, by rw [ht]; exact hP, va_K.moved hW.alike hK⟩, hS.F ht⟩) hS.2.2 dX5_needWithin_20))
set_option maxHeartbeats 1000000 in
set_option maxRecDepth 100000 in
theorem c_X5_needRoom (l : Launch) (hst : l.stackTraces = false) {D : va_G} {A : Nat → Prop} {cI cO : ClassId} {g : Gh} {cap N : Nat → Nat} (σ : St) (n : Int32) (most : Int32) : vx_Met l yX5_needRoom wsX5_needRoom ({ frames := 6, cells := 1, slots := 6, locals := 82 }) (va_Pc [.int n, .int most] (cUX D cI cO A g cap N σ)) (va_Qv (fun (_ : Unit) => n < most) (fun _ t => cU D cI cO A g cap N σ t) A) (vx_X (fun (_ : Unit) => ¬ (n < most)) (fun E _ t => E = "java/lang/IllegalStateException" ∧ cU D cI cO A g cap N σ t) A) 1 6 A := by
  refine vx_ofW (cc := cX5_needRoom) (maxL := 2) (ret := none) (by decide) rfl ?_
  intro p e s m args below meth c s₁ B hml htab hv
  obtain ⟨rfl, ⟨hP, hK⟩, hX⟩ := hv
  have E : kE p c cX5_needRoom s m ([.int n, .int most] : List Value).toArray wsX5_needRoom RX5 D cI cO := ⟨⟨B.exec, B.bytes⟩, atoms_spec (ws := wsX5_needRoom) B.pre, findClass_of_methodNamed B.named, hK⟩
  have hx := E.1.1
  have hb := E.1.2
  have hts := E.2.1
  have hr := B.returns
  have hlocks := B.notSynchronized
  have hS : va_S A s.heap s.heap [] := va_S.rf
  have hl := lv_entry ([.int n, .int most]) (n := 2) (Nat.le_of_ble_eq_true rfl)
  rw [lg_entry_eq]
  generalize (lg_sl ([.int n, .int most]) ++ List.replicate (2 - (lg_sl ([.int n, .int most])).length) Slot.unset).toArray = ls at hl ⊢
  have thr : ¬ (n < most) → ∀ rest : List Value, rest = [] → W p l e (headSpec wsX5_needRoom ({ frames := 6, cells := 1, slots := 6, locals := 82 })).room s m ([.int n, .int most] : List Value).toArray below meth c s.heap [] 0 0 (vx_MQ below (va_Qv (fun (_ : Unit) => n < most) (fun _ t => cU D cI cO A g cap N σ t) A) (vx_X (fun (_ : Unit) => ¬ (n < most)) (fun E _ t => E = "java/lang/IllegalStateException" ∧ cU D cI cO A g cap N σ t) A) ([.int n, .int most] : List Value).toArray s 1 6 A) (F0 m 5 ls rest) := by
    intro hbad rest hrest
    subst hrest
    obtain ⟨sa, hsa⟩ := hX.2.2.1 (206, "there are no more than these") (by decide +kernel)
    exact vx_throwS (cls := "java/lang/IllegalStateException") (text := "there are no more than these") (names := ["java/lang/RuntimeException", "java/lang/Exception"]) (ik := 204) (is := 206) (ic := 208) (sa := sa) (A := A) hx hb hst E.2.2.1 (by decide +kernel) (by decide +kernel) (hts (.classLink RX5 204 "java/lang/IllegalStateException") (by decide +kernel)) (hts (.initialized "java/lang/IllegalStateException") (by decide +kernel)) hsa (vx_hat (B := xwd) (fun w hw => hts w (List.mem_cons_of_mem _ (List.mem_append_right _ hw))) (by decide +kernel) (fun w hw => (hX.2.2.2.1 w hw).use (xwd_on w hw))) (by decide +kernel) hX.1 hX.2.1 hS (hl.1.trans hml.symm) dX5_needRoom_5 dX5_needRoom_8 dX5_needRoom_9 dX5_needRoom_11 dX5_needRoom_14 (fun x hx => (htab x hx).elim) (Nat.le_of_ble_eq_true rfl) (Nat.le_of_ble_eq_true rfl) (Nat.le_of_ble_eq_true rfl) (Nat.le_of_ble_eq_true rfl) hlocks (fun t hA hz hk => ⟨(), hbad, ⟨rfl, cP_kept hP (fun q hq _ => hk q hq), va_K.moved hA hK⟩, hz, fun q hq _ => hk q hq⟩) (fun z hz => by cases hz) (Nat.le_refl _) (Nat.le_refl _)
  refine lv_iload_n hx hb dX5_needRoom_0 rfl (lv_at hl 0 rfl) ?_
  refine lv_iload_n hx hb dX5_needRoom_1 rfl (lv_at hl 1 rfl) ?_
  refine lv_icmp_lt (tgt := 15) hx hb dX5_needRoom_2 (by decide) (fun h1 => ?_) (fun z => thr z _ rfl)
  exact vx_ret (W.widen (k := 1) (n := 6) (Nat.zero_le _) (Nat.zero_le _) (W.vret hx hb hr (fun t ht hW => ⟨⟨(), rfl, h1, by rw [ht]; exact hP, va_K.moved hW.alike hK⟩, hS.F ht⟩) hS.2.2 dX5_needRoom_15))
set_option maxHeartbeats 1000000 in
set_option maxRecDepth 100000 in
theorem c_X5_needPlanned (l : Launch) (hst : l.stackTraces = false) {D : va_G} {A : Nat → Prop} {cI cO : ClassId} {g : Gh} {cap N : Nat → Nat} (σ : St) (sailing : Int32) (h_s : vp_in sailing (N 6)) : vx_Met l yX5_needPlanned wsX5_needPlanned ({ frames := 6, cells := 1, slots := 6, locals := 82 }) (va_Pc [.ref (g 6 sailing.toNatClampNeg)] (cUX D cI cO A g cap N σ)) (va_Qv (fun (_ : Unit) => σ 22 sailing.toNatClampNeg = 0) (fun _ t => cU D cI cO A g cap N σ t) A) (vx_X (fun (_ : Unit) => ¬ (σ 22 sailing.toNatClampNeg = 0)) (fun E _ t => E = "java/lang/IllegalStateException" ∧ cU D cI cO A g cap N σ t) A) 1 6 A := by
  refine vx_ofW (cc := cX5_needPlanned) (maxL := 1) (ret := none) (by decide) rfl ?_
  intro p e s m args below meth c s₁ B hml htab hv
  obtain ⟨rfl, ⟨hP, hK⟩, hX⟩ := hv
  have E : kE p c cX5_needPlanned s m ([.ref (g 6 sailing.toNatClampNeg)] : List Value).toArray wsX5_needPlanned RX5 D cI cO := ⟨⟨B.exec, B.bytes⟩, atoms_spec (ws := wsX5_needPlanned) B.pre, findClass_of_methodNamed B.named, hK⟩
  have hx := E.1.1
  have hb := E.1.2
  have hts := E.2.1
  have hr := B.returns
  have hlocks := B.notSynchronized
  have hS : va_S A s.heap s.heap [] := va_S.rf
  have hl := lv_entry ([.ref (g 6 sailing.toNatClampNeg)]) (n := 1) (Nat.le_of_ble_eq_true rfl)
  rw [lg_entry_eq]
  generalize (lg_sl ([.ref (g 6 sailing.toNatClampNeg)]) ++ List.replicate (1 - (lg_sl ([.ref (g 6 sailing.toNatClampNeg)])).length) Slot.unset).toArray = ls at hl ⊢
  have thr : ¬ (σ 22 sailing.toNatClampNeg = 0) → ∀ rest : List Value, rest = [] → W p l e (headSpec wsX5_needPlanned ({ frames := 6, cells := 1, slots := 6, locals := 82 })).room s m ([.ref (g 6 sailing.toNatClampNeg)] : List Value).toArray below meth c s.heap [] 0 0 (vx_MQ below (va_Qv (fun (_ : Unit) => σ 22 sailing.toNatClampNeg = 0) (fun _ t => cU D cI cO A g cap N σ t) A) (vx_X (fun (_ : Unit) => ¬ (σ 22 sailing.toNatClampNeg = 0)) (fun E _ t => E = "java/lang/IllegalStateException" ∧ cU D cI cO A g cap N σ t) A) ([.ref (g 6 sailing.toNatClampNeg)] : List Value).toArray s 1 6 A) (F0 m 7 ls rest) := by
    intro hbad rest hrest
    subst hrest
    obtain ⟨sa, hsa⟩ := hX.2.2.1 (209, "the sailing is not planned any more") (by decide +kernel)
    exact vx_throwS (cls := "java/lang/IllegalStateException") (text := "the sailing is not planned any more") (names := ["java/lang/RuntimeException", "java/lang/Exception"]) (ik := 204) (is := 209) (ic := 208) (sa := sa) (A := A) hx hb hst E.2.2.1 (by decide +kernel) (by decide +kernel) (hts (.classLink RX5 204 "java/lang/IllegalStateException") (by decide +kernel)) (hts (.initialized "java/lang/IllegalStateException") (by decide +kernel)) hsa (vx_hat (B := xwd) (fun w hw => hts w (List.mem_cons_of_mem _ (List.mem_append_right _ hw))) (by decide +kernel) (fun w hw => (hX.2.2.2.1 w hw).use (xwd_on w hw))) (by decide +kernel) hX.1 hX.2.1 hS (hl.1.trans hml.symm) dX5_needPlanned_7 dX5_needPlanned_10 dX5_needPlanned_11 dX5_needPlanned_13 dX5_needPlanned_16 (fun x hx => (htab x hx).elim) (Nat.le_of_ble_eq_true rfl) (Nat.le_of_ble_eq_true rfl) (Nat.le_of_ble_eq_true rfl) (Nat.le_of_ble_eq_true rfl) hlocks (fun t hA hz hk => ⟨(), hbad, ⟨rfl, cP_kept hP (fun q hq _ => hk q hq), va_K.moved hA hK⟩, hz, fun q hq _ => hk q hq⟩) (fun z hz => by cases hz) (Nat.le_refl _) (Nat.le_refl _)
  refine lv_aload_n hx hb dX5_needPlanned_0 rfl (lv_at hl 0 rfl) ?_
  refine cg_X3_state E (by decide +kernel) hP h_s (by decide +kernel) dX5_needPlanned_1 ?_
  refine lv_if_eq (tgt := 17) hx hb dX5_needPlanned_4 (by decide) (fun h1 => ?_) (fun z => thr z _ rfl)
  exact vx_ret (W.widen (k := 1) (n := 6) (Nat.zero_le _) (Nat.zero_le _) (W.vret hx hb hr (fun t ht hW => ⟨⟨(), rfl, h1, by rw [ht]; exact hP, va_K.moved hW.alike hK⟩, hS.F ht⟩) hS.2.2 dX5_needPlanned_17))
