/-! the law's wrappers: a call, its answer kept or its exception told by a number -/
def xpr : List (String × String) := [("java/lang/IllegalArgumentException", "java/lang/IllegalStateException"), ("java/lang/IllegalArgumentException", "java/lang/IndexOutOfBoundsException"), ("java/lang/IllegalStateException", "java/lang/IllegalArgumentException"), ("java/lang/IllegalStateException", "java/lang/IndexOutOfBoundsException"), ("java/lang/IndexOutOfBoundsException", "java/lang/IllegalArgumentException"), ("java/lang/IndexOutOfBoundsException", "java/lang/IllegalStateException")]
def xnc (U : State) : Prop := ∀ q ∈ xpr, va_Nc q.1 q.2 U
def wW (D : va_G) (cI cO cJ : ClassId) (A : Nat → Prop) (aE : Nat) (g : Gh) (N : Nat → Nat) (σ : St) (o : Nat) (f : Nat → Int64) (U : State) : Prop := cGX D cI cO A aE g N σ U ∧ U.heap[o]? = some (vp_cell cJ (1, .inr (.inl f))) ∧ va_K D vwCl [(cJ, .long)] U ∧ xnc U
theorem wBl {D : va_G} {cI cO cJ : ClassId} {A : Nat → Prop} {aE : Nat} {g : Gh} {N : Nat → Nat} {σ : St} {o : Nat} {f : Nat → Int64} {av : List Value} : FrameBlind (va_Pc av (wW D cI cO cJ A aE g N σ o f)) := fun a U g9 mk q => ⟨q.1, (gxBl (av := av) a U g9 mk ⟨q.1, q.2.1⟩).2, q.2.2.1, va_K.moved (u := U) (U := U.calling g9 mk a) (Vm.Alike.refl U.vm) q.2.2.2.1, fun z hz => (q.2.2.2.2 z hz).moved (u := U) (U := U.calling g9 mk a) (Vm.Alike.refl U.vm)⟩
def WP (t kc : Int32) (v : Int64) (g : Gh) (N N' : Nat → Nat) (σ' σx : St) (k : Int32) (u : (Gh × (Nat → Nat) × St) × (Nat → Int64)) : Prop := (t = 0 ∧ k = 0 ∧ P2 g N N' σ' u.1 ∧ u.2 0 = v) ∨ (¬ t = 0 ∧ k = kc ∧ u.1 = (g, N, σx))
def wB (D : va_G) (cI cO cJ : ClassId) (A : Nat → Prop) (aE o : Nat) (u : (Gh × (Nat → Nat) × St) × (Nat → Int64)) (t : State) : Prop := cGU D cI cO A aE u.1.1 u.1.2.1 u.1.2.2 t ∧ t.heap[o]? = some (vp_cell cJ (1, .inr (.inl u.2)))
theorem cG_kept {D : va_G} {cI cO : ClassId} {A : Nat → Prop} {aE : Nat} {g : Gh} {N : Nat → Nat} {τ : St} {H H1 : Heap} (h : cG D cI cO A aE g N τ H) (oq : ∀ q : Nat, q < H.size → A q → H1[q]? = H[q]?) : cG D cI cO A aE g N τ H1 := by
  obtain ⟨a, cap, h1, h2, h3⟩ := h
  exact ⟨a, cap, h1, h2, cP_kept h3 oq⟩
section WRP
variable {p : Program} {l : Launch} {e : Env} {R : Room} {s : State} {m : MethodId} {args : Array Value} {below : List Frame} {meth : Method} {c : Code} {H : Heap} {locs : List Loc} {cells slots : Nat} {Q : State → Prop}
variable {cc : ByteArray} {pc : Nat} {ls : Array Slot} {rest : List Value} {D : va_G} {A0 : Nat → Prop} {H0 : Heap} {cJ : ClassId}
theorem k_last {o : Nat} {f : Nat → Int64} {x : Int64} (hx : p.tables.exec = Jvm.exec) (hb : c.code = cc) (hK : va_K D vwCl [(cJ, .long)] s) (hO : H[o]? = some (vp_cell cJ (1, .inr (.inl f)))) (hS : va_S A0 H0 H locs) (hAo : A0 o) (hdg : decode cc pc = .ok (.lastore, 1))
    (kk : ∀ (H1 : Heap) (locs1 : List Loc), H1[o]? = some (vp_cell cJ (1, .inr (.inl (vp_updL f 0 x)))) → H1.size = H.size → (∀ q : Nat, q ≠ o → H1[q]? = H[q]?) → va_S A0 H0 H1 locs1 → W p l e R s m args below meth c H1 locs1 cells slots Q (F0 m (pc + 1) ls rest)) : W p l e R s m args below meth c H locs cells slots Q (F0 m pc ls (.long x :: .int 0 :: .ref o :: rest)) := by
  refine W.last hx hb hO ((hK.2 0 _ rfl).1 1 (fun j => .long (f j))) (fun q => by cases q) (by show ¬ ((0 : Int32) < 0 ∨ (arrV _ _ _).slots.size ≤ _); rw [arrV_size]; exact show ¬ ((0 : Int32) < 0 ∨ 1 ≤ (0 : Int32).toNatClampNeg) by decide) rfl rfl hdg fun H1 e z oq => ?_
  refine kk H1 _ ?_ z oq (hS.put z oq hAo)
  rw [e]
  rw [vp_cell_l, vp_cell_l, arrV_store]
  congr 2
  funext q
  by_cases hq : q = (0 : Int32).toNatClampNeg
  · subst hq
    simp [updV, vp_updL]
  · have hq0 : q ≠ 0 := hq
    simp [updV, vp_updL, hq0]
end WRP
theorem tv_pier (σ : St) (depth : Int32) (range : Int32) (phase : Int32) (isLit : Int32) : t_X5_pier σ depth range phase isLit = 0 ∨ t_X5_pier σ depth range phase isLit = 1 ∨ t_X5_pier σ depth range phase isLit = 2 := by
  unfold t_X5_pier
  repeat' split
  all_goals first | exact Or.inl rfl | exact Or.inr (Or.inl rfl) | exact Or.inr (Or.inr (rfl))
set_option maxHeartbeats 4000000 in
set_option maxRecDepth 100000 in
theorem x_pier (l : Launch) (hst : l.stackTraces = false) {D : va_G} {A : Nat → Prop} {cI cO cJ : ClassId} {aE o : Nat} {g : Gh} {N : Nat → Nat} (σ : St) (f : Nat → Int64) (depth : Int32) (range : Int32) (phase : Int32) (isLit : Int32) (h_isLit : isB isLit) (hAo : ¬ A o) : vx_Met l yL_pier wsL_pier ({ frames := 9, cells := 6, slots := 196, locals := 240 }) (va_Pc [.ref (g 0 0), .int depth, .int range, .int phase, .int isLit, .ref o] (wW D cI cO cJ A aE g N σ o f)) (va_Qi (WP (t_X5_pier σ depth range phase isLit) (t_X5_pier σ depth range phase isLit) (nI (N 4)).toInt64 g N (Nn N 4) (s_X5_pier N σ depth range phase isLit) (σ)) (wB D cI cO cJ A aE o) (fun q => A q ∨ q = o)) (fun _ _ _ => False) 6 196 (fun q => A q ∨ q = o) := by
  refine vx_ofWH (cc := cL_pier) (maxL := 7) (ret := (some .int)) (hh := [(0, 14, 17, 13), (0, 14, 21, 15)]) (by decide) rfl ?_
  intro p e s m args below meth c s₁ B hml hv
  obtain ⟨rfl, ⟨⟨⟨⟨ga, cap, hG, hI, hP⟩, hK⟩, hY⟩, hX⟩, hO, hKJ, hNc⟩ := hv
  have E : kE p c cL_pier s m ([.ref (g 0 0), .int depth, .int range, .int phase, .int isLit, .ref o] : List Value).toArray wsL_pier RL D cI cO := ⟨⟨B.exec, B.bytes⟩, atoms_spec (ws := wsL_pier) B.pre, findClass_of_methodNamed B.named, hK⟩
  have hx := E.1.1
  have hb := E.1.2
  have hts := E.2.1
  have hr := B.returns
  have hlocks := B.notSynchronized
  have htab := vx_table (x := yL_pier) (hh := [(0, 14, 17, 13), (0, 14, 21, 15)]) B (hts (.codeWith yL_pier cL_pier 7 (some .int) [(0, 14, 17, 13), (0, 14, 21, 15)]) List.mem_cons_self)
  obtain ⟨n0, n4, n5, n6, n8, n7, n1, n2, n3⟩ := id hI.1
  have hS : va_S (fun q => A q ∨ q = o) s.heap s.heap [] := va_S.rf
  have hR : 9 ≤ ((headSpec wsL_pier ({ frames := 9, cells := 6, slots := 196, locals := 240 })).room).frames ∧ 240 ≤ ((headSpec wsL_pier ({ frames := 9, cells := 6, slots := 196, locals := 240 })).room).locals := ⟨Nat.le_refl _, Nat.le_refl _⟩
  have hfm : 0 + 6 ≤ ((headSpec wsL_pier ({ frames := 9, cells := 6, slots := 196, locals := 240 })).room).cells ∧ 0 + 196 ≤ ((headSpec wsL_pier ({ frames := 9, cells := 6, slots := 196, locals := 240 })).room).slots := ⟨Nat.le_of_eq (Nat.zero_add _), Nat.le_of_eq (Nat.zero_add _)⟩
  have hl := lv_entry ([.ref (g 0 0), .int depth, .int range, .int phase, .int isLit, .ref o]) (n := 7) (Nat.le_of_ble_eq_true rfl)
  rw [lg_entry_eq]
  generalize (lg_sl ([.ref (g 0 0), .int depth, .int range, .int phase, .int isLit, .ref o]) ++ List.replicate (7 - (lg_sl ([.ref (g 0 0), .int depth, .int range, .int phase, .int isLit, .ref o])).length) Slot.unset).toArray = ls at hl ⊢
  generalize (headSpec wsL_pier ({ frames := 9, cells := 6, slots := 196, locals := 240 })).room = R at hR hfm ⊢
  refine lv_aload hx hb dL_pier_0 (lv_at hl 5 rfl) ?_
  refine lv_iconst (v := 0) hx hb dL_pier_2 (by decide) ?_
  refine lv_aload_n hx hb dL_pier_3 rfl (lv_at hl 0 rfl) ?_
  refine lv_iload_n hx hb dL_pier_4 rfl (lv_at hl 1 rfl) ?_
  refine lv_iload_n hx hb dL_pier_5 rfl (lv_at hl 2 rfl) ?_
  refine lv_iload_n hx hb dL_pier_6 rfl (lv_at hl 3 rfl) ?_
  refine lv_iload hx hb dL_pier_7 (lv_at hl 4 rfl) ?_
  refine vx_calli (vx_runV (As := [.int depth, .int range, .int phase, .int isLit]) (rest := [.int 0, .ref o]) ⟨E.1.1, E.1.2, hml, E.2.2.1, E.2.1⟩ (u_pier l hst (D := D) (A := A) (cI := cI) (cO := cO) (aE := aE) (g := g) (N := N) σ depth range phase isLit h_isLit) (cwV 4 hts gL_pier_X5_pier rfl rfl rfl (by decide +kernel) ⟨Nat.le_trans (Nat.le_of_ble_eq_true rfl) hR.1, Nat.le_trans (Nat.le_of_ble_eq_true rfl) hR.2⟩) ⟨gxBl, kr_0 (g := gw g ga) E.2.2.2 hP ⟨by decide, by omega, fun z => absurd z (by decide)⟩, fun U hU hW => ⟨rfl, ⟨⟨⟨by rw [hU]; exact ⟨ga, cap, hG, hI, hP⟩, va_K.moved hW.alike hK⟩, cY_at hY va_S.rf hU hW⟩, cX_at hX va_S.rf hU hW⟩⟩⟩ rfl rfl hl.1 rfl (lv_room (Nat.le_of_ble_eq_true rfl)) dL_pier_9 hfm) hS (fun q _ h => Or.inl h) (fun q h => Or.inl h) (fun q _ h => Or.inl h) (fun E9 ce q9 u t9 H1 locs1 ht hvm hpx hB hz hk hS hce hcv hcl => ?_) (fun r u t9 H1 locs1 ht hvm hw hB hz hk hS => ?_)
  · obtain ⟨hE, hB1⟩ := hB
    have hB2 := hB1.1
    rw [ht] at hB2
    have hO1 : H1[o]? = some (vp_cell cJ (1, .inr (.inl f))) := (hk o (Array.getElem?_eq_some_iff.mp hO).1 hAo).trans hO
    rcases tv_pier σ depth range phase isLit with h0 | h0 | h0
    · exact absurd h0 hpx
    · have hE2 : E9 = "java/lang/IllegalArgumentException" := by rw [hE, h0]; rfl
      subst hE2
      refine vx_catch (name := "java/lang/IllegalArgumentException") E.2.2.1 [] ⟨0, 14, 17, 13⟩ [⟨0, 14, 21, 15⟩] (htab.trans rfl) (fun z hz => absurd hz List.not_mem_nil) rfl (by decide) (hts (.classLink RL 13 "java/lang/IllegalArgumentException") (by decide +kernel)) ((hX.2.2.2.1 (.castable "java/lang/IllegalArgumentException" "java/lang/IllegalArgumentException") (by decide)).use rfl) hce hcv hcl ?_
      show W p l e R s m _ below meth c H1 locs1 _ _ _ (F0 m 17 ls [.ref q9])
      refine lv_astore (lv' := [(6, .ref q9), (0, .ref (g 0 0)), (1, .int depth), (2, .int range), (3, .int phase), (4, .int isLit), (5, .ref o)]) hx hb dL_pier_17 hl (by decide) rfl (fun ls hl => ?_)
      refine lv_iconst (v := 1) hx hb dL_pier_19 (by decide) ?_
      exact W.widen (k := 6) (n := 196) (Nat.le_of_eq (Nat.zero_add _)) (Nat.le_of_eq (Nat.zero_add _)) (vx_ret (W.iret (v := 1) B.exec B.bytes hr (fun t ht hW => ⟨⟨1, ((g, N, σ), f), rfl, Or.inr ⟨hpx, by first | exact h0.symm | (rw [h0]; rfl), rfl⟩, ⟨by rw [ht]; exact hB2, va_K.moved hW.alike hK⟩, by rw [ht]; exact hO1⟩, hS.F ht⟩) hS.2.2 dL_pier_20))
    · have hE2 : E9 = "java/lang/IllegalStateException" := by rw [hE, h0]; rfl
      subst hE2
      refine vx_catch (name := "java/lang/IllegalStateException") E.2.2.1 [⟨0, 14, 17, 13⟩] ⟨0, 14, 21, 15⟩ [] (htab.trans rfl) (fun z hz => by
        simp only [List.mem_cons, List.not_mem_nil, or_false] at hz
        subst hz
        exact Or.inr ⟨by decide, "java/lang/IllegalArgumentException", hts (.classLink RL 13 "java/lang/IllegalArgumentException") (by decide +kernel), hNc ("java/lang/IllegalStateException", "java/lang/IllegalArgumentException") (by decide)⟩) rfl (by decide) (hts (.classLink RL 15 "java/lang/IllegalStateException") (by decide +kernel)) ((hX.2.2.2.1 (.castable "java/lang/IllegalStateException" "java/lang/IllegalStateException") (by decide)).use rfl) hce hcv hcl ?_
      show W p l e R s m _ below meth c H1 locs1 _ _ _ (F0 m 21 ls [.ref q9])
      refine lv_astore (lv' := [(6, .ref q9), (0, .ref (g 0 0)), (1, .int depth), (2, .int range), (3, .int phase), (4, .int isLit), (5, .ref o)]) hx hb dL_pier_21 hl (by decide) rfl (fun ls hl => ?_)
      refine lv_iconst (v := 2) hx hb dL_pier_23 (by decide) ?_
      exact W.widen (k := 6) (n := 196) (Nat.le_of_eq (Nat.zero_add _)) (Nat.le_of_eq (Nat.zero_add _)) (vx_ret (W.iret (v := 2) B.exec B.bytes hr (fun t ht hW => ⟨⟨2, ((g, N, σ), f), rfl, Or.inr ⟨hpx, by first | exact h0.symm | (rw [h0]; rfl), rfl⟩, ⟨by rw [ht]; exact hB2, va_K.moved hW.alike hK⟩, by rw [ht]; exact hO1⟩, hS.F ht⟩) hS.2.2 dL_pier_24))
  · obtain ⟨hr1, ht0, hP2⟩ := hw
    have hB2 := hB.1
    rw [ht] at hB2
    have hO1 : H1[o]? = some (vp_cell cJ (1, .inr (.inl f))) := (hk o (Array.getElem?_eq_some_iff.mp hO).1 hAo).trans hO
    refine lv_i2l (v := r.toInt64) hx hb dL_pier_12 rfl ?_
    refine k_last hx hb hKJ hO1 hS (Or.inr rfl) dL_pier_13 (fun H2 locs2 hO2 hz2 oq2 hS => ?_)
    have hB3 := cG_kept hB2 (fun q _ hA => oq2 q (fun z => hAo (by rw [← z]; exact hA)))
    refine lv_goto (tgt := 25) hx hb dL_pier_14 (by decide) ?_
    refine lv_iconst (v := 0) hx hb dL_pier_25 (by decide) ?_
    exact W.widen (k := 6) (n := 196) (Nat.le_of_eq (Nat.zero_add _)) (Nat.le_of_eq (Nat.zero_add _)) (vx_ret (W.iret (v := 0) B.exec B.bytes hr (fun t ht hW => ⟨⟨0, (u, vp_updL f 0 r.toInt64), rfl, Or.inl ⟨ht0, rfl, hP2, by rw [hr1]; rfl⟩, ⟨by rw [ht]; exact hB3, va_K.moved hW.alike hK⟩, by rw [ht]; exact hO2⟩, hS.F ht⟩) hS.2.2 dL_pier_26))
theorem tv_boat (σ : St) (draught : Int32) (length : Int32) (weight : Int32) (trim : Int32) (swell : Int32) (piers_ : Int32) (home : Int32) : t_X5_boat σ draught length weight trim swell piers_ home = 0 ∨ t_X5_boat σ draught length weight trim swell piers_ home = 1 ∨ t_X5_boat σ draught length weight trim swell piers_ home = 2 ∨ t_X5_boat σ draught length weight trim swell piers_ home = 3 := by
  unfold t_X5_boat
  repeat' split
  all_goals first | exact Or.inl rfl | exact Or.inr (Or.inl rfl) | exact Or.inr (Or.inr (Or.inl rfl)) | exact Or.inr (Or.inr (Or.inr (rfl)))
set_option maxHeartbeats 4000000 in
set_option maxRecDepth 100000 in
theorem x_boat (l : Launch) (hst : l.stackTraces = false) {D : va_G} {A : Nat → Prop} {cI cO cJ : ClassId} {aE o : Nat} {g : Gh} {N : Nat → Nat} (σ : St) (f : Nat → Int64) (draught : Int32) (length : Int32) (weight : Int32) (trim : Int32) (swell : Int32) (piers_ : Int32) (home : Int32) (hAo : ¬ A o) : vx_Met l yL_boat wsL_boat ({ frames := 9, cells := 10, slots := 219, locals := 246 }) (va_Pc [.ref (g 0 0), .int draught, .int length, .int weight, .int trim, .int swell, .int piers_, .int home, .ref o] (wW D cI cO cJ A aE g N σ o f)) (va_Qi (WP (t_X5_boat σ draught length weight trim swell piers_ home) (kA (t_X5_boat σ draught length weight trim swell piers_ home)) (nI (N 5)).toInt64 g N (Nn N 5) (s_X5_boat N σ draught length weight trim swell piers_ home) (σ)) (wB D cI cO cJ A aE o) (fun q => A q ∨ q = o)) (fun _ _ _ => False) 10 219 (fun q => A q ∨ q = o) := by
  refine vx_ofWH (cc := cL_boat) (maxL := 10) (ret := (some .int)) (hh := [(0, 20, 23, 21), (0, 20, 27, 13), (0, 20, 31, 15)]) (by decide) rfl ?_
  intro p e s m args below meth c s₁ B hml hv
  obtain ⟨rfl, ⟨⟨⟨⟨ga, cap, hG, hI, hP⟩, hK⟩, hY⟩, hX⟩, hO, hKJ, hNc⟩ := hv
  have E : kE p c cL_boat s m ([.ref (g 0 0), .int draught, .int length, .int weight, .int trim, .int swell, .int piers_, .int home, .ref o] : List Value).toArray wsL_boat RL D cI cO := ⟨⟨B.exec, B.bytes⟩, atoms_spec (ws := wsL_boat) B.pre, findClass_of_methodNamed B.named, hK⟩
  have hx := E.1.1
  have hb := E.1.2
  have hts := E.2.1
  have hr := B.returns
  have hlocks := B.notSynchronized
  have htab := vx_table (x := yL_boat) (hh := [(0, 20, 23, 21), (0, 20, 27, 13), (0, 20, 31, 15)]) B (hts (.codeWith yL_boat cL_boat 10 (some .int) [(0, 20, 23, 21), (0, 20, 27, 13), (0, 20, 31, 15)]) List.mem_cons_self)
  obtain ⟨n0, n4, n5, n6, n8, n7, n1, n2, n3⟩ := id hI.1
  have hS : va_S (fun q => A q ∨ q = o) s.heap s.heap [] := va_S.rf
  have hR : 9 ≤ ((headSpec wsL_boat ({ frames := 9, cells := 10, slots := 219, locals := 246 })).room).frames ∧ 246 ≤ ((headSpec wsL_boat ({ frames := 9, cells := 10, slots := 219, locals := 246 })).room).locals := ⟨Nat.le_refl _, Nat.le_refl _⟩
  have hfm : 0 + 10 ≤ ((headSpec wsL_boat ({ frames := 9, cells := 10, slots := 219, locals := 246 })).room).cells ∧ 0 + 219 ≤ ((headSpec wsL_boat ({ frames := 9, cells := 10, slots := 219, locals := 246 })).room).slots := ⟨Nat.le_of_eq (Nat.zero_add _), Nat.le_of_eq (Nat.zero_add _)⟩
  have hl := lv_entry ([.ref (g 0 0), .int draught, .int length, .int weight, .int trim, .int swell, .int piers_, .int home, .ref o]) (n := 10) (Nat.le_of_ble_eq_true rfl)
  rw [lg_entry_eq]
  generalize (lg_sl ([.ref (g 0 0), .int draught, .int length, .int weight, .int trim, .int swell, .int piers_, .int home, .ref o]) ++ List.replicate (10 - (lg_sl ([.ref (g 0 0), .int draught, .int length, .int weight, .int trim, .int swell, .int piers_, .int home, .ref o])).length) Slot.unset).toArray = ls at hl ⊢
  generalize (headSpec wsL_boat ({ frames := 9, cells := 10, slots := 219, locals := 246 })).room = R at hR hfm ⊢
  refine lv_aload hx hb dL_boat_0 (lv_at hl 8 rfl) ?_
  refine lv_iconst (v := 0) hx hb dL_boat_2 (by decide) ?_
  refine lv_aload_n hx hb dL_boat_3 rfl (lv_at hl 0 rfl) ?_
  refine lv_iload_n hx hb dL_boat_4 rfl (lv_at hl 1 rfl) ?_
  refine lv_iload_n hx hb dL_boat_5 rfl (lv_at hl 2 rfl) ?_
  refine lv_iload_n hx hb dL_boat_6 rfl (lv_at hl 3 rfl) ?_
  refine lv_iload hx hb dL_boat_7 (lv_at hl 4 rfl) ?_
  refine lv_iload hx hb dL_boat_9 (lv_at hl 5 rfl) ?_
  refine lv_iload hx hb dL_boat_11 (lv_at hl 6 rfl) ?_
  refine lv_iload hx hb dL_boat_13 (lv_at hl 7 rfl) ?_
  refine vx_calli (vx_runV (As := [.int draught, .int length, .int weight, .int trim, .int swell, .int piers_, .int home]) (rest := [.int 0, .ref o]) ⟨E.1.1, E.1.2, hml, E.2.2.1, E.2.1⟩ (u_boat l hst (D := D) (A := A) (cI := cI) (cO := cO) (aE := aE) (g := g) (N := N) σ draught length weight trim swell piers_ home ) (cwV 7 hts gL_boat_X5_boat rfl rfl rfl (by decide +kernel) ⟨Nat.le_trans (Nat.le_of_ble_eq_true rfl) hR.1, Nat.le_trans (Nat.le_of_ble_eq_true rfl) hR.2⟩) ⟨gxBl, kr_0 (g := gw g ga) E.2.2.2 hP ⟨by decide, by omega, fun z => absurd z (by decide)⟩, fun U hU hW => ⟨rfl, ⟨⟨⟨by rw [hU]; exact ⟨ga, cap, hG, hI, hP⟩, va_K.moved hW.alike hK⟩, cY_at hY va_S.rf hU hW⟩, cX_at hX va_S.rf hU hW⟩⟩⟩ rfl rfl hl.1 rfl (lv_room (Nat.le_of_ble_eq_true rfl)) dL_boat_15 hfm) hS (fun q _ h => Or.inl h) (fun q h => Or.inl h) (fun q _ h => Or.inl h) (fun E9 ce q9 u t9 H1 locs1 ht hvm hpx hB hz hk hS hce hcv hcl => ?_) (fun r u t9 H1 locs1 ht hvm hw hB hz hk hS => ?_)
  · obtain ⟨hE, hB1⟩ := hB
    have hB2 := hB1.1
    rw [ht] at hB2
    have hO1 : H1[o]? = some (vp_cell cJ (1, .inr (.inl f))) := (hk o (Array.getElem?_eq_some_iff.mp hO).1 hAo).trans hO
    rcases tv_boat σ draught length weight trim swell piers_ home with h0 | h0 | h0 | h0
    · exact absurd h0 hpx
    · have hE2 : E9 = "java/lang/IllegalArgumentException" := by rw [hE, h0]; rfl
      subst hE2
      refine vx_catch (name := "java/lang/IllegalArgumentException") E.2.2.1 [⟨0, 20, 23, 21⟩] ⟨0, 20, 27, 13⟩ [⟨0, 20, 31, 15⟩] (htab.trans rfl) (fun z hz => by
        simp only [List.mem_cons, List.not_mem_nil, or_false] at hz
        subst hz
        exact Or.inr ⟨by decide, "java/lang/IndexOutOfBoundsException", hts (.classLink RL 21 "java/lang/IndexOutOfBoundsException") (by decide +kernel), hNc ("java/lang/IllegalArgumentException", "java/lang/IndexOutOfBoundsException") (by decide)⟩) rfl (by decide) (hts (.classLink RL 13 "java/lang/IllegalArgumentException") (by decide +kernel)) ((hX.2.2.2.1 (.castable "java/lang/IllegalArgumentException" "java/lang/IllegalArgumentException") (by decide)).use rfl) hce hcv hcl ?_
      show W p l e R s m _ below meth c H1 locs1 _ _ _ (F0 m 27 ls [.ref q9])
      refine lv_astore (lv' := [(9, .ref q9), (0, .ref (g 0 0)), (1, .int draught), (2, .int length), (3, .int weight), (4, .int trim), (5, .int swell), (6, .int piers_), (7, .int home), (8, .ref o)]) hx hb dL_boat_27 hl (by decide) rfl (fun ls hl => ?_)
      refine lv_iconst (v := 2) hx hb dL_boat_29 (by decide) ?_
      exact W.widen (k := 10) (n := 219) (Nat.le_of_eq (Nat.zero_add _)) (Nat.le_of_eq (Nat.zero_add _)) (vx_ret (W.iret (v := 2) B.exec B.bytes hr (fun t ht hW => ⟨⟨2, ((g, N, σ), f), rfl, Or.inr ⟨hpx, by first | exact h0.symm | (rw [h0]; rfl), rfl⟩, ⟨by rw [ht]; exact hB2, va_K.moved hW.alike hK⟩, by rw [ht]; exact hO1⟩, hS.F ht⟩) hS.2.2 dL_boat_30))
    · have hE2 : E9 = "java/lang/IllegalStateException" := by rw [hE, h0]; rfl
      subst hE2
      refine vx_catch (name := "java/lang/IllegalStateException") E.2.2.1 [⟨0, 20, 23, 21⟩, ⟨0, 20, 27, 13⟩] ⟨0, 20, 31, 15⟩ [] (htab.trans rfl) (fun z hz => by
        simp only [List.mem_cons, List.not_mem_nil, or_false] at hz
        rcases hz with rfl | rfl
        · exact Or.inr ⟨by decide, "java/lang/IndexOutOfBoundsException", hts (.classLink RL 21 "java/lang/IndexOutOfBoundsException") (by decide +kernel), hNc ("java/lang/IllegalStateException", "java/lang/IndexOutOfBoundsException") (by decide)⟩
        · exact Or.inr ⟨by decide, "java/lang/IllegalArgumentException", hts (.classLink RL 13 "java/lang/IllegalArgumentException") (by decide +kernel), hNc ("java/lang/IllegalStateException", "java/lang/IllegalArgumentException") (by decide)⟩) rfl (by decide) (hts (.classLink RL 15 "java/lang/IllegalStateException") (by decide +kernel)) ((hX.2.2.2.1 (.castable "java/lang/IllegalStateException" "java/lang/IllegalStateException") (by decide)).use rfl) hce hcv hcl ?_
      show W p l e R s m _ below meth c H1 locs1 _ _ _ (F0 m 31 ls [.ref q9])
      refine lv_astore (lv' := [(9, .ref q9), (0, .ref (g 0 0)), (1, .int draught), (2, .int length), (3, .int weight), (4, .int trim), (5, .int swell), (6, .int piers_), (7, .int home), (8, .ref o)]) hx hb dL_boat_31 hl (by decide) rfl (fun ls hl => ?_)
      refine lv_iconst (v := 3) hx hb dL_boat_33 (by decide) ?_
      exact W.widen (k := 10) (n := 219) (Nat.le_of_eq (Nat.zero_add _)) (Nat.le_of_eq (Nat.zero_add _)) (vx_ret (W.iret (v := 3) B.exec B.bytes hr (fun t ht hW => ⟨⟨3, ((g, N, σ), f), rfl, Or.inr ⟨hpx, by first | exact h0.symm | (rw [h0]; rfl), rfl⟩, ⟨by rw [ht]; exact hB2, va_K.moved hW.alike hK⟩, by rw [ht]; exact hO1⟩, hS.F ht⟩) hS.2.2 dL_boat_34))
    · have hE2 : E9 = "java/lang/IndexOutOfBoundsException" := by rw [hE, h0]; rfl
      subst hE2
      refine vx_catch (name := "java/lang/IndexOutOfBoundsException") E.2.2.1 [] ⟨0, 20, 23, 21⟩ [⟨0, 20, 27, 13⟩, ⟨0, 20, 31, 15⟩] (htab.trans rfl) (fun z hz => absurd hz List.not_mem_nil) rfl (by decide) (hts (.classLink RL 21 "java/lang/IndexOutOfBoundsException") (by decide +kernel)) ((hX.2.2.2.1 (.castable "java/lang/IndexOutOfBoundsException" "java/lang/IndexOutOfBoundsException") (by decide)).use rfl) hce hcv hcl ?_
      show W p l e R s m _ below meth c H1 locs1 _ _ _ (F0 m 23 ls [.ref q9])
      refine lv_astore (lv' := [(9, .ref q9), (0, .ref (g 0 0)), (1, .int draught), (2, .int length), (3, .int weight), (4, .int trim), (5, .int swell), (6, .int piers_), (7, .int home), (8, .ref o)]) hx hb dL_boat_23 hl (by decide) rfl (fun ls hl => ?_)
      refine lv_iconst (v := 1) hx hb dL_boat_25 (by decide) ?_
      exact W.widen (k := 10) (n := 219) (Nat.le_of_eq (Nat.zero_add _)) (Nat.le_of_eq (Nat.zero_add _)) (vx_ret (W.iret (v := 1) B.exec B.bytes hr (fun t ht hW => ⟨⟨1, ((g, N, σ), f), rfl, Or.inr ⟨hpx, by first | exact h0.symm | (rw [h0]; rfl), rfl⟩, ⟨by rw [ht]; exact hB2, va_K.moved hW.alike hK⟩, by rw [ht]; exact hO1⟩, hS.F ht⟩) hS.2.2 dL_boat_26))
  · obtain ⟨hr1, ht0, hP2⟩ := hw
    have hB2 := hB.1
    rw [ht] at hB2
    have hO1 : H1[o]? = some (vp_cell cJ (1, .inr (.inl f))) := (hk o (Array.getElem?_eq_some_iff.mp hO).1 hAo).trans hO
    refine lv_i2l (v := r.toInt64) hx hb dL_boat_18 rfl ?_
    refine k_last hx hb hKJ hO1 hS (Or.inr rfl) dL_boat_19 (fun H2 locs2 hO2 hz2 oq2 hS => ?_)
    have hB3 := cG_kept hB2 (fun q _ hA => oq2 q (fun z => hAo (by rw [← z]; exact hA)))
    refine lv_goto (tgt := 35) hx hb dL_boat_20 (by decide) ?_
    refine lv_iconst (v := 0) hx hb dL_boat_35 (by decide) ?_
    exact W.widen (k := 10) (n := 219) (Nat.le_of_eq (Nat.zero_add _)) (Nat.le_of_eq (Nat.zero_add _)) (vx_ret (W.iret (v := 0) B.exec B.bytes hr (fun t ht hW => ⟨⟨0, (u, vp_updL f 0 r.toInt64), rfl, Or.inl ⟨ht0, rfl, hP2, by rw [hr1]; rfl⟩, ⟨by rw [ht]; exact hB3, va_K.moved hW.alike hK⟩, by rw [ht]; exact hO2⟩, hS.F ht⟩) hS.2.2 dL_boat_36))
theorem tv_swell (σ : St) (pier : Int32) (sw : Int32) : t_X5_swell σ pier sw = 0 ∨ t_X5_swell σ pier sw = 1 ∨ t_X5_swell σ pier sw = 3 := by
  unfold t_X5_swell
  repeat' split
  all_goals first | exact Or.inl rfl | exact Or.inr (Or.inl rfl) | exact Or.inr (Or.inr (rfl))
set_option maxHeartbeats 4000000 in
set_option maxRecDepth 100000 in
theorem x_swell (l : Launch) (hst : l.stackTraces = false) {D : va_G} {A : Nat → Prop} {cI cO cJ : ClassId} {aE o : Nat} {g : Gh} {N : Nat → Nat} (σ : St) (f : Nat → Int64) (pier : Int32) (sw : Int32) (hAo : ¬ A o) : vx_Met l yL_swell wsL_swell ({ frames := 8, cells := 2, slots := 12, locals := 128 }) (va_Pc [.ref (g 0 0), .int pier, .int sw, .ref o] (wW D cI cO cJ A aE g N σ o f)) (va_Qi (WP (t_X5_swell σ pier sw) (kA (t_X5_swell σ pier sw)) (q_X5_swell σ pier sw).toInt64 g N N (s_X5_swell σ pier sw) (s_X5_swell σ pier sw)) (wB D cI cO cJ A aE o) (fun q => A q ∨ q = o)) (fun _ _ _ => False) 2 12 (fun q => A q ∨ q = o) := by
  refine vx_ofWH (cc := cL_swell) (maxL := 5) (ret := (some .int)) (hh := [(0, 10, 13, 21), (0, 10, 17, 13)]) (by decide) rfl ?_
  intro p e s m args below meth c s₁ B hml hv
  obtain ⟨rfl, ⟨⟨⟨⟨ga, cap, hG, hI, hP⟩, hK⟩, hY⟩, hX⟩, hO, hKJ, hNc⟩ := hv
  have E : kE p c cL_swell s m ([.ref (g 0 0), .int pier, .int sw, .ref o] : List Value).toArray wsL_swell RL D cI cO := ⟨⟨B.exec, B.bytes⟩, atoms_spec (ws := wsL_swell) B.pre, findClass_of_methodNamed B.named, hK⟩
  have hx := E.1.1
  have hb := E.1.2
  have hts := E.2.1
  have hr := B.returns
  have hlocks := B.notSynchronized
  have htab := vx_table (x := yL_swell) (hh := [(0, 10, 13, 21), (0, 10, 17, 13)]) B (hts (.codeWith yL_swell cL_swell 5 (some .int) [(0, 10, 13, 21), (0, 10, 17, 13)]) List.mem_cons_self)
  obtain ⟨n0, n4, n5, n6, n8, n7, n1, n2, n3⟩ := id hI.1
  have hS : va_S (fun q => A q ∨ q = o) s.heap s.heap [] := va_S.rf
  have hR : 8 ≤ ((headSpec wsL_swell ({ frames := 8, cells := 2, slots := 12, locals := 128 })).room).frames ∧ 128 ≤ ((headSpec wsL_swell ({ frames := 8, cells := 2, slots := 12, locals := 128 })).room).locals := ⟨Nat.le_refl _, Nat.le_refl _⟩
  have hfm : 0 + 2 ≤ ((headSpec wsL_swell ({ frames := 8, cells := 2, slots := 12, locals := 128 })).room).cells ∧ 0 + 12 ≤ ((headSpec wsL_swell ({ frames := 8, cells := 2, slots := 12, locals := 128 })).room).slots := ⟨Nat.le_of_eq (Nat.zero_add _), Nat.le_of_eq (Nat.zero_add _)⟩
  have hl := lv_entry ([.ref (g 0 0), .int pier, .int sw, .ref o]) (n := 5) (Nat.le_of_ble_eq_true rfl)
  rw [lg_entry_eq]
  generalize (lg_sl ([.ref (g 0 0), .int pier, .int sw, .ref o]) ++ List.replicate (5 - (lg_sl ([.ref (g 0 0), .int pier, .int sw, .ref o])).length) Slot.unset).toArray = ls at hl ⊢
  generalize (headSpec wsL_swell ({ frames := 8, cells := 2, slots := 12, locals := 128 })).room = R at hR hfm ⊢
  refine lv_aload_n hx hb dL_swell_0 rfl (lv_at hl 3 rfl) ?_
  refine lv_iconst (v := 0) hx hb dL_swell_1 (by decide) ?_
  refine lv_aload_n hx hb dL_swell_2 rfl (lv_at hl 0 rfl) ?_
  refine lv_iload_n hx hb dL_swell_3 rfl (lv_at hl 1 rfl) ?_
  refine lv_iload_n hx hb dL_swell_4 rfl (lv_at hl 2 rfl) ?_
  refine vx_calli (vx_runV (As := [.int pier, .int sw]) (rest := [.int 0, .ref o]) ⟨E.1.1, E.1.2, hml, E.2.2.1, E.2.1⟩ (u_swell l hst (D := D) (A := A) (cI := cI) (cO := cO) (aE := aE) (g := g) (N := N) σ pier sw ) (cwV 2 hts gL_swell_X5_swell rfl rfl rfl (by decide +kernel) ⟨Nat.le_trans (Nat.le_of_ble_eq_true rfl) hR.1, Nat.le_trans (Nat.le_of_ble_eq_true rfl) hR.2⟩) ⟨gxBl, kr_0 (g := gw g ga) E.2.2.2 hP ⟨by decide, by omega, fun z => absurd z (by decide)⟩, fun U hU hW => ⟨rfl, ⟨⟨⟨by rw [hU]; exact ⟨ga, cap, hG, hI, hP⟩, va_K.moved hW.alike hK⟩, cY_at hY va_S.rf hU hW⟩, cX_at hX va_S.rf hU hW⟩⟩⟩ rfl rfl hl.1 rfl (lv_room (Nat.le_of_ble_eq_true rfl)) dL_swell_5 hfm) hS (fun q _ h => Or.inl h) (fun q h => Or.inl h) (fun q _ h => Or.inl h) (fun E9 ce q9 u t9 H1 locs1 ht hvm hpx hB hz hk hS hce hcv hcl => ?_) (fun r u t9 H1 locs1 ht hvm hw hB hz hk hS => ?_)
  · obtain ⟨hE, hB1⟩ := hB
    have hB2 := hB1.1
    rw [ht] at hB2
    have hO1 : H1[o]? = some (vp_cell cJ (1, .inr (.inl f))) := (hk o (Array.getElem?_eq_some_iff.mp hO).1 hAo).trans hO
    rcases tv_swell σ pier sw with h0 | h0 | h0
    · exact absurd h0 hpx
    · have hE2 : E9 = "java/lang/IllegalArgumentException" := by rw [hE, h0]; rfl
      subst hE2
      refine vx_catch (name := "java/lang/IllegalArgumentException") E.2.2.1 [⟨0, 10, 13, 21⟩] ⟨0, 10, 17, 13⟩ [] (htab.trans rfl) (fun z hz => by
        simp only [List.mem_cons, List.not_mem_nil, or_false] at hz
        subst hz
        exact Or.inr ⟨by decide, "java/lang/IndexOutOfBoundsException", hts (.classLink RL 21 "java/lang/IndexOutOfBoundsException") (by decide +kernel), hNc ("java/lang/IllegalArgumentException", "java/lang/IndexOutOfBoundsException") (by decide)⟩) rfl (by decide) (hts (.classLink RL 13 "java/lang/IllegalArgumentException") (by decide +kernel)) ((hX.2.2.2.1 (.castable "java/lang/IllegalArgumentException" "java/lang/IllegalArgumentException") (by decide)).use rfl) hce hcv hcl ?_
      show W p l e R s m _ below meth c H1 locs1 _ _ _ (F0 m 17 ls [.ref q9])
      refine lv_astore (lv' := [(4, .ref q9), (0, .ref (g 0 0)), (1, .int pier), (2, .int sw), (3, .ref o)]) hx hb dL_swell_17 hl (by decide) rfl (fun ls hl => ?_)
      refine lv_iconst (v := 2) hx hb dL_swell_19 (by decide) ?_
      exact W.widen (k := 2) (n := 12) (Nat.le_of_eq (Nat.zero_add _)) (Nat.le_of_eq (Nat.zero_add _)) (vx_ret (W.iret (v := 2) B.exec B.bytes hr (fun t ht hW => ⟨⟨2, ((g, N, s_X5_swell σ pier sw), f), rfl, Or.inr ⟨hpx, by first | exact h0.symm | (rw [h0]; rfl), rfl⟩, ⟨by rw [ht]; exact hB2, va_K.moved hW.alike hK⟩, by rw [ht]; exact hO1⟩, hS.F ht⟩) hS.2.2 dL_swell_20))
    · have hE2 : E9 = "java/lang/IndexOutOfBoundsException" := by rw [hE, h0]; rfl
      subst hE2
      refine vx_catch (name := "java/lang/IndexOutOfBoundsException") E.2.2.1 [] ⟨0, 10, 13, 21⟩ [⟨0, 10, 17, 13⟩] (htab.trans rfl) (fun z hz => absurd hz List.not_mem_nil) rfl (by decide) (hts (.classLink RL 21 "java/lang/IndexOutOfBoundsException") (by decide +kernel)) ((hX.2.2.2.1 (.castable "java/lang/IndexOutOfBoundsException" "java/lang/IndexOutOfBoundsException") (by decide)).use rfl) hce hcv hcl ?_
      show W p l e R s m _ below meth c H1 locs1 _ _ _ (F0 m 13 ls [.ref q9])
      refine lv_astore (lv' := [(4, .ref q9), (0, .ref (g 0 0)), (1, .int pier), (2, .int sw), (3, .ref o)]) hx hb dL_swell_13 hl (by decide) rfl (fun ls hl => ?_)
      refine lv_iconst (v := 1) hx hb dL_swell_15 (by decide) ?_
      exact W.widen (k := 2) (n := 12) (Nat.le_of_eq (Nat.zero_add _)) (Nat.le_of_eq (Nat.zero_add _)) (vx_ret (W.iret (v := 1) B.exec B.bytes hr (fun t ht hW => ⟨⟨1, ((g, N, s_X5_swell σ pier sw), f), rfl, Or.inr ⟨hpx, by first | exact h0.symm | (rw [h0]; rfl), rfl⟩, ⟨by rw [ht]; exact hB2, va_K.moved hW.alike hK⟩, by rw [ht]; exact hO1⟩, hS.F ht⟩) hS.2.2 dL_swell_16))
  · obtain ⟨hr1, ht0, hP2⟩ := hw
    have hB2 := hB.1
    rw [ht] at hB2
    have hO1 : H1[o]? = some (vp_cell cJ (1, .inr (.inl f))) := (hk o (Array.getElem?_eq_some_iff.mp hO).1 hAo).trans hO
    refine lv_i2l (v := r.toInt64) hx hb dL_swell_8 rfl ?_
    refine k_last hx hb hKJ hO1 hS (Or.inr rfl) dL_swell_9 (fun H2 locs2 hO2 hz2 oq2 hS => ?_)
    have hB3 := cG_kept hB2 (fun q _ hA => oq2 q (fun z => hAo (by rw [← z]; exact hA)))
    refine lv_goto (tgt := 21) hx hb dL_swell_10 (by decide) ?_
    refine lv_iconst (v := 0) hx hb dL_swell_21 (by decide) ?_
    exact W.widen (k := 2) (n := 12) (Nat.le_of_eq (Nat.zero_add _)) (Nat.le_of_eq (Nat.zero_add _)) (vx_ret (W.iret (v := 0) B.exec B.bytes hr (fun t ht hW => ⟨⟨0, (u, vp_updL f 0 r.toInt64), rfl, Or.inl ⟨ht0, rfl, hP2, by rw [hr1]; rfl⟩, ⟨by rw [ht]; exact hB3, va_K.moved hW.alike hK⟩, by rw [ht]; exact hO2⟩, hS.F ht⟩) hS.2.2 dL_swell_22))
theorem tv_breakDown (σ : St) (boat : Int32) : t_X5_breakDown σ boat = 0 ∨ t_X5_breakDown σ boat = 3 := by
  unfold t_X5_breakDown
  repeat' split
  all_goals first | exact Or.inl rfl | exact Or.inr (rfl)
set_option maxHeartbeats 4000000 in
set_option maxRecDepth 100000 in
theorem x_breakDown (l : Launch) (hst : l.stackTraces = false) {D : va_G} {A : Nat → Prop} {cI cO cJ : ClassId} {aE o : Nat} {g : Gh} {N : Nat → Nat} (σ : St) (f : Nat → Int64) (boat : Int32) (hAo : ¬ A o) : vx_Met l yL_breakDown wsL_breakDown ({ frames := 8, cells := 1, slots := 6, locals := 125 }) (va_Pc [.ref (g 0 0), .int boat, .ref o] (wW D cI cO cJ A aE g N σ o f)) (va_Qi (WP (t_X5_breakDown σ boat) (kA (t_X5_breakDown σ boat)) (if q_X5_breakDown σ boat = 0 then (0 : Int64) else 1) g N N (s_X5_breakDown σ boat) (s_X5_breakDown σ boat)) (wB D cI cO cJ A aE o) (fun q => A q ∨ q = o)) (fun _ _ _ => False) 1 6 (fun q => A q ∨ q = o) := by
  refine vx_ofWH (cc := cL_breakDown) (maxL := 4) (ret := (some .int)) (hh := [(0, 16, 19, 21)]) (by decide) rfl ?_
  intro p e s m args below meth c s₁ B hml hv
  obtain ⟨rfl, ⟨⟨⟨⟨ga, cap, hG, hI, hP⟩, hK⟩, hY⟩, hX⟩, hO, hKJ, hNc⟩ := hv
  have E : kE p c cL_breakDown s m ([.ref (g 0 0), .int boat, .ref o] : List Value).toArray wsL_breakDown RL D cI cO := ⟨⟨B.exec, B.bytes⟩, atoms_spec (ws := wsL_breakDown) B.pre, findClass_of_methodNamed B.named, hK⟩
  have hx := E.1.1
  have hb := E.1.2
  have hts := E.2.1
  have hr := B.returns
  have hlocks := B.notSynchronized
  have htab := vx_table (x := yL_breakDown) (hh := [(0, 16, 19, 21)]) B (hts (.codeWith yL_breakDown cL_breakDown 4 (some .int) [(0, 16, 19, 21)]) List.mem_cons_self)
  obtain ⟨n0, n4, n5, n6, n8, n7, n1, n2, n3⟩ := id hI.1
  have hS : va_S (fun q => A q ∨ q = o) s.heap s.heap [] := va_S.rf
  have hR : 8 ≤ ((headSpec wsL_breakDown ({ frames := 8, cells := 1, slots := 6, locals := 125 })).room).frames ∧ 125 ≤ ((headSpec wsL_breakDown ({ frames := 8, cells := 1, slots := 6, locals := 125 })).room).locals := ⟨Nat.le_refl _, Nat.le_refl _⟩
  have hfm : 0 + 1 ≤ ((headSpec wsL_breakDown ({ frames := 8, cells := 1, slots := 6, locals := 125 })).room).cells ∧ 0 + 6 ≤ ((headSpec wsL_breakDown ({ frames := 8, cells := 1, slots := 6, locals := 125 })).room).slots := ⟨Nat.le_of_eq (Nat.zero_add _), Nat.le_of_eq (Nat.zero_add _)⟩
  have hl := lv_entry ([.ref (g 0 0), .int boat, .ref o]) (n := 4) (Nat.le_of_ble_eq_true rfl)
  rw [lg_entry_eq]
  generalize (lg_sl ([.ref (g 0 0), .int boat, .ref o]) ++ List.replicate (4 - (lg_sl ([.ref (g 0 0), .int boat, .ref o])).length) Slot.unset).toArray = ls at hl ⊢
  generalize (headSpec wsL_breakDown ({ frames := 8, cells := 1, slots := 6, locals := 125 })).room = R at hR hfm ⊢
  refine lv_aload_n hx hb dL_breakDown_0 rfl (lv_at hl 2 rfl) ?_
  refine lv_iconst (v := 0) hx hb dL_breakDown_1 (by decide) ?_
  refine lv_aload_n hx hb dL_breakDown_2 rfl (lv_at hl 0 rfl) ?_
  refine lv_iload_n hx hb dL_breakDown_3 rfl (lv_at hl 1 rfl) ?_
  refine vx_calli (vx_runV (As := [.int boat]) (rest := [.int 0, .ref o]) ⟨E.1.1, E.1.2, hml, E.2.2.1, E.2.1⟩ (u_breakDown l hst (D := D) (A := A) (cI := cI) (cO := cO) (aE := aE) (g := g) (N := N) σ boat ) (cwV 1 hts gL_breakDown_X5_breakDown rfl rfl rfl (by decide +kernel) ⟨Nat.le_trans (Nat.le_of_ble_eq_true rfl) hR.1, Nat.le_trans (Nat.le_of_ble_eq_true rfl) hR.2⟩) ⟨gxBl, kr_0 (g := gw g ga) E.2.2.2 hP ⟨by decide, by omega, fun z => absurd z (by decide)⟩, fun U hU hW => ⟨rfl, ⟨⟨⟨by rw [hU]; exact ⟨ga, cap, hG, hI, hP⟩, va_K.moved hW.alike hK⟩, cY_at hY va_S.rf hU hW⟩, cX_at hX va_S.rf hU hW⟩⟩⟩ rfl rfl hl.1 rfl (lv_room (Nat.le_of_ble_eq_true rfl)) dL_breakDown_4 hfm) hS (fun q _ h => Or.inl h) (fun q h => Or.inl h) (fun q _ h => Or.inl h) (fun E9 ce q9 u t9 H1 locs1 ht hvm hpx hB hz hk hS hce hcv hcl => ?_) (fun r u t9 H1 locs1 ht hvm hw hB hz hk hS => ?_)
  · obtain ⟨hE, hB1⟩ := hB
    have hB2 := hB1.1
    rw [ht] at hB2
    have hO1 : H1[o]? = some (vp_cell cJ (1, .inr (.inl f))) := (hk o (Array.getElem?_eq_some_iff.mp hO).1 hAo).trans hO
    rcases tv_breakDown σ boat with h0 | h0
    · exact absurd h0 hpx
    · have hE2 : E9 = "java/lang/IndexOutOfBoundsException" := by rw [hE, h0]; rfl
      subst hE2
      refine vx_catch (name := "java/lang/IndexOutOfBoundsException") E.2.2.1 [] ⟨0, 16, 19, 21⟩ [] (htab.trans rfl) (fun z hz => absurd hz List.not_mem_nil) rfl (by decide) (hts (.classLink RL 21 "java/lang/IndexOutOfBoundsException") (by decide +kernel)) ((hX.2.2.2.1 (.castable "java/lang/IndexOutOfBoundsException" "java/lang/IndexOutOfBoundsException") (by decide)).use rfl) hce hcv hcl ?_
      show W p l e R s m _ below meth c H1 locs1 _ _ _ (F0 m 19 ls [.ref q9])
      refine lv_astore_n (lv' := [(3, .ref q9), (0, .ref (g 0 0)), (1, .int boat), (2, .ref o)]) hx hb dL_breakDown_19 rfl hl (by decide) rfl (fun ls hl => ?_)
      refine lv_iconst (v := 1) hx hb dL_breakDown_20 (by decide) ?_
      exact W.widen (k := 1) (n := 6) (Nat.le_of_eq (Nat.zero_add _)) (Nat.le_of_eq (Nat.zero_add _)) (vx_ret (W.iret (v := 1) B.exec B.bytes hr (fun t ht hW => ⟨⟨1, ((g, N, s_X5_breakDown σ boat), f), rfl, Or.inr ⟨hpx, by first | exact h0.symm | (rw [h0]; rfl), rfl⟩, ⟨by rw [ht]; exact hB2, va_K.moved hW.alike hK⟩, by rw [ht]; exact hO1⟩, hS.F ht⟩) hS.2.2 dL_breakDown_21))
  · obtain ⟨hr1, ht0, hP2⟩ := hw
    have hB2 := hB.1
    rw [ht] at hB2
    have hO1 : H1[o]? = some (vp_cell cJ (1, .inr (.inl f))) := (hk o (Array.getElem?_eq_some_iff.mp hO).1 hAo).trans hO
    refine lv_if_eq (tgt := 14) hx hb dL_breakDown_7 (by decide) (fun h9 => ?_) (fun h9 => ?_)
    · refine lv_lconst (v := 0) hx hb dL_breakDown_14 rfl ?_
      refine k_last hx hb hKJ hO1 hS (Or.inr rfl) dL_breakDown_15 (fun H2 locs2 hO2 hz2 oq2 hS => ?_)
      have hB3 := cG_kept hB2 (fun q _ hA => oq2 q (fun z => hAo (by rw [← z]; exact hA)))
      refine lv_goto (tgt := 22) hx hb dL_breakDown_16 (by decide) ?_
      refine lv_iconst (v := 0) hx hb dL_breakDown_22 (by decide) ?_
      exact W.widen (k := 1) (n := 6) (Nat.le_of_eq (Nat.zero_add _)) (Nat.le_of_eq (Nat.zero_add _)) (vx_ret (W.iret (v := 0) B.exec B.bytes hr (fun t ht hW => ⟨⟨0, (u, vp_updL f 0 0), rfl, Or.inl ⟨ht0, rfl, hP2, by rw [← hr1, if_pos h9]; rfl⟩, ⟨by rw [ht]; exact hB3, va_K.moved hW.alike hK⟩, by rw [ht]; exact hO2⟩, hS.F ht⟩) hS.2.2 dL_breakDown_23))
    · refine lv_lconst (v := 1) hx hb dL_breakDown_10 rfl ?_
      refine lv_goto (tgt := 15) hx hb dL_breakDown_11 (by decide) ?_
      refine k_last hx hb hKJ hO1 hS (Or.inr rfl) dL_breakDown_15 (fun H2 locs2 hO2 hz2 oq2 hS => ?_)
      have hB3 := cG_kept hB2 (fun q _ hA => oq2 q (fun z => hAo (by rw [← z]; exact hA)))
      refine lv_goto (tgt := 22) hx hb dL_breakDown_16 (by decide) ?_
      refine lv_iconst (v := 0) hx hb dL_breakDown_22 (by decide) ?_
      exact W.widen (k := 1) (n := 6) (Nat.le_of_eq (Nat.zero_add _)) (Nat.le_of_eq (Nat.zero_add _)) (vx_ret (W.iret (v := 0) B.exec B.bytes hr (fun t ht hW => ⟨⟨0, (u, vp_updL f 0 1), rfl, Or.inl ⟨ht0, rfl, hP2, by rw [← hr1, if_neg h9]; rfl⟩, ⟨by rw [ht]; exact hB3, va_K.moved hW.alike hK⟩, by rw [ht]; exact hO2⟩, hS.F ht⟩) hS.2.2 dL_breakDown_23))
theorem tv_relieve (σ : St) (boat : Int32) (other : Int32) : t_X5_relieve σ boat other = 0 ∨ t_X5_relieve σ boat other = 1 ∨ t_X5_relieve σ boat other = 3 := by
  unfold t_X5_relieve
  repeat' split
  all_goals first | exact Or.inl rfl | exact Or.inr (Or.inl rfl) | exact Or.inr (Or.inr (rfl))
set_option maxHeartbeats 4000000 in
set_option maxRecDepth 100000 in
theorem x_relieve (l : Launch) (hst : l.stackTraces = false) {D : va_G} {A : Nat → Prop} {cI cO cJ : ClassId} {aE o : Nat} {g : Gh} {N : Nat → Nat} (σ : St) (f : Nat → Int64) (boat : Int32) (other : Int32) (hAo : ¬ A o) : vx_Met l yL_relieve wsL_relieve ({ frames := 8, cells := 3, slots := 18, locals := 130 }) (va_Pc [.ref (g 0 0), .int boat, .int other, .ref o] (wW D cI cO cJ A aE g N σ o f)) (va_Qi (WP (t_X5_relieve σ boat other) (kA (t_X5_relieve σ boat other)) (q_X5_relieve σ boat other).toInt64 g N N (s_X5_relieve σ boat other) (s_X5_relieve σ boat other)) (wB D cI cO cJ A aE o) (fun q => A q ∨ q = o)) (fun _ _ _ => False) 3 18 (fun q => A q ∨ q = o) := by
  refine vx_ofWH (cc := cL_relieve) (maxL := 5) (ret := (some .int)) (hh := [(0, 10, 13, 21), (0, 10, 17, 13)]) (by decide) rfl ?_
  intro p e s m args below meth c s₁ B hml hv
  obtain ⟨rfl, ⟨⟨⟨⟨ga, cap, hG, hI, hP⟩, hK⟩, hY⟩, hX⟩, hO, hKJ, hNc⟩ := hv
  have E : kE p c cL_relieve s m ([.ref (g 0 0), .int boat, .int other, .ref o] : List Value).toArray wsL_relieve RL D cI cO := ⟨⟨B.exec, B.bytes⟩, atoms_spec (ws := wsL_relieve) B.pre, findClass_of_methodNamed B.named, hK⟩
  have hx := E.1.1
  have hb := E.1.2
  have hts := E.2.1
  have hr := B.returns
  have hlocks := B.notSynchronized
  have htab := vx_table (x := yL_relieve) (hh := [(0, 10, 13, 21), (0, 10, 17, 13)]) B (hts (.codeWith yL_relieve cL_relieve 5 (some .int) [(0, 10, 13, 21), (0, 10, 17, 13)]) List.mem_cons_self)
  obtain ⟨n0, n4, n5, n6, n8, n7, n1, n2, n3⟩ := id hI.1
  have hS : va_S (fun q => A q ∨ q = o) s.heap s.heap [] := va_S.rf
  have hR : 8 ≤ ((headSpec wsL_relieve ({ frames := 8, cells := 3, slots := 18, locals := 130 })).room).frames ∧ 130 ≤ ((headSpec wsL_relieve ({ frames := 8, cells := 3, slots := 18, locals := 130 })).room).locals := ⟨Nat.le_refl _, Nat.le_refl _⟩
  have hfm : 0 + 3 ≤ ((headSpec wsL_relieve ({ frames := 8, cells := 3, slots := 18, locals := 130 })).room).cells ∧ 0 + 18 ≤ ((headSpec wsL_relieve ({ frames := 8, cells := 3, slots := 18, locals := 130 })).room).slots := ⟨Nat.le_of_eq (Nat.zero_add _), Nat.le_of_eq (Nat.zero_add _)⟩
  have hl := lv_entry ([.ref (g 0 0), .int boat, .int other, .ref o]) (n := 5) (Nat.le_of_ble_eq_true rfl)
  rw [lg_entry_eq]
  generalize (lg_sl ([.ref (g 0 0), .int boat, .int other, .ref o]) ++ List.replicate (5 - (lg_sl ([.ref (g 0 0), .int boat, .int other, .ref o])).length) Slot.unset).toArray = ls at hl ⊢
  generalize (headSpec wsL_relieve ({ frames := 8, cells := 3, slots := 18, locals := 130 })).room = R at hR hfm ⊢
  refine lv_aload_n hx hb dL_relieve_0 rfl (lv_at hl 3 rfl) ?_
  refine lv_iconst (v := 0) hx hb dL_relieve_1 (by decide) ?_
  refine lv_aload_n hx hb dL_relieve_2 rfl (lv_at hl 0 rfl) ?_
  refine lv_iload_n hx hb dL_relieve_3 rfl (lv_at hl 1 rfl) ?_
  refine lv_iload_n hx hb dL_relieve_4 rfl (lv_at hl 2 rfl) ?_
  refine vx_calli (vx_runV (As := [.int boat, .int other]) (rest := [.int 0, .ref o]) ⟨E.1.1, E.1.2, hml, E.2.2.1, E.2.1⟩ (u_relieve l hst (D := D) (A := A) (cI := cI) (cO := cO) (aE := aE) (g := g) (N := N) σ boat other ) (cwV 2 hts gL_relieve_X5_relieve rfl rfl rfl (by decide +kernel) ⟨Nat.le_trans (Nat.le_of_ble_eq_true rfl) hR.1, Nat.le_trans (Nat.le_of_ble_eq_true rfl) hR.2⟩) ⟨gxBl, kr_0 (g := gw g ga) E.2.2.2 hP ⟨by decide, by omega, fun z => absurd z (by decide)⟩, fun U hU hW => ⟨rfl, ⟨⟨⟨by rw [hU]; exact ⟨ga, cap, hG, hI, hP⟩, va_K.moved hW.alike hK⟩, cY_at hY va_S.rf hU hW⟩, cX_at hX va_S.rf hU hW⟩⟩⟩ rfl rfl hl.1 rfl (lv_room (Nat.le_of_ble_eq_true rfl)) dL_relieve_5 hfm) hS (fun q _ h => Or.inl h) (fun q h => Or.inl h) (fun q _ h => Or.inl h) (fun E9 ce q9 u t9 H1 locs1 ht hvm hpx hB hz hk hS hce hcv hcl => ?_) (fun r u t9 H1 locs1 ht hvm hw hB hz hk hS => ?_)
  · obtain ⟨hE, hB1⟩ := hB
    have hB2 := hB1.1
    rw [ht] at hB2
    have hO1 : H1[o]? = some (vp_cell cJ (1, .inr (.inl f))) := (hk o (Array.getElem?_eq_some_iff.mp hO).1 hAo).trans hO
    rcases tv_relieve σ boat other with h0 | h0 | h0
    · exact absurd h0 hpx
    · have hE2 : E9 = "java/lang/IllegalArgumentException" := by rw [hE, h0]; rfl
      subst hE2
      refine vx_catch (name := "java/lang/IllegalArgumentException") E.2.2.1 [⟨0, 10, 13, 21⟩] ⟨0, 10, 17, 13⟩ [] (htab.trans rfl) (fun z hz => by
        simp only [List.mem_cons, List.not_mem_nil, or_false] at hz
        subst hz
        exact Or.inr ⟨by decide, "java/lang/IndexOutOfBoundsException", hts (.classLink RL 21 "java/lang/IndexOutOfBoundsException") (by decide +kernel), hNc ("java/lang/IllegalArgumentException", "java/lang/IndexOutOfBoundsException") (by decide)⟩) rfl (by decide) (hts (.classLink RL 13 "java/lang/IllegalArgumentException") (by decide +kernel)) ((hX.2.2.2.1 (.castable "java/lang/IllegalArgumentException" "java/lang/IllegalArgumentException") (by decide)).use rfl) hce hcv hcl ?_
      show W p l e R s m _ below meth c H1 locs1 _ _ _ (F0 m 17 ls [.ref q9])
      refine lv_astore (lv' := [(4, .ref q9), (0, .ref (g 0 0)), (1, .int boat), (2, .int other), (3, .ref o)]) hx hb dL_relieve_17 hl (by decide) rfl (fun ls hl => ?_)
      refine lv_iconst (v := 2) hx hb dL_relieve_19 (by decide) ?_
      exact W.widen (k := 3) (n := 18) (Nat.le_of_eq (Nat.zero_add _)) (Nat.le_of_eq (Nat.zero_add _)) (vx_ret (W.iret (v := 2) B.exec B.bytes hr (fun t ht hW => ⟨⟨2, ((g, N, s_X5_relieve σ boat other), f), rfl, Or.inr ⟨hpx, by first | exact h0.symm | (rw [h0]; rfl), rfl⟩, ⟨by rw [ht]; exact hB2, va_K.moved hW.alike hK⟩, by rw [ht]; exact hO1⟩, hS.F ht⟩) hS.2.2 dL_relieve_20))
    · have hE2 : E9 = "java/lang/IndexOutOfBoundsException" := by rw [hE, h0]; rfl
      subst hE2
      refine vx_catch (name := "java/lang/IndexOutOfBoundsException") E.2.2.1 [] ⟨0, 10, 13, 21⟩ [⟨0, 10, 17, 13⟩] (htab.trans rfl) (fun z hz => absurd hz List.not_mem_nil) rfl (by decide) (hts (.classLink RL 21 "java/lang/IndexOutOfBoundsException") (by decide +kernel)) ((hX.2.2.2.1 (.castable "java/lang/IndexOutOfBoundsException" "java/lang/IndexOutOfBoundsException") (by decide)).use rfl) hce hcv hcl ?_
      show W p l e R s m _ below meth c H1 locs1 _ _ _ (F0 m 13 ls [.ref q9])
      refine lv_astore (lv' := [(4, .ref q9), (0, .ref (g 0 0)), (1, .int boat), (2, .int other), (3, .ref o)]) hx hb dL_relieve_13 hl (by decide) rfl (fun ls hl => ?_)
      refine lv_iconst (v := 1) hx hb dL_relieve_15 (by decide) ?_
      exact W.widen (k := 3) (n := 18) (Nat.le_of_eq (Nat.zero_add _)) (Nat.le_of_eq (Nat.zero_add _)) (vx_ret (W.iret (v := 1) B.exec B.bytes hr (fun t ht hW => ⟨⟨1, ((g, N, s_X5_relieve σ boat other), f), rfl, Or.inr ⟨hpx, by first | exact h0.symm | (rw [h0]; rfl), rfl⟩, ⟨by rw [ht]; exact hB2, va_K.moved hW.alike hK⟩, by rw [ht]; exact hO1⟩, hS.F ht⟩) hS.2.2 dL_relieve_16))
  · obtain ⟨hr1, ht0, hP2⟩ := hw
    have hB2 := hB.1
    rw [ht] at hB2
    have hO1 : H1[o]? = some (vp_cell cJ (1, .inr (.inl f))) := (hk o (Array.getElem?_eq_some_iff.mp hO).1 hAo).trans hO
    refine lv_i2l (v := r.toInt64) hx hb dL_relieve_8 rfl ?_
    refine k_last hx hb hKJ hO1 hS (Or.inr rfl) dL_relieve_9 (fun H2 locs2 hO2 hz2 oq2 hS => ?_)
    have hB3 := cG_kept hB2 (fun q _ hA => oq2 q (fun z => hAo (by rw [← z]; exact hA)))
    refine lv_goto (tgt := 21) hx hb dL_relieve_10 (by decide) ?_
    refine lv_iconst (v := 0) hx hb dL_relieve_21 (by decide) ?_
    exact W.widen (k := 3) (n := 18) (Nat.le_of_eq (Nat.zero_add _)) (Nat.le_of_eq (Nat.zero_add _)) (vx_ret (W.iret (v := 0) B.exec B.bytes hr (fun t ht hW => ⟨⟨0, (u, vp_updL f 0 r.toInt64), rfl, Or.inl ⟨ht0, rfl, hP2, by rw [hr1]; rfl⟩, ⟨by rw [ht]; exact hB3, va_K.moved hW.alike hK⟩, by rw [ht]; exact hO2⟩, hS.F ht⟩) hS.2.2 dL_relieve_22))
theorem tv_sailing (σ : St) (boat : Int32) (from_ : Int32) (to_ : Int32) (ahead : Int32) (duration : Int32) (isLifeline : Int32) : t_X5_sailing σ boat from_ to_ ahead duration isLifeline = 0 ∨ t_X5_sailing σ boat from_ to_ ahead duration isLifeline = 1 ∨ t_X5_sailing σ boat from_ to_ ahead duration isLifeline = 2 ∨ t_X5_sailing σ boat from_ to_ ahead duration isLifeline = 3 := by
  unfold t_X5_sailing
  repeat' split
  all_goals first | exact Or.inl rfl | exact Or.inr (Or.inl rfl) | exact Or.inr (Or.inr (Or.inl rfl)) | exact Or.inr (Or.inr (Or.inr (rfl)))
set_option maxHeartbeats 4000000 in
set_option maxRecDepth 100000 in
theorem x_sailing (l : Launch) (hst : l.stackTraces = false) {D : va_G} {A : Nat → Prop} {cI cO cJ : ClassId} {aE o : Nat} {g : Gh} {N : Nat → Nat} (σ : St) (f : Nat → Int64) (boat : Int32) (from_ : Int32) (to_ : Int32) (ahead : Int32) (duration : Int32) (isLifeline : Int32) (h_isLifeline : isB isLifeline) (hAo : ¬ A o) : vx_Met l yL_sailing wsL_sailing ({ frames := 9, cells := 13, slots := 256, locals := 242 }) (va_Pc [.ref (g 0 0), .int boat, .int from_, .int to_, .int ahead, .int duration, .int isLifeline, .ref o] (wW D cI cO cJ A aE g N σ o f)) (va_Qi (WP (t_X5_sailing σ boat from_ to_ ahead duration isLifeline) (kA (t_X5_sailing σ boat from_ to_ ahead duration isLifeline)) (nI (N 6)).toInt64 g N (Ns N) (s_X5_sailing N σ boat from_ to_ ahead duration isLifeline) (σ)) (wB D cI cO cJ A aE o) (fun q => A q ∨ q = o)) (fun _ _ _ => False) 13 256 (fun q => A q ∨ q = o) := by
  refine vx_ofWH (cc := cL_sailing) (maxL := 9) (ret := (some .int)) (hh := [(0, 18, 21, 21), (0, 18, 25, 13), (0, 18, 29, 15)]) (by decide) rfl ?_
  intro p e s m args below meth c s₁ B hml hv
  obtain ⟨rfl, ⟨⟨⟨⟨ga, cap, hG, hI, hP⟩, hK⟩, hY⟩, hX⟩, hO, hKJ, hNc⟩ := hv
  have E : kE p c cL_sailing s m ([.ref (g 0 0), .int boat, .int from_, .int to_, .int ahead, .int duration, .int isLifeline, .ref o] : List Value).toArray wsL_sailing RL D cI cO := ⟨⟨B.exec, B.bytes⟩, atoms_spec (ws := wsL_sailing) B.pre, findClass_of_methodNamed B.named, hK⟩
  have hx := E.1.1
  have hb := E.1.2
  have hts := E.2.1
  have hr := B.returns
  have hlocks := B.notSynchronized
  have htab := vx_table (x := yL_sailing) (hh := [(0, 18, 21, 21), (0, 18, 25, 13), (0, 18, 29, 15)]) B (hts (.codeWith yL_sailing cL_sailing 9 (some .int) [(0, 18, 21, 21), (0, 18, 25, 13), (0, 18, 29, 15)]) List.mem_cons_self)
  obtain ⟨n0, n4, n5, n6, n8, n7, n1, n2, n3⟩ := id hI.1
  have hS : va_S (fun q => A q ∨ q = o) s.heap s.heap [] := va_S.rf
  have hR : 9 ≤ ((headSpec wsL_sailing ({ frames := 9, cells := 13, slots := 256, locals := 242 })).room).frames ∧ 242 ≤ ((headSpec wsL_sailing ({ frames := 9, cells := 13, slots := 256, locals := 242 })).room).locals := ⟨Nat.le_refl _, Nat.le_refl _⟩
  have hfm : 0 + 13 ≤ ((headSpec wsL_sailing ({ frames := 9, cells := 13, slots := 256, locals := 242 })).room).cells ∧ 0 + 256 ≤ ((headSpec wsL_sailing ({ frames := 9, cells := 13, slots := 256, locals := 242 })).room).slots := ⟨Nat.le_of_eq (Nat.zero_add _), Nat.le_of_eq (Nat.zero_add _)⟩
  have hl := lv_entry ([.ref (g 0 0), .int boat, .int from_, .int to_, .int ahead, .int duration, .int isLifeline, .ref o]) (n := 9) (Nat.le_of_ble_eq_true rfl)
  rw [lg_entry_eq]
  generalize (lg_sl ([.ref (g 0 0), .int boat, .int from_, .int to_, .int ahead, .int duration, .int isLifeline, .ref o]) ++ List.replicate (9 - (lg_sl ([.ref (g 0 0), .int boat, .int from_, .int to_, .int ahead, .int duration, .int isLifeline, .ref o])).length) Slot.unset).toArray = ls at hl ⊢
  generalize (headSpec wsL_sailing ({ frames := 9, cells := 13, slots := 256, locals := 242 })).room = R at hR hfm ⊢
  refine lv_aload hx hb dL_sailing_0 (lv_at hl 7 rfl) ?_
  refine lv_iconst (v := 0) hx hb dL_sailing_2 (by decide) ?_
  refine lv_aload_n hx hb dL_sailing_3 rfl (lv_at hl 0 rfl) ?_
  refine lv_iload_n hx hb dL_sailing_4 rfl (lv_at hl 1 rfl) ?_
  refine lv_iload_n hx hb dL_sailing_5 rfl (lv_at hl 2 rfl) ?_
  refine lv_iload_n hx hb dL_sailing_6 rfl (lv_at hl 3 rfl) ?_
  refine lv_iload hx hb dL_sailing_7 (lv_at hl 4 rfl) ?_
  refine lv_iload hx hb dL_sailing_9 (lv_at hl 5 rfl) ?_
  refine lv_iload hx hb dL_sailing_11 (lv_at hl 6 rfl) ?_
  refine vx_calli (vx_runV (As := [.int boat, .int from_, .int to_, .int ahead, .int duration, .int isLifeline]) (rest := [.int 0, .ref o]) ⟨E.1.1, E.1.2, hml, E.2.2.1, E.2.1⟩ (u_sailing l hst (D := D) (A := A) (cI := cI) (cO := cO) (aE := aE) (g := g) (N := N) σ boat from_ to_ ahead duration isLifeline h_isLifeline) (cwV 6 hts gL_sailing_X5_sailing rfl rfl rfl (by decide +kernel) ⟨Nat.le_trans (Nat.le_of_ble_eq_true rfl) hR.1, Nat.le_trans (Nat.le_of_ble_eq_true rfl) hR.2⟩) ⟨gxBl, kr_0 (g := gw g ga) E.2.2.2 hP ⟨by decide, by omega, fun z => absurd z (by decide)⟩, fun U hU hW => ⟨rfl, ⟨⟨⟨by rw [hU]; exact ⟨ga, cap, hG, hI, hP⟩, va_K.moved hW.alike hK⟩, cY_at hY va_S.rf hU hW⟩, cX_at hX va_S.rf hU hW⟩⟩⟩ rfl rfl hl.1 rfl (lv_room (Nat.le_of_ble_eq_true rfl)) dL_sailing_13 hfm) hS (fun q _ h => Or.inl h) (fun q h => Or.inl h) (fun q _ h => Or.inl h) (fun E9 ce q9 u t9 H1 locs1 ht hvm hpx hB hz hk hS hce hcv hcl => ?_) (fun r u t9 H1 locs1 ht hvm hw hB hz hk hS => ?_)
  · obtain ⟨hE, hB1⟩ := hB
    have hB2 := hB1.1
    rw [ht] at hB2
    have hO1 : H1[o]? = some (vp_cell cJ (1, .inr (.inl f))) := (hk o (Array.getElem?_eq_some_iff.mp hO).1 hAo).trans hO
    rcases tv_sailing σ boat from_ to_ ahead duration isLifeline with h0 | h0 | h0 | h0
    · exact absurd h0 hpx
    · have hE2 : E9 = "java/lang/IllegalArgumentException" := by rw [hE, h0]; rfl
      subst hE2
      refine vx_catch (name := "java/lang/IllegalArgumentException") E.2.2.1 [⟨0, 18, 21, 21⟩] ⟨0, 18, 25, 13⟩ [⟨0, 18, 29, 15⟩] (htab.trans rfl) (fun z hz => by
        simp only [List.mem_cons, List.not_mem_nil, or_false] at hz
        subst hz
        exact Or.inr ⟨by decide, "java/lang/IndexOutOfBoundsException", hts (.classLink RL 21 "java/lang/IndexOutOfBoundsException") (by decide +kernel), hNc ("java/lang/IllegalArgumentException", "java/lang/IndexOutOfBoundsException") (by decide)⟩) rfl (by decide) (hts (.classLink RL 13 "java/lang/IllegalArgumentException") (by decide +kernel)) ((hX.2.2.2.1 (.castable "java/lang/IllegalArgumentException" "java/lang/IllegalArgumentException") (by decide)).use rfl) hce hcv hcl ?_
      show W p l e R s m _ below meth c H1 locs1 _ _ _ (F0 m 25 ls [.ref q9])
      refine lv_astore (lv' := [(8, .ref q9), (0, .ref (g 0 0)), (1, .int boat), (2, .int from_), (3, .int to_), (4, .int ahead), (5, .int duration), (6, .int isLifeline), (7, .ref o)]) hx hb dL_sailing_25 hl (by decide) rfl (fun ls hl => ?_)
      refine lv_iconst (v := 2) hx hb dL_sailing_27 (by decide) ?_
      exact W.widen (k := 13) (n := 256) (Nat.le_of_eq (Nat.zero_add _)) (Nat.le_of_eq (Nat.zero_add _)) (vx_ret (W.iret (v := 2) B.exec B.bytes hr (fun t ht hW => ⟨⟨2, ((g, N, σ), f), rfl, Or.inr ⟨hpx, by first | exact h0.symm | (rw [h0]; rfl), rfl⟩, ⟨by rw [ht]; exact hB2, va_K.moved hW.alike hK⟩, by rw [ht]; exact hO1⟩, hS.F ht⟩) hS.2.2 dL_sailing_28))
    · have hE2 : E9 = "java/lang/IllegalStateException" := by rw [hE, h0]; rfl
      subst hE2
      refine vx_catch (name := "java/lang/IllegalStateException") E.2.2.1 [⟨0, 18, 21, 21⟩, ⟨0, 18, 25, 13⟩] ⟨0, 18, 29, 15⟩ [] (htab.trans rfl) (fun z hz => by
        simp only [List.mem_cons, List.not_mem_nil, or_false] at hz
        rcases hz with rfl | rfl
        · exact Or.inr ⟨by decide, "java/lang/IndexOutOfBoundsException", hts (.classLink RL 21 "java/lang/IndexOutOfBoundsException") (by decide +kernel), hNc ("java/lang/IllegalStateException", "java/lang/IndexOutOfBoundsException") (by decide)⟩
        · exact Or.inr ⟨by decide, "java/lang/IllegalArgumentException", hts (.classLink RL 13 "java/lang/IllegalArgumentException") (by decide +kernel), hNc ("java/lang/IllegalStateException", "java/lang/IllegalArgumentException") (by decide)⟩) rfl (by decide) (hts (.classLink RL 15 "java/lang/IllegalStateException") (by decide +kernel)) ((hX.2.2.2.1 (.castable "java/lang/IllegalStateException" "java/lang/IllegalStateException") (by decide)).use rfl) hce hcv hcl ?_
      show W p l e R s m _ below meth c H1 locs1 _ _ _ (F0 m 29 ls [.ref q9])
      refine lv_astore (lv' := [(8, .ref q9), (0, .ref (g 0 0)), (1, .int boat), (2, .int from_), (3, .int to_), (4, .int ahead), (5, .int duration), (6, .int isLifeline), (7, .ref o)]) hx hb dL_sailing_29 hl (by decide) rfl (fun ls hl => ?_)
      refine lv_iconst (v := 3) hx hb dL_sailing_31 (by decide) ?_
      exact W.widen (k := 13) (n := 256) (Nat.le_of_eq (Nat.zero_add _)) (Nat.le_of_eq (Nat.zero_add _)) (vx_ret (W.iret (v := 3) B.exec B.bytes hr (fun t ht hW => ⟨⟨3, ((g, N, σ), f), rfl, Or.inr ⟨hpx, by first | exact h0.symm | (rw [h0]; rfl), rfl⟩, ⟨by rw [ht]; exact hB2, va_K.moved hW.alike hK⟩, by rw [ht]; exact hO1⟩, hS.F ht⟩) hS.2.2 dL_sailing_32))
    · have hE2 : E9 = "java/lang/IndexOutOfBoundsException" := by rw [hE, h0]; rfl
      subst hE2
      refine vx_catch (name := "java/lang/IndexOutOfBoundsException") E.2.2.1 [] ⟨0, 18, 21, 21⟩ [⟨0, 18, 25, 13⟩, ⟨0, 18, 29, 15⟩] (htab.trans rfl) (fun z hz => absurd hz List.not_mem_nil) rfl (by decide) (hts (.classLink RL 21 "java/lang/IndexOutOfBoundsException") (by decide +kernel)) ((hX.2.2.2.1 (.castable "java/lang/IndexOutOfBoundsException" "java/lang/IndexOutOfBoundsException") (by decide)).use rfl) hce hcv hcl ?_
      show W p l e R s m _ below meth c H1 locs1 _ _ _ (F0 m 21 ls [.ref q9])
      refine lv_astore (lv' := [(8, .ref q9), (0, .ref (g 0 0)), (1, .int boat), (2, .int from_), (3, .int to_), (4, .int ahead), (5, .int duration), (6, .int isLifeline), (7, .ref o)]) hx hb dL_sailing_21 hl (by decide) rfl (fun ls hl => ?_)
      refine lv_iconst (v := 1) hx hb dL_sailing_23 (by decide) ?_
      exact W.widen (k := 13) (n := 256) (Nat.le_of_eq (Nat.zero_add _)) (Nat.le_of_eq (Nat.zero_add _)) (vx_ret (W.iret (v := 1) B.exec B.bytes hr (fun t ht hW => ⟨⟨1, ((g, N, σ), f), rfl, Or.inr ⟨hpx, by first | exact h0.symm | (rw [h0]; rfl), rfl⟩, ⟨by rw [ht]; exact hB2, va_K.moved hW.alike hK⟩, by rw [ht]; exact hO1⟩, hS.F ht⟩) hS.2.2 dL_sailing_24))
  · obtain ⟨hr1, ht0, hP2⟩ := hw
    have hB2 := hB.1
    rw [ht] at hB2
    have hO1 : H1[o]? = some (vp_cell cJ (1, .inr (.inl f))) := (hk o (Array.getElem?_eq_some_iff.mp hO).1 hAo).trans hO
    refine lv_i2l (v := r.toInt64) hx hb dL_sailing_16 rfl ?_
    refine k_last hx hb hKJ hO1 hS (Or.inr rfl) dL_sailing_17 (fun H2 locs2 hO2 hz2 oq2 hS => ?_)
    have hB3 := cG_kept hB2 (fun q _ hA => oq2 q (fun z => hAo (by rw [← z]; exact hA)))
    refine lv_goto (tgt := 33) hx hb dL_sailing_18 (by decide) ?_
    refine lv_iconst (v := 0) hx hb dL_sailing_33 (by decide) ?_
    exact W.widen (k := 13) (n := 256) (Nat.le_of_eq (Nat.zero_add _)) (Nat.le_of_eq (Nat.zero_add _)) (vx_ret (W.iret (v := 0) B.exec B.bytes hr (fun t ht hW => ⟨⟨0, (u, vp_updL f 0 r.toInt64), rfl, Or.inl ⟨ht0, rfl, hP2, by rw [hr1]; rfl⟩, ⟨by rw [ht]; exact hB3, va_K.moved hW.alike hK⟩, by rw [ht]; exact hO2⟩, hS.F ht⟩) hS.2.2 dL_sailing_34))
theorem tv_book (σ : St) (sailing : Int32) (kind : Int32) (length : Int32) (weight : Int32) (danger : Int32) (isUrgent : Int32) (isLorry : Int32) : t_X5_book σ sailing kind length weight danger isUrgent isLorry = 0 ∨ t_X5_book σ sailing kind length weight danger isUrgent isLorry = 1 ∨ t_X5_book σ sailing kind length weight danger isUrgent isLorry = 2 ∨ t_X5_book σ sailing kind length weight danger isUrgent isLorry = 3 := by
  unfold t_X5_book
  repeat' split
  all_goals first | exact Or.inl rfl | exact Or.inr (Or.inl rfl) | exact Or.inr (Or.inr (Or.inl rfl)) | exact Or.inr (Or.inr (Or.inr (rfl)))
set_option maxHeartbeats 4000000 in
set_option maxRecDepth 100000 in
theorem x_book (l : Launch) (hst : l.stackTraces = false) {D : va_G} {A : Nat → Prop} {cI cO cJ : ClassId} {aE o : Nat} {g : Gh} {N : Nat → Nat} (σ : St) (f : Nat → Int64) (sailing : Int32) (kind : Int32) (length : Int32) (weight : Int32) (danger : Int32) (isUrgent : Int32) (isLorry : Int32) (h_isUrgent : isB isUrgent) (h_isLorry : isB isLorry) (hAo : ¬ A o) : vx_Met l yL_book wsL_book ({ frames := 9, cells := 9, slots := 216, locals := 248 }) (va_Pc [.ref (g 0 0), .int sailing, .int kind, .int length, .int weight, .int danger, .int isUrgent, .int isLorry, .ref o] (wW D cI cO cJ A aE g N σ o f)) (va_Qi (WP (t_X5_book σ sailing kind length weight danger isUrgent isLorry) (kA (t_X5_book σ sailing kind length weight danger isUrgent isLorry)) (nI (N 8)).toInt64 g N (Nn N 8) (s_X5_book N σ sailing kind length weight danger isUrgent isLorry) (σ)) (wB D cI cO cJ A aE o) (fun q => A q ∨ q = o)) (fun _ _ _ => False) 9 216 (fun q => A q ∨ q = o) := by
  refine vx_ofWH (cc := cL_book) (maxL := 10) (ret := (some .int)) (hh := [(0, 20, 23, 21), (0, 20, 27, 13), (0, 20, 31, 15)]) (by decide) rfl ?_
  intro p e s m args below meth c s₁ B hml hv
  obtain ⟨rfl, ⟨⟨⟨⟨ga, cap, hG, hI, hP⟩, hK⟩, hY⟩, hX⟩, hO, hKJ, hNc⟩ := hv
  have E : kE p c cL_book s m ([.ref (g 0 0), .int sailing, .int kind, .int length, .int weight, .int danger, .int isUrgent, .int isLorry, .ref o] : List Value).toArray wsL_book RL D cI cO := ⟨⟨B.exec, B.bytes⟩, atoms_spec (ws := wsL_book) B.pre, findClass_of_methodNamed B.named, hK⟩
  have hx := E.1.1
  have hb := E.1.2
  have hts := E.2.1
  have hr := B.returns
  have hlocks := B.notSynchronized
  have htab := vx_table (x := yL_book) (hh := [(0, 20, 23, 21), (0, 20, 27, 13), (0, 20, 31, 15)]) B (hts (.codeWith yL_book cL_book 10 (some .int) [(0, 20, 23, 21), (0, 20, 27, 13), (0, 20, 31, 15)]) List.mem_cons_self)
  obtain ⟨n0, n4, n5, n6, n8, n7, n1, n2, n3⟩ := id hI.1
  have hS : va_S (fun q => A q ∨ q = o) s.heap s.heap [] := va_S.rf
  have hR : 9 ≤ ((headSpec wsL_book ({ frames := 9, cells := 9, slots := 216, locals := 248 })).room).frames ∧ 248 ≤ ((headSpec wsL_book ({ frames := 9, cells := 9, slots := 216, locals := 248 })).room).locals := ⟨Nat.le_refl _, Nat.le_refl _⟩
  have hfm : 0 + 9 ≤ ((headSpec wsL_book ({ frames := 9, cells := 9, slots := 216, locals := 248 })).room).cells ∧ 0 + 216 ≤ ((headSpec wsL_book ({ frames := 9, cells := 9, slots := 216, locals := 248 })).room).slots := ⟨Nat.le_of_eq (Nat.zero_add _), Nat.le_of_eq (Nat.zero_add _)⟩
  have hl := lv_entry ([.ref (g 0 0), .int sailing, .int kind, .int length, .int weight, .int danger, .int isUrgent, .int isLorry, .ref o]) (n := 10) (Nat.le_of_ble_eq_true rfl)
  rw [lg_entry_eq]
  generalize (lg_sl ([.ref (g 0 0), .int sailing, .int kind, .int length, .int weight, .int danger, .int isUrgent, .int isLorry, .ref o]) ++ List.replicate (10 - (lg_sl ([.ref (g 0 0), .int sailing, .int kind, .int length, .int weight, .int danger, .int isUrgent, .int isLorry, .ref o])).length) Slot.unset).toArray = ls at hl ⊢
  generalize (headSpec wsL_book ({ frames := 9, cells := 9, slots := 216, locals := 248 })).room = R at hR hfm ⊢
  refine lv_aload hx hb dL_book_0 (lv_at hl 8 rfl) ?_
  refine lv_iconst (v := 0) hx hb dL_book_2 (by decide) ?_
  refine lv_aload_n hx hb dL_book_3 rfl (lv_at hl 0 rfl) ?_
  refine lv_iload_n hx hb dL_book_4 rfl (lv_at hl 1 rfl) ?_
  refine lv_iload_n hx hb dL_book_5 rfl (lv_at hl 2 rfl) ?_
  refine lv_iload_n hx hb dL_book_6 rfl (lv_at hl 3 rfl) ?_
  refine lv_iload hx hb dL_book_7 (lv_at hl 4 rfl) ?_
  refine lv_iload hx hb dL_book_9 (lv_at hl 5 rfl) ?_
  refine lv_iload hx hb dL_book_11 (lv_at hl 6 rfl) ?_
  refine lv_iload hx hb dL_book_13 (lv_at hl 7 rfl) ?_
  refine vx_calli (vx_runV (As := [.int sailing, .int kind, .int length, .int weight, .int danger, .int isUrgent, .int isLorry]) (rest := [.int 0, .ref o]) ⟨E.1.1, E.1.2, hml, E.2.2.1, E.2.1⟩ (u_book l hst (D := D) (A := A) (cI := cI) (cO := cO) (aE := aE) (g := g) (N := N) σ sailing kind length weight danger isUrgent isLorry h_isUrgent h_isLorry) (cwV 7 hts gL_book_X5_book rfl rfl rfl (by decide +kernel) ⟨Nat.le_trans (Nat.le_of_ble_eq_true rfl) hR.1, Nat.le_trans (Nat.le_of_ble_eq_true rfl) hR.2⟩) ⟨gxBl, kr_0 (g := gw g ga) E.2.2.2 hP ⟨by decide, by omega, fun z => absurd z (by decide)⟩, fun U hU hW => ⟨rfl, ⟨⟨⟨by rw [hU]; exact ⟨ga, cap, hG, hI, hP⟩, va_K.moved hW.alike hK⟩, cY_at hY va_S.rf hU hW⟩, cX_at hX va_S.rf hU hW⟩⟩⟩ rfl rfl hl.1 rfl (lv_room (Nat.le_of_ble_eq_true rfl)) dL_book_15 hfm) hS (fun q _ h => Or.inl h) (fun q h => Or.inl h) (fun q _ h => Or.inl h) (fun E9 ce q9 u t9 H1 locs1 ht hvm hpx hB hz hk hS hce hcv hcl => ?_) (fun r u t9 H1 locs1 ht hvm hw hB hz hk hS => ?_)
  · obtain ⟨hE, hB1⟩ := hB
    have hB2 := hB1.1
    rw [ht] at hB2
    have hO1 : H1[o]? = some (vp_cell cJ (1, .inr (.inl f))) := (hk o (Array.getElem?_eq_some_iff.mp hO).1 hAo).trans hO
    rcases tv_book σ sailing kind length weight danger isUrgent isLorry with h0 | h0 | h0 | h0
    · exact absurd h0 hpx
    · have hE2 : E9 = "java/lang/IllegalArgumentException" := by rw [hE, h0]; rfl
      subst hE2
      refine vx_catch (name := "java/lang/IllegalArgumentException") E.2.2.1 [⟨0, 20, 23, 21⟩] ⟨0, 20, 27, 13⟩ [⟨0, 20, 31, 15⟩] (htab.trans rfl) (fun z hz => by
        simp only [List.mem_cons, List.not_mem_nil, or_false] at hz
        subst hz
        exact Or.inr ⟨by decide, "java/lang/IndexOutOfBoundsException", hts (.classLink RL 21 "java/lang/IndexOutOfBoundsException") (by decide +kernel), hNc ("java/lang/IllegalArgumentException", "java/lang/IndexOutOfBoundsException") (by decide)⟩) rfl (by decide) (hts (.classLink RL 13 "java/lang/IllegalArgumentException") (by decide +kernel)) ((hX.2.2.2.1 (.castable "java/lang/IllegalArgumentException" "java/lang/IllegalArgumentException") (by decide)).use rfl) hce hcv hcl ?_
      show W p l e R s m _ below meth c H1 locs1 _ _ _ (F0 m 27 ls [.ref q9])
      refine lv_astore (lv' := [(9, .ref q9), (0, .ref (g 0 0)), (1, .int sailing), (2, .int kind), (3, .int length), (4, .int weight), (5, .int danger), (6, .int isUrgent), (7, .int isLorry), (8, .ref o)]) hx hb dL_book_27 hl (by decide) rfl (fun ls hl => ?_)
      refine lv_iconst (v := 2) hx hb dL_book_29 (by decide) ?_
      exact W.widen (k := 9) (n := 216) (Nat.le_of_eq (Nat.zero_add _)) (Nat.le_of_eq (Nat.zero_add _)) (vx_ret (W.iret (v := 2) B.exec B.bytes hr (fun t ht hW => ⟨⟨2, ((g, N, σ), f), rfl, Or.inr ⟨hpx, by first | exact h0.symm | (rw [h0]; rfl), rfl⟩, ⟨by rw [ht]; exact hB2, va_K.moved hW.alike hK⟩, by rw [ht]; exact hO1⟩, hS.F ht⟩) hS.2.2 dL_book_30))
    · have hE2 : E9 = "java/lang/IllegalStateException" := by rw [hE, h0]; rfl
      subst hE2
      refine vx_catch (name := "java/lang/IllegalStateException") E.2.2.1 [⟨0, 20, 23, 21⟩, ⟨0, 20, 27, 13⟩] ⟨0, 20, 31, 15⟩ [] (htab.trans rfl) (fun z hz => by
        simp only [List.mem_cons, List.not_mem_nil, or_false] at hz
        rcases hz with rfl | rfl
        · exact Or.inr ⟨by decide, "java/lang/IndexOutOfBoundsException", hts (.classLink RL 21 "java/lang/IndexOutOfBoundsException") (by decide +kernel), hNc ("java/lang/IllegalStateException", "java/lang/IndexOutOfBoundsException") (by decide)⟩
        · exact Or.inr ⟨by decide, "java/lang/IllegalArgumentException", hts (.classLink RL 13 "java/lang/IllegalArgumentException") (by decide +kernel), hNc ("java/lang/IllegalStateException", "java/lang/IllegalArgumentException") (by decide)⟩) rfl (by decide) (hts (.classLink RL 15 "java/lang/IllegalStateException") (by decide +kernel)) ((hX.2.2.2.1 (.castable "java/lang/IllegalStateException" "java/lang/IllegalStateException") (by decide)).use rfl) hce hcv hcl ?_
      show W p l e R s m _ below meth c H1 locs1 _ _ _ (F0 m 31 ls [.ref q9])
      refine lv_astore (lv' := [(9, .ref q9), (0, .ref (g 0 0)), (1, .int sailing), (2, .int kind), (3, .int length), (4, .int weight), (5, .int danger), (6, .int isUrgent), (7, .int isLorry), (8, .ref o)]) hx hb dL_book_31 hl (by decide) rfl (fun ls hl => ?_)
      refine lv_iconst (v := 3) hx hb dL_book_33 (by decide) ?_
      exact W.widen (k := 9) (n := 216) (Nat.le_of_eq (Nat.zero_add _)) (Nat.le_of_eq (Nat.zero_add _)) (vx_ret (W.iret (v := 3) B.exec B.bytes hr (fun t ht hW => ⟨⟨3, ((g, N, σ), f), rfl, Or.inr ⟨hpx, by first | exact h0.symm | (rw [h0]; rfl), rfl⟩, ⟨by rw [ht]; exact hB2, va_K.moved hW.alike hK⟩, by rw [ht]; exact hO1⟩, hS.F ht⟩) hS.2.2 dL_book_34))
    · have hE2 : E9 = "java/lang/IndexOutOfBoundsException" := by rw [hE, h0]; rfl
      subst hE2
      refine vx_catch (name := "java/lang/IndexOutOfBoundsException") E.2.2.1 [] ⟨0, 20, 23, 21⟩ [⟨0, 20, 27, 13⟩, ⟨0, 20, 31, 15⟩] (htab.trans rfl) (fun z hz => absurd hz List.not_mem_nil) rfl (by decide) (hts (.classLink RL 21 "java/lang/IndexOutOfBoundsException") (by decide +kernel)) ((hX.2.2.2.1 (.castable "java/lang/IndexOutOfBoundsException" "java/lang/IndexOutOfBoundsException") (by decide)).use rfl) hce hcv hcl ?_
      show W p l e R s m _ below meth c H1 locs1 _ _ _ (F0 m 23 ls [.ref q9])
      refine lv_astore (lv' := [(9, .ref q9), (0, .ref (g 0 0)), (1, .int sailing), (2, .int kind), (3, .int length), (4, .int weight), (5, .int danger), (6, .int isUrgent), (7, .int isLorry), (8, .ref o)]) hx hb dL_book_23 hl (by decide) rfl (fun ls hl => ?_)
      refine lv_iconst (v := 1) hx hb dL_book_25 (by decide) ?_
      exact W.widen (k := 9) (n := 216) (Nat.le_of_eq (Nat.zero_add _)) (Nat.le_of_eq (Nat.zero_add _)) (vx_ret (W.iret (v := 1) B.exec B.bytes hr (fun t ht hW => ⟨⟨1, ((g, N, σ), f), rfl, Or.inr ⟨hpx, by first | exact h0.symm | (rw [h0]; rfl), rfl⟩, ⟨by rw [ht]; exact hB2, va_K.moved hW.alike hK⟩, by rw [ht]; exact hO1⟩, hS.F ht⟩) hS.2.2 dL_book_26))
  · obtain ⟨hr1, ht0, hP2⟩ := hw
    have hB2 := hB.1
    rw [ht] at hB2
    have hO1 : H1[o]? = some (vp_cell cJ (1, .inr (.inl f))) := (hk o (Array.getElem?_eq_some_iff.mp hO).1 hAo).trans hO
    refine lv_i2l (v := r.toInt64) hx hb dL_book_18 rfl ?_
    refine k_last hx hb hKJ hO1 hS (Or.inr rfl) dL_book_19 (fun H2 locs2 hO2 hz2 oq2 hS => ?_)
    have hB3 := cG_kept hB2 (fun q _ hA => oq2 q (fun z => hAo (by rw [← z]; exact hA)))
    refine lv_goto (tgt := 35) hx hb dL_book_20 (by decide) ?_
    refine lv_iconst (v := 0) hx hb dL_book_35 (by decide) ?_
    exact W.widen (k := 9) (n := 216) (Nat.le_of_eq (Nat.zero_add _)) (Nat.le_of_eq (Nat.zero_add _)) (vx_ret (W.iret (v := 0) B.exec B.bytes hr (fun t ht hW => ⟨⟨0, (u, vp_updL f 0 r.toInt64), rfl, Or.inl ⟨ht0, rfl, hP2, by rw [hr1]; rfl⟩, ⟨by rw [ht]; exact hB3, va_K.moved hW.alike hK⟩, by rw [ht]; exact hO2⟩, hS.F ht⟩) hS.2.2 dL_book_36))
theorem tv_rate (σ : St) (kind : Int32) (cents : Int32) : t_X5_rate σ kind cents = 0 ∨ t_X5_rate σ kind cents = 1 ∨ t_X5_rate σ kind cents = 3 := by
  unfold t_X5_rate
  repeat' split
  all_goals first | exact Or.inl rfl | exact Or.inr (Or.inl rfl) | exact Or.inr (Or.inr (rfl))
set_option maxHeartbeats 4000000 in
set_option maxRecDepth 100000 in
theorem x_rate (l : Launch) (hst : l.stackTraces = false) {D : va_G} {A : Nat → Prop} {cI cO cJ : ClassId} {aE o : Nat} {g : Gh} {N : Nat → Nat} (σ : St) (f : Nat → Int64) (kind : Int32) (cents : Int32) (hAo : ¬ A o) : vx_Met l yL_rate wsL_rate ({ frames := 8, cells := 2, slots := 12, locals := 127 }) (va_Pc [.ref (g 0 0), .int kind, .int cents, .ref o] (wW D cI cO cJ A aE g N σ o f)) (va_Qi (WP (t_X5_rate σ kind cents) (kA (t_X5_rate σ kind cents)) (q_X5_rate σ kind cents).toInt64 g N N (s_X5_rate σ kind cents) (s_X5_rate σ kind cents)) (wB D cI cO cJ A aE o) (fun q => A q ∨ q = o)) (fun _ _ _ => False) 2 12 (fun q => A q ∨ q = o) := by
  refine vx_ofWH (cc := cL_rate) (maxL := 5) (ret := (some .int)) (hh := [(0, 10, 13, 21), (0, 10, 17, 13)]) (by decide) rfl ?_
  intro p e s m args below meth c s₁ B hml hv
  obtain ⟨rfl, ⟨⟨⟨⟨ga, cap, hG, hI, hP⟩, hK⟩, hY⟩, hX⟩, hO, hKJ, hNc⟩ := hv
  have E : kE p c cL_rate s m ([.ref (g 0 0), .int kind, .int cents, .ref o] : List Value).toArray wsL_rate RL D cI cO := ⟨⟨B.exec, B.bytes⟩, atoms_spec (ws := wsL_rate) B.pre, findClass_of_methodNamed B.named, hK⟩
  have hx := E.1.1
  have hb := E.1.2
  have hts := E.2.1
  have hr := B.returns
  have hlocks := B.notSynchronized
  have htab := vx_table (x := yL_rate) (hh := [(0, 10, 13, 21), (0, 10, 17, 13)]) B (hts (.codeWith yL_rate cL_rate 5 (some .int) [(0, 10, 13, 21), (0, 10, 17, 13)]) List.mem_cons_self)
  obtain ⟨n0, n4, n5, n6, n8, n7, n1, n2, n3⟩ := id hI.1
  have hS : va_S (fun q => A q ∨ q = o) s.heap s.heap [] := va_S.rf
  have hR : 8 ≤ ((headSpec wsL_rate ({ frames := 8, cells := 2, slots := 12, locals := 127 })).room).frames ∧ 127 ≤ ((headSpec wsL_rate ({ frames := 8, cells := 2, slots := 12, locals := 127 })).room).locals := ⟨Nat.le_refl _, Nat.le_refl _⟩
  have hfm : 0 + 2 ≤ ((headSpec wsL_rate ({ frames := 8, cells := 2, slots := 12, locals := 127 })).room).cells ∧ 0 + 12 ≤ ((headSpec wsL_rate ({ frames := 8, cells := 2, slots := 12, locals := 127 })).room).slots := ⟨Nat.le_of_eq (Nat.zero_add _), Nat.le_of_eq (Nat.zero_add _)⟩
  have hl := lv_entry ([.ref (g 0 0), .int kind, .int cents, .ref o]) (n := 5) (Nat.le_of_ble_eq_true rfl)
  rw [lg_entry_eq]
  generalize (lg_sl ([.ref (g 0 0), .int kind, .int cents, .ref o]) ++ List.replicate (5 - (lg_sl ([.ref (g 0 0), .int kind, .int cents, .ref o])).length) Slot.unset).toArray = ls at hl ⊢
  generalize (headSpec wsL_rate ({ frames := 8, cells := 2, slots := 12, locals := 127 })).room = R at hR hfm ⊢
  refine lv_aload_n hx hb dL_rate_0 rfl (lv_at hl 3 rfl) ?_
  refine lv_iconst (v := 0) hx hb dL_rate_1 (by decide) ?_
  refine lv_aload_n hx hb dL_rate_2 rfl (lv_at hl 0 rfl) ?_
  refine lv_iload_n hx hb dL_rate_3 rfl (lv_at hl 1 rfl) ?_
  refine lv_iload_n hx hb dL_rate_4 rfl (lv_at hl 2 rfl) ?_
  refine vx_calli (vx_runV (As := [.int kind, .int cents]) (rest := [.int 0, .ref o]) ⟨E.1.1, E.1.2, hml, E.2.2.1, E.2.1⟩ (u_rate l hst (D := D) (A := A) (cI := cI) (cO := cO) (aE := aE) (g := g) (N := N) σ kind cents ) (cwV 2 hts gL_rate_X5_rate rfl rfl rfl (by decide +kernel) ⟨Nat.le_trans (Nat.le_of_ble_eq_true rfl) hR.1, Nat.le_trans (Nat.le_of_ble_eq_true rfl) hR.2⟩) ⟨gxBl, kr_0 (g := gw g ga) E.2.2.2 hP ⟨by decide, by omega, fun z => absurd z (by decide)⟩, fun U hU hW => ⟨rfl, ⟨⟨⟨by rw [hU]; exact ⟨ga, cap, hG, hI, hP⟩, va_K.moved hW.alike hK⟩, cY_at hY va_S.rf hU hW⟩, cX_at hX va_S.rf hU hW⟩⟩⟩ rfl rfl hl.1 rfl (lv_room (Nat.le_of_ble_eq_true rfl)) dL_rate_5 hfm) hS (fun q _ h => Or.inl h) (fun q h => Or.inl h) (fun q _ h => Or.inl h) (fun E9 ce q9 u t9 H1 locs1 ht hvm hpx hB hz hk hS hce hcv hcl => ?_) (fun r u t9 H1 locs1 ht hvm hw hB hz hk hS => ?_)
  · obtain ⟨hE, hB1⟩ := hB
    have hB2 := hB1.1
    rw [ht] at hB2
    have hO1 : H1[o]? = some (vp_cell cJ (1, .inr (.inl f))) := (hk o (Array.getElem?_eq_some_iff.mp hO).1 hAo).trans hO
    rcases tv_rate σ kind cents with h0 | h0 | h0
    · exact absurd h0 hpx
    · have hE2 : E9 = "java/lang/IllegalArgumentException" := by rw [hE, h0]; rfl
      subst hE2
      refine vx_catch (name := "java/lang/IllegalArgumentException") E.2.2.1 [⟨0, 10, 13, 21⟩] ⟨0, 10, 17, 13⟩ [] (htab.trans rfl) (fun z hz => by
        simp only [List.mem_cons, List.not_mem_nil, or_false] at hz
        subst hz
        exact Or.inr ⟨by decide, "java/lang/IndexOutOfBoundsException", hts (.classLink RL 21 "java/lang/IndexOutOfBoundsException") (by decide +kernel), hNc ("java/lang/IllegalArgumentException", "java/lang/IndexOutOfBoundsException") (by decide)⟩) rfl (by decide) (hts (.classLink RL 13 "java/lang/IllegalArgumentException") (by decide +kernel)) ((hX.2.2.2.1 (.castable "java/lang/IllegalArgumentException" "java/lang/IllegalArgumentException") (by decide)).use rfl) hce hcv hcl ?_
      show W p l e R s m _ below meth c H1 locs1 _ _ _ (F0 m 17 ls [.ref q9])
      refine lv_astore (lv' := [(4, .ref q9), (0, .ref (g 0 0)), (1, .int kind), (2, .int cents), (3, .ref o)]) hx hb dL_rate_17 hl (by decide) rfl (fun ls hl => ?_)
      refine lv_iconst (v := 2) hx hb dL_rate_19 (by decide) ?_
      exact W.widen (k := 2) (n := 12) (Nat.le_of_eq (Nat.zero_add _)) (Nat.le_of_eq (Nat.zero_add _)) (vx_ret (W.iret (v := 2) B.exec B.bytes hr (fun t ht hW => ⟨⟨2, ((g, N, s_X5_rate σ kind cents), f), rfl, Or.inr ⟨hpx, by first | exact h0.symm | (rw [h0]; rfl), rfl⟩, ⟨by rw [ht]; exact hB2, va_K.moved hW.alike hK⟩, by rw [ht]; exact hO1⟩, hS.F ht⟩) hS.2.2 dL_rate_20))
    · have hE2 : E9 = "java/lang/IndexOutOfBoundsException" := by rw [hE, h0]; rfl
      subst hE2
      refine vx_catch (name := "java/lang/IndexOutOfBoundsException") E.2.2.1 [] ⟨0, 10, 13, 21⟩ [⟨0, 10, 17, 13⟩] (htab.trans rfl) (fun z hz => absurd hz List.not_mem_nil) rfl (by decide) (hts (.classLink RL 21 "java/lang/IndexOutOfBoundsException") (by decide +kernel)) ((hX.2.2.2.1 (.castable "java/lang/IndexOutOfBoundsException" "java/lang/IndexOutOfBoundsException") (by decide)).use rfl) hce hcv hcl ?_
      show W p l e R s m _ below meth c H1 locs1 _ _ _ (F0 m 13 ls [.ref q9])
      refine lv_astore (lv' := [(4, .ref q9), (0, .ref (g 0 0)), (1, .int kind), (2, .int cents), (3, .ref o)]) hx hb dL_rate_13 hl (by decide) rfl (fun ls hl => ?_)
      refine lv_iconst (v := 1) hx hb dL_rate_15 (by decide) ?_
      exact W.widen (k := 2) (n := 12) (Nat.le_of_eq (Nat.zero_add _)) (Nat.le_of_eq (Nat.zero_add _)) (vx_ret (W.iret (v := 1) B.exec B.bytes hr (fun t ht hW => ⟨⟨1, ((g, N, s_X5_rate σ kind cents), f), rfl, Or.inr ⟨hpx, by first | exact h0.symm | (rw [h0]; rfl), rfl⟩, ⟨by rw [ht]; exact hB2, va_K.moved hW.alike hK⟩, by rw [ht]; exact hO1⟩, hS.F ht⟩) hS.2.2 dL_rate_16))
  · obtain ⟨hr1, ht0, hP2⟩ := hw
    have hB2 := hB.1
    rw [ht] at hB2
    have hO1 : H1[o]? = some (vp_cell cJ (1, .inr (.inl f))) := (hk o (Array.getElem?_eq_some_iff.mp hO).1 hAo).trans hO
    refine lv_i2l (v := r.toInt64) hx hb dL_rate_8 rfl ?_
    refine k_last hx hb hKJ hO1 hS (Or.inr rfl) dL_rate_9 (fun H2 locs2 hO2 hz2 oq2 hS => ?_)
    have hB3 := cG_kept hB2 (fun q _ hA => oq2 q (fun z => hAo (by rw [← z]; exact hA)))
    refine lv_goto (tgt := 21) hx hb dL_rate_10 (by decide) ?_
    refine lv_iconst (v := 0) hx hb dL_rate_21 (by decide) ?_
    exact W.widen (k := 2) (n := 12) (Nat.le_of_eq (Nat.zero_add _)) (Nat.le_of_eq (Nat.zero_add _)) (vx_ret (W.iret (v := 0) B.exec B.bytes hr (fun t ht hW => ⟨⟨0, (u, vp_updL f 0 r.toInt64), rfl, Or.inl ⟨ht0, rfl, hP2, by rw [hr1]; rfl⟩, ⟨by rw [ht]; exact hB3, va_K.moved hW.alike hK⟩, by rw [ht]; exact hO2⟩, hS.F ht⟩) hS.2.2 dL_rate_22))
theorem tv_pass (σ : St) (minutes : Int32) : t_pass minutes = 0 ∨ t_pass minutes = 1 := by
  unfold t_pass
  repeat' split
  all_goals first | exact Or.inl rfl | exact Or.inr (rfl)
set_option maxHeartbeats 4000000 in
set_option maxRecDepth 100000 in
theorem x_pass (l : Launch) (hst : l.stackTraces = false) {D : va_G} {A : Nat → Prop} {cI cO cJ : ClassId} {aE o : Nat} {g : Gh} {N : Nat → Nat} (σ : St) (f : Nat → Int64) (minutes : Int32) (hZ : KPz N σ) (hAo : ¬ A o) : vx_Met l yL_pass wsL_pass ({ frames := 11, cells := 1 + 2 * (cn8 N (s_X5_pass σ minutes) - cn8 N σ), slots := 6 + 300 * (cn8 N (s_X5_pass σ minutes) - cn8 N σ), locals := 308 }) (va_Pc [.ref (g 0 0), .int minutes, .ref o] (wW D cI cO cJ A aE g N σ o f)) (va_Qi (WP (t_pass minutes) (t_pass minutes) (q_X5_pass σ minutes).toInt64 g N N (s_X5_pass σ minutes) (σ)) (wB D cI cO cJ A aE o) (fun q => A q ∨ q = o)) (fun _ _ _ => False) (1 + 2 * (cn8 N (s_X5_pass σ minutes) - cn8 N σ)) (6 + 300 * (cn8 N (s_X5_pass σ minutes) - cn8 N σ)) (fun q => A q ∨ q = o) := by
  refine vx_ofWH (cc := cL_pass) (maxL := 4) (ret := (some .int)) (hh := [(0, 9, 12, 13)]) (by decide) rfl ?_
  intro p e s m args below meth c s₁ B hml hv
  obtain ⟨rfl, ⟨⟨⟨⟨ga, cap, hG, hI, hP⟩, hK⟩, hY⟩, hX⟩, hO, hKJ, hNc⟩ := hv
  have E : kE p c cL_pass s m ([.ref (g 0 0), .int minutes, .ref o] : List Value).toArray wsL_pass RL D cI cO := ⟨⟨B.exec, B.bytes⟩, atoms_spec (ws := wsL_pass) B.pre, findClass_of_methodNamed B.named, hK⟩
  have hx := E.1.1
  have hb := E.1.2
  have hts := E.2.1
  have hr := B.returns
  have hlocks := B.notSynchronized
  have htab := vx_table (x := yL_pass) (hh := [(0, 9, 12, 13)]) B (hts (.codeWith yL_pass cL_pass 4 (some .int) [(0, 9, 12, 13)]) List.mem_cons_self)
  obtain ⟨n0, n4, n5, n6, n8, n7, n1, n2, n3⟩ := id hI.1
  have hS : va_S (fun q => A q ∨ q = o) s.heap s.heap [] := va_S.rf
  have hR : 11 ≤ ((headSpec wsL_pass ({ frames := 11, cells := 1 + 2 * (cn8 N (s_X5_pass σ minutes) - cn8 N σ), slots := 6 + 300 * (cn8 N (s_X5_pass σ minutes) - cn8 N σ), locals := 308 })).room).frames ∧ 308 ≤ ((headSpec wsL_pass ({ frames := 11, cells := 1 + 2 * (cn8 N (s_X5_pass σ minutes) - cn8 N σ), slots := 6 + 300 * (cn8 N (s_X5_pass σ minutes) - cn8 N σ), locals := 308 })).room).locals := ⟨Nat.le_refl _, Nat.le_refl _⟩
  have hfm : 0 + (1 + 2 * (cn8 N (s_X5_pass σ minutes) - cn8 N σ)) ≤ ((headSpec wsL_pass ({ frames := 11, cells := 1 + 2 * (cn8 N (s_X5_pass σ minutes) - cn8 N σ), slots := 6 + 300 * (cn8 N (s_X5_pass σ minutes) - cn8 N σ), locals := 308 })).room).cells ∧ 0 + (6 + 300 * (cn8 N (s_X5_pass σ minutes) - cn8 N σ)) ≤ ((headSpec wsL_pass ({ frames := 11, cells := 1 + 2 * (cn8 N (s_X5_pass σ minutes) - cn8 N σ), slots := 6 + 300 * (cn8 N (s_X5_pass σ minutes) - cn8 N σ), locals := 308 })).room).slots := ⟨Nat.le_of_eq (Nat.zero_add _), Nat.le_of_eq (Nat.zero_add _)⟩
  have hl := lv_entry ([.ref (g 0 0), .int minutes, .ref o]) (n := 4) (Nat.le_of_ble_eq_true rfl)
  rw [lg_entry_eq]
  generalize (lg_sl ([.ref (g 0 0), .int minutes, .ref o]) ++ List.replicate (4 - (lg_sl ([.ref (g 0 0), .int minutes, .ref o])).length) Slot.unset).toArray = ls at hl ⊢
  generalize (headSpec wsL_pass ({ frames := 11, cells := 1 + 2 * (cn8 N (s_X5_pass σ minutes) - cn8 N σ), slots := 6 + 300 * (cn8 N (s_X5_pass σ minutes) - cn8 N σ), locals := 308 })).room = R at hR hfm ⊢
  refine lv_aload_n hx hb dL_pass_0 rfl (lv_at hl 2 rfl) ?_
  refine lv_iconst (v := 0) hx hb dL_pass_1 (by decide) ?_
  refine lv_aload_n hx hb dL_pass_2 rfl (lv_at hl 0 rfl) ?_
  refine lv_iload_n hx hb dL_pass_3 rfl (lv_at hl 1 rfl) ?_
  refine vx_calli (vx_runV (As := [.int minutes]) (rest := [.int 0, .ref o]) ⟨E.1.1, E.1.2, hml, E.2.2.1, E.2.1⟩ (u_pass l hst (D := D) (A := A) (cI := cI) (cO := cO) (aE := aE) (g := g) (N := N) σ minutes hZ) (cwV 1 hts gL_pass_X5_pass rfl rfl rfl (by decide +kernel) ⟨Nat.le_trans (Nat.le_of_ble_eq_true rfl) hR.1, Nat.le_trans (Nat.le_of_ble_eq_true rfl) hR.2⟩) ⟨gxBl, kr_0 (g := gw g ga) E.2.2.2 hP ⟨by decide, by omega, fun z => absurd z (by decide)⟩, fun U hU hW => ⟨rfl, ⟨⟨⟨by rw [hU]; exact ⟨ga, cap, hG, hI, hP⟩, va_K.moved hW.alike hK⟩, cY_at hY va_S.rf hU hW⟩, cX_at hX va_S.rf hU hW⟩⟩⟩ rfl rfl hl.1 rfl (lv_room (Nat.le_of_ble_eq_true rfl)) dL_pass_4 hfm) hS (fun q _ h => Or.inl h) (fun q h => Or.inl h) (fun q _ h => Or.inl h) (fun E9 ce q9 u t9 H1 locs1 ht hvm hpx hB hz hk hS hce hcv hcl => ?_) (fun r u t9 H1 locs1 ht hvm hw hB hz hk hS => ?_)
  · obtain ⟨hE, hB1⟩ := hB
    have hB2 := hB1.1
    rw [ht] at hB2
    have hO1 : H1[o]? = some (vp_cell cJ (1, .inr (.inl f))) := (hk o (Array.getElem?_eq_some_iff.mp hO).1 hAo).trans hO
    rcases tv_pass σ minutes with h0 | h0
    · exact absurd h0 hpx
    · have hE2 : E9 = "java/lang/IllegalArgumentException" := by rw [hE, h0]; rfl
      subst hE2
      refine vx_catch (name := "java/lang/IllegalArgumentException") E.2.2.1 [] ⟨0, 9, 12, 13⟩ [] (htab.trans rfl) (fun z hz => absurd hz List.not_mem_nil) rfl (by decide) (hts (.classLink RL 13 "java/lang/IllegalArgumentException") (by decide +kernel)) ((hX.2.2.2.1 (.castable "java/lang/IllegalArgumentException" "java/lang/IllegalArgumentException") (by decide)).use rfl) hce hcv hcl ?_
      show W p l e R s m _ below meth c H1 locs1 _ _ _ (F0 m 12 ls [.ref q9])
      refine lv_astore_n (lv' := [(3, .ref q9), (0, .ref (g 0 0)), (1, .int minutes), (2, .ref o)]) hx hb dL_pass_12 rfl hl (by decide) rfl (fun ls hl => ?_)
      refine lv_iconst (v := 1) hx hb dL_pass_13 (by decide) ?_
      exact W.widen (k := (1 + 2 * (cn8 N (s_X5_pass σ minutes) - cn8 N σ))) (n := (6 + 300 * (cn8 N (s_X5_pass σ minutes) - cn8 N σ))) (Nat.le_of_eq (Nat.zero_add _)) (Nat.le_of_eq (Nat.zero_add _)) (vx_ret (W.iret (v := 1) B.exec B.bytes hr (fun t ht hW => ⟨⟨1, ((g, N, σ), f), rfl, Or.inr ⟨hpx, by first | exact h0.symm | (rw [h0]; rfl), rfl⟩, ⟨by rw [ht]; exact hB2, va_K.moved hW.alike hK⟩, by rw [ht]; exact hO1⟩, hS.F ht⟩) hS.2.2 dL_pass_14))
  · obtain ⟨hr1, ht0, hP2⟩ := hw
    have hB2 := hB.1
    rw [ht] at hB2
    have hO1 : H1[o]? = some (vp_cell cJ (1, .inr (.inl f))) := (hk o (Array.getElem?_eq_some_iff.mp hO).1 hAo).trans hO
    refine lv_i2l (v := r.toInt64) hx hb dL_pass_7 rfl ?_
    refine k_last hx hb hKJ hO1 hS (Or.inr rfl) dL_pass_8 (fun H2 locs2 hO2 hz2 oq2 hS => ?_)
    have hB3 := cG_kept hB2 (fun q _ hA => oq2 q (fun z => hAo (by rw [← z]; exact hA)))
    refine lv_goto (tgt := 15) hx hb dL_pass_9 (by decide) ?_
    refine lv_iconst (v := 0) hx hb dL_pass_15 (by decide) ?_
    exact W.widen (k := (1 + 2 * (cn8 N (s_X5_pass σ minutes) - cn8 N σ))) (n := (6 + 300 * (cn8 N (s_X5_pass σ minutes) - cn8 N σ))) (Nat.le_of_eq (Nat.zero_add _)) (Nat.le_of_eq (Nat.zero_add _)) (vx_ret (W.iret (v := 0) B.exec B.bytes hr (fun t ht hW => ⟨⟨0, (u, vp_updL f 0 r.toInt64), rfl, Or.inl ⟨ht0, rfl, hP2, by rw [hr1]; rfl⟩, ⟨by rw [ht]; exact hB3, va_K.moved hW.alike hK⟩, by rw [ht]; exact hO2⟩, hS.F ht⟩) hS.2.2 dL_pass_16))
theorem tv_tide (σ : St) (pier : Int32) (minute : Int32) : t_X5_tide σ pier minute = 0 ∨ t_X5_tide σ pier minute = 1 ∨ t_X5_tide σ pier minute = 3 := by
  unfold t_X5_tide
  repeat' split
  all_goals first | exact Or.inl rfl | exact Or.inr (Or.inl rfl) | exact Or.inr (Or.inr (rfl))
set_option maxHeartbeats 4000000 in
set_option maxRecDepth 100000 in
theorem x_tide (l : Launch) (hst : l.stackTraces = false) {D : va_G} {A : Nat → Prop} {cI cO cJ : ClassId} {aE o : Nat} {g : Gh} {N : Nat → Nat} (σ : St) (f : Nat → Int64) (pier : Int32) (minute : Int32) (hAo : ¬ A o) : vx_Met l yL_tide wsL_tide ({ frames := 8, cells := 2, slots := 12, locals := 126 }) (va_Pc [.ref (g 0 0), .int pier, .int minute, .ref o] (wW D cI cO cJ A aE g N σ o f)) (va_Qi (WP (t_X5_tide σ pier minute) (kA (t_X5_tide σ pier minute)) (q_X5_tide σ pier minute).toInt64 g N N (σ) (σ)) (wB D cI cO cJ A aE o) (fun q => A q ∨ q = o)) (fun _ _ _ => False) 2 12 (fun q => A q ∨ q = o) := by
  refine vx_ofWH (cc := cL_tide) (maxL := 5) (ret := (some .int)) (hh := [(0, 10, 13, 21), (0, 10, 17, 13)]) (by decide) rfl ?_
  intro p e s m args below meth c s₁ B hml hv
  obtain ⟨rfl, ⟨⟨⟨⟨ga, cap, hG, hI, hP⟩, hK⟩, hY⟩, hX⟩, hO, hKJ, hNc⟩ := hv
  have E : kE p c cL_tide s m ([.ref (g 0 0), .int pier, .int minute, .ref o] : List Value).toArray wsL_tide RL D cI cO := ⟨⟨B.exec, B.bytes⟩, atoms_spec (ws := wsL_tide) B.pre, findClass_of_methodNamed B.named, hK⟩
  have hx := E.1.1
  have hb := E.1.2
  have hts := E.2.1
  have hr := B.returns
  have hlocks := B.notSynchronized
  have htab := vx_table (x := yL_tide) (hh := [(0, 10, 13, 21), (0, 10, 17, 13)]) B (hts (.codeWith yL_tide cL_tide 5 (some .int) [(0, 10, 13, 21), (0, 10, 17, 13)]) List.mem_cons_self)
  obtain ⟨n0, n4, n5, n6, n8, n7, n1, n2, n3⟩ := id hI.1
  have hS : va_S (fun q => A q ∨ q = o) s.heap s.heap [] := va_S.rf
  have hR : 8 ≤ ((headSpec wsL_tide ({ frames := 8, cells := 2, slots := 12, locals := 126 })).room).frames ∧ 126 ≤ ((headSpec wsL_tide ({ frames := 8, cells := 2, slots := 12, locals := 126 })).room).locals := ⟨Nat.le_refl _, Nat.le_refl _⟩
  have hfm : 0 + 2 ≤ ((headSpec wsL_tide ({ frames := 8, cells := 2, slots := 12, locals := 126 })).room).cells ∧ 0 + 12 ≤ ((headSpec wsL_tide ({ frames := 8, cells := 2, slots := 12, locals := 126 })).room).slots := ⟨Nat.le_of_eq (Nat.zero_add _), Nat.le_of_eq (Nat.zero_add _)⟩
  have hl := lv_entry ([.ref (g 0 0), .int pier, .int minute, .ref o]) (n := 5) (Nat.le_of_ble_eq_true rfl)
  rw [lg_entry_eq]
  generalize (lg_sl ([.ref (g 0 0), .int pier, .int minute, .ref o]) ++ List.replicate (5 - (lg_sl ([.ref (g 0 0), .int pier, .int minute, .ref o])).length) Slot.unset).toArray = ls at hl ⊢
  generalize (headSpec wsL_tide ({ frames := 8, cells := 2, slots := 12, locals := 126 })).room = R at hR hfm ⊢
  refine lv_aload_n hx hb dL_tide_0 rfl (lv_at hl 3 rfl) ?_
  refine lv_iconst (v := 0) hx hb dL_tide_1 (by decide) ?_
  refine lv_aload_n hx hb dL_tide_2 rfl (lv_at hl 0 rfl) ?_
  refine lv_iload_n hx hb dL_tide_3 rfl (lv_at hl 1 rfl) ?_
  refine lv_iload_n hx hb dL_tide_4 rfl (lv_at hl 2 rfl) ?_
  refine vx_calli (vx_runV (As := [.int pier, .int minute]) (rest := [.int 0, .ref o]) ⟨E.1.1, E.1.2, hml, E.2.2.1, E.2.1⟩ (u_tide l hst (D := D) (A := A) (cI := cI) (cO := cO) (aE := aE) (g := g) (N := N) σ pier minute ) (cwV 2 hts gL_tide_X5_tide rfl rfl rfl (by decide +kernel) ⟨Nat.le_trans (Nat.le_of_ble_eq_true rfl) hR.1, Nat.le_trans (Nat.le_of_ble_eq_true rfl) hR.2⟩) ⟨gxBl, kr_0 (g := gw g ga) E.2.2.2 hP ⟨by decide, by omega, fun z => absurd z (by decide)⟩, fun U hU hW => ⟨rfl, ⟨⟨⟨by rw [hU]; exact ⟨ga, cap, hG, hI, hP⟩, va_K.moved hW.alike hK⟩, cY_at hY va_S.rf hU hW⟩, cX_at hX va_S.rf hU hW⟩⟩⟩ rfl rfl hl.1 rfl (lv_room (Nat.le_of_ble_eq_true rfl)) dL_tide_5 hfm) hS (fun q _ h => Or.inl h) (fun q h => Or.inl h) (fun q _ h => Or.inl h) (fun E9 ce q9 u t9 H1 locs1 ht hvm hpx hB hz hk hS hce hcv hcl => ?_) (fun r u t9 H1 locs1 ht hvm hw hB hz hk hS => ?_)
  · obtain ⟨hE, hB1⟩ := hB
    have hB2 := hB1.1
    rw [ht] at hB2
    have hO1 : H1[o]? = some (vp_cell cJ (1, .inr (.inl f))) := (hk o (Array.getElem?_eq_some_iff.mp hO).1 hAo).trans hO
    rcases tv_tide σ pier minute with h0 | h0 | h0
    · exact absurd h0 hpx
    · have hE2 : E9 = "java/lang/IllegalArgumentException" := by rw [hE, h0]; rfl
      subst hE2
      refine vx_catch (name := "java/lang/IllegalArgumentException") E.2.2.1 [⟨0, 10, 13, 21⟩] ⟨0, 10, 17, 13⟩ [] (htab.trans rfl) (fun z hz => by
        simp only [List.mem_cons, List.not_mem_nil, or_false] at hz
        subst hz
        exact Or.inr ⟨by decide, "java/lang/IndexOutOfBoundsException", hts (.classLink RL 21 "java/lang/IndexOutOfBoundsException") (by decide +kernel), hNc ("java/lang/IllegalArgumentException", "java/lang/IndexOutOfBoundsException") (by decide)⟩) rfl (by decide) (hts (.classLink RL 13 "java/lang/IllegalArgumentException") (by decide +kernel)) ((hX.2.2.2.1 (.castable "java/lang/IllegalArgumentException" "java/lang/IllegalArgumentException") (by decide)).use rfl) hce hcv hcl ?_
      show W p l e R s m _ below meth c H1 locs1 _ _ _ (F0 m 17 ls [.ref q9])
      refine lv_astore (lv' := [(4, .ref q9), (0, .ref (g 0 0)), (1, .int pier), (2, .int minute), (3, .ref o)]) hx hb dL_tide_17 hl (by decide) rfl (fun ls hl => ?_)
      refine lv_iconst (v := 2) hx hb dL_tide_19 (by decide) ?_
      exact W.widen (k := 2) (n := 12) (Nat.le_of_eq (Nat.zero_add _)) (Nat.le_of_eq (Nat.zero_add _)) (vx_ret (W.iret (v := 2) B.exec B.bytes hr (fun t ht hW => ⟨⟨2, ((g, N, σ), f), rfl, Or.inr ⟨hpx, by first | exact h0.symm | (rw [h0]; rfl), rfl⟩, ⟨by rw [ht]; exact hB2, va_K.moved hW.alike hK⟩, by rw [ht]; exact hO1⟩, hS.F ht⟩) hS.2.2 dL_tide_20))
    · have hE2 : E9 = "java/lang/IndexOutOfBoundsException" := by rw [hE, h0]; rfl
      subst hE2
      refine vx_catch (name := "java/lang/IndexOutOfBoundsException") E.2.2.1 [] ⟨0, 10, 13, 21⟩ [⟨0, 10, 17, 13⟩] (htab.trans rfl) (fun z hz => absurd hz List.not_mem_nil) rfl (by decide) (hts (.classLink RL 21 "java/lang/IndexOutOfBoundsException") (by decide +kernel)) ((hX.2.2.2.1 (.castable "java/lang/IndexOutOfBoundsException" "java/lang/IndexOutOfBoundsException") (by decide)).use rfl) hce hcv hcl ?_
      show W p l e R s m _ below meth c H1 locs1 _ _ _ (F0 m 13 ls [.ref q9])
      refine lv_astore (lv' := [(4, .ref q9), (0, .ref (g 0 0)), (1, .int pier), (2, .int minute), (3, .ref o)]) hx hb dL_tide_13 hl (by decide) rfl (fun ls hl => ?_)
      refine lv_iconst (v := 1) hx hb dL_tide_15 (by decide) ?_
      exact W.widen (k := 2) (n := 12) (Nat.le_of_eq (Nat.zero_add _)) (Nat.le_of_eq (Nat.zero_add _)) (vx_ret (W.iret (v := 1) B.exec B.bytes hr (fun t ht hW => ⟨⟨1, ((g, N, σ), f), rfl, Or.inr ⟨hpx, by first | exact h0.symm | (rw [h0]; rfl), rfl⟩, ⟨by rw [ht]; exact hB2, va_K.moved hW.alike hK⟩, by rw [ht]; exact hO1⟩, hS.F ht⟩) hS.2.2 dL_tide_16))
  · obtain ⟨hr1, ht0, hP2⟩ := hw
    have hB2 := hB.1
    rw [ht] at hB2
    have hO1 : H1[o]? = some (vp_cell cJ (1, .inr (.inl f))) := (hk o (Array.getElem?_eq_some_iff.mp hO).1 hAo).trans hO
    refine lv_i2l (v := r.toInt64) hx hb dL_tide_8 rfl ?_
    refine k_last hx hb hKJ hO1 hS (Or.inr rfl) dL_tide_9 (fun H2 locs2 hO2 hz2 oq2 hS => ?_)
    have hB3 := cG_kept hB2 (fun q _ hA => oq2 q (fun z => hAo (by rw [← z]; exact hA)))
    refine lv_goto (tgt := 21) hx hb dL_tide_10 (by decide) ?_
    refine lv_iconst (v := 0) hx hb dL_tide_21 (by decide) ?_
    exact W.widen (k := 2) (n := 12) (Nat.le_of_eq (Nat.zero_add _)) (Nat.le_of_eq (Nat.zero_add _)) (vx_ret (W.iret (v := 0) B.exec B.bytes hr (fun t ht hW => ⟨⟨0, (u, vp_updL f 0 r.toInt64), rfl, Or.inl ⟨ht0, rfl, hP2, by rw [hr1]; rfl⟩, ⟨by rw [ht]; exact hB3, va_K.moved hW.alike hK⟩, by rw [ht]; exact hO2⟩, hS.F ht⟩) hS.2.2 dL_tide_22))
theorem tv_boatOf (σ : St) (boat : Int32) (what : Int32) : t_X5_boatOf σ boat what = 0 ∨ t_X5_boatOf σ boat what = 1 ∨ t_X5_boatOf σ boat what = 3 := by
  unfold t_X5_boatOf
  repeat' split
  all_goals first | exact Or.inl rfl | exact Or.inr (Or.inl rfl) | exact Or.inr (Or.inr (rfl))
set_option maxHeartbeats 4000000 in
set_option maxRecDepth 100000 in
theorem x_boatOf (l : Launch) (hst : l.stackTraces = false) {D : va_G} {A : Nat → Prop} {cI cO cJ : ClassId} {aE o : Nat} {g : Gh} {N : Nat → Nat} (σ : St) (f : Nat → Int64) (boat : Int32) (what : Int32) (hAo : ¬ A o) : vx_Met l yL_boatOf wsL_boatOf ({ frames := 8, cells := 2, slots := 12, locals := 127 }) (va_Pc [.ref (g 0 0), .int boat, .int what, .ref o] (wW D cI cO cJ A aE g N σ o f)) (va_Qi (WP (t_X5_boatOf σ boat what) (kA (t_X5_boatOf σ boat what)) (q_X5_boatOf σ boat what).toInt64 g N N (σ) (σ)) (wB D cI cO cJ A aE o) (fun q => A q ∨ q = o)) (fun _ _ _ => False) 2 12 (fun q => A q ∨ q = o) := by
  refine vx_ofWH (cc := cL_boatOf) (maxL := 5) (ret := (some .int)) (hh := [(0, 10, 13, 21), (0, 10, 17, 13)]) (by decide) rfl ?_
  intro p e s m args below meth c s₁ B hml hv
  obtain ⟨rfl, ⟨⟨⟨⟨ga, cap, hG, hI, hP⟩, hK⟩, hY⟩, hX⟩, hO, hKJ, hNc⟩ := hv
  have E : kE p c cL_boatOf s m ([.ref (g 0 0), .int boat, .int what, .ref o] : List Value).toArray wsL_boatOf RL D cI cO := ⟨⟨B.exec, B.bytes⟩, atoms_spec (ws := wsL_boatOf) B.pre, findClass_of_methodNamed B.named, hK⟩
  have hx := E.1.1
  have hb := E.1.2
  have hts := E.2.1
  have hr := B.returns
  have hlocks := B.notSynchronized
  have htab := vx_table (x := yL_boatOf) (hh := [(0, 10, 13, 21), (0, 10, 17, 13)]) B (hts (.codeWith yL_boatOf cL_boatOf 5 (some .int) [(0, 10, 13, 21), (0, 10, 17, 13)]) List.mem_cons_self)
  obtain ⟨n0, n4, n5, n6, n8, n7, n1, n2, n3⟩ := id hI.1
  have hS : va_S (fun q => A q ∨ q = o) s.heap s.heap [] := va_S.rf
  have hR : 8 ≤ ((headSpec wsL_boatOf ({ frames := 8, cells := 2, slots := 12, locals := 127 })).room).frames ∧ 127 ≤ ((headSpec wsL_boatOf ({ frames := 8, cells := 2, slots := 12, locals := 127 })).room).locals := ⟨Nat.le_refl _, Nat.le_refl _⟩
  have hfm : 0 + 2 ≤ ((headSpec wsL_boatOf ({ frames := 8, cells := 2, slots := 12, locals := 127 })).room).cells ∧ 0 + 12 ≤ ((headSpec wsL_boatOf ({ frames := 8, cells := 2, slots := 12, locals := 127 })).room).slots := ⟨Nat.le_of_eq (Nat.zero_add _), Nat.le_of_eq (Nat.zero_add _)⟩
  have hl := lv_entry ([.ref (g 0 0), .int boat, .int what, .ref o]) (n := 5) (Nat.le_of_ble_eq_true rfl)
  rw [lg_entry_eq]
  generalize (lg_sl ([.ref (g 0 0), .int boat, .int what, .ref o]) ++ List.replicate (5 - (lg_sl ([.ref (g 0 0), .int boat, .int what, .ref o])).length) Slot.unset).toArray = ls at hl ⊢
  generalize (headSpec wsL_boatOf ({ frames := 8, cells := 2, slots := 12, locals := 127 })).room = R at hR hfm ⊢
  refine lv_aload_n hx hb dL_boatOf_0 rfl (lv_at hl 3 rfl) ?_
  refine lv_iconst (v := 0) hx hb dL_boatOf_1 (by decide) ?_
  refine lv_aload_n hx hb dL_boatOf_2 rfl (lv_at hl 0 rfl) ?_
  refine lv_iload_n hx hb dL_boatOf_3 rfl (lv_at hl 1 rfl) ?_
  refine lv_iload_n hx hb dL_boatOf_4 rfl (lv_at hl 2 rfl) ?_
  refine vx_calli (vx_runV (As := [.int boat, .int what]) (rest := [.int 0, .ref o]) ⟨E.1.1, E.1.2, hml, E.2.2.1, E.2.1⟩ (u_boatOf l hst (D := D) (A := A) (cI := cI) (cO := cO) (aE := aE) (g := g) (N := N) σ boat what ) (cwV 2 hts gL_boatOf_X5_boatOf rfl rfl rfl (by decide +kernel) ⟨Nat.le_trans (Nat.le_of_ble_eq_true rfl) hR.1, Nat.le_trans (Nat.le_of_ble_eq_true rfl) hR.2⟩) ⟨gxBl, kr_0 (g := gw g ga) E.2.2.2 hP ⟨by decide, by omega, fun z => absurd z (by decide)⟩, fun U hU hW => ⟨rfl, ⟨⟨⟨by rw [hU]; exact ⟨ga, cap, hG, hI, hP⟩, va_K.moved hW.alike hK⟩, cY_at hY va_S.rf hU hW⟩, cX_at hX va_S.rf hU hW⟩⟩⟩ rfl rfl hl.1 rfl (lv_room (Nat.le_of_ble_eq_true rfl)) dL_boatOf_5 hfm) hS (fun q _ h => Or.inl h) (fun q h => Or.inl h) (fun q _ h => Or.inl h) (fun E9 ce q9 u t9 H1 locs1 ht hvm hpx hB hz hk hS hce hcv hcl => ?_) (fun r u t9 H1 locs1 ht hvm hw hB hz hk hS => ?_)
  · obtain ⟨hE, hB1⟩ := hB
    have hB2 := hB1.1
    rw [ht] at hB2
    have hO1 : H1[o]? = some (vp_cell cJ (1, .inr (.inl f))) := (hk o (Array.getElem?_eq_some_iff.mp hO).1 hAo).trans hO
    rcases tv_boatOf σ boat what with h0 | h0 | h0
    · exact absurd h0 hpx
    · have hE2 : E9 = "java/lang/IllegalArgumentException" := by rw [hE, h0]; rfl
      subst hE2
      refine vx_catch (name := "java/lang/IllegalArgumentException") E.2.2.1 [⟨0, 10, 13, 21⟩] ⟨0, 10, 17, 13⟩ [] (htab.trans rfl) (fun z hz => by
        simp only [List.mem_cons, List.not_mem_nil, or_false] at hz
        subst hz
        exact Or.inr ⟨by decide, "java/lang/IndexOutOfBoundsException", hts (.classLink RL 21 "java/lang/IndexOutOfBoundsException") (by decide +kernel), hNc ("java/lang/IllegalArgumentException", "java/lang/IndexOutOfBoundsException") (by decide)⟩) rfl (by decide) (hts (.classLink RL 13 "java/lang/IllegalArgumentException") (by decide +kernel)) ((hX.2.2.2.1 (.castable "java/lang/IllegalArgumentException" "java/lang/IllegalArgumentException") (by decide)).use rfl) hce hcv hcl ?_
      show W p l e R s m _ below meth c H1 locs1 _ _ _ (F0 m 17 ls [.ref q9])
      refine lv_astore (lv' := [(4, .ref q9), (0, .ref (g 0 0)), (1, .int boat), (2, .int what), (3, .ref o)]) hx hb dL_boatOf_17 hl (by decide) rfl (fun ls hl => ?_)
      refine lv_iconst (v := 2) hx hb dL_boatOf_19 (by decide) ?_
      exact W.widen (k := 2) (n := 12) (Nat.le_of_eq (Nat.zero_add _)) (Nat.le_of_eq (Nat.zero_add _)) (vx_ret (W.iret (v := 2) B.exec B.bytes hr (fun t ht hW => ⟨⟨2, ((g, N, σ), f), rfl, Or.inr ⟨hpx, by first | exact h0.symm | (rw [h0]; rfl), rfl⟩, ⟨by rw [ht]; exact hB2, va_K.moved hW.alike hK⟩, by rw [ht]; exact hO1⟩, hS.F ht⟩) hS.2.2 dL_boatOf_20))
    · have hE2 : E9 = "java/lang/IndexOutOfBoundsException" := by rw [hE, h0]; rfl
      subst hE2
      refine vx_catch (name := "java/lang/IndexOutOfBoundsException") E.2.2.1 [] ⟨0, 10, 13, 21⟩ [⟨0, 10, 17, 13⟩] (htab.trans rfl) (fun z hz => absurd hz List.not_mem_nil) rfl (by decide) (hts (.classLink RL 21 "java/lang/IndexOutOfBoundsException") (by decide +kernel)) ((hX.2.2.2.1 (.castable "java/lang/IndexOutOfBoundsException" "java/lang/IndexOutOfBoundsException") (by decide)).use rfl) hce hcv hcl ?_
      show W p l e R s m _ below meth c H1 locs1 _ _ _ (F0 m 13 ls [.ref q9])
      refine lv_astore (lv' := [(4, .ref q9), (0, .ref (g 0 0)), (1, .int boat), (2, .int what), (3, .ref o)]) hx hb dL_boatOf_13 hl (by decide) rfl (fun ls hl => ?_)
      refine lv_iconst (v := 1) hx hb dL_boatOf_15 (by decide) ?_
      exact W.widen (k := 2) (n := 12) (Nat.le_of_eq (Nat.zero_add _)) (Nat.le_of_eq (Nat.zero_add _)) (vx_ret (W.iret (v := 1) B.exec B.bytes hr (fun t ht hW => ⟨⟨1, ((g, N, σ), f), rfl, Or.inr ⟨hpx, by first | exact h0.symm | (rw [h0]; rfl), rfl⟩, ⟨by rw [ht]; exact hB2, va_K.moved hW.alike hK⟩, by rw [ht]; exact hO1⟩, hS.F ht⟩) hS.2.2 dL_boatOf_16))
  · obtain ⟨hr1, ht0, hP2⟩ := hw
    have hB2 := hB.1
    rw [ht] at hB2
    have hO1 : H1[o]? = some (vp_cell cJ (1, .inr (.inl f))) := (hk o (Array.getElem?_eq_some_iff.mp hO).1 hAo).trans hO
    refine lv_i2l (v := r.toInt64) hx hb dL_boatOf_8 rfl ?_
    refine k_last hx hb hKJ hO1 hS (Or.inr rfl) dL_boatOf_9 (fun H2 locs2 hO2 hz2 oq2 hS => ?_)
    have hB3 := cG_kept hB2 (fun q _ hA => oq2 q (fun z => hAo (by rw [← z]; exact hA)))
    refine lv_goto (tgt := 21) hx hb dL_boatOf_10 (by decide) ?_
    refine lv_iconst (v := 0) hx hb dL_boatOf_21 (by decide) ?_
    exact W.widen (k := 2) (n := 12) (Nat.le_of_eq (Nat.zero_add _)) (Nat.le_of_eq (Nat.zero_add _)) (vx_ret (W.iret (v := 0) B.exec B.bytes hr (fun t ht hW => ⟨⟨0, (u, vp_updL f 0 r.toInt64), rfl, Or.inl ⟨ht0, rfl, hP2, by rw [hr1]; rfl⟩, ⟨by rw [ht]; exact hB3, va_K.moved hW.alike hK⟩, by rw [ht]; exact hO2⟩, hS.F ht⟩) hS.2.2 dL_boatOf_22))
theorem tv_sailingOf (σ : St) (sailing : Int32) (what : Int32) : t_X5_sailingOf σ sailing what = 0 ∨ t_X5_sailingOf σ sailing what = 1 ∨ t_X5_sailingOf σ sailing what = 3 := by
  unfold t_X5_sailingOf
  repeat' split
  all_goals first | exact Or.inl rfl | exact Or.inr (Or.inl rfl) | exact Or.inr (Or.inr (rfl))
set_option maxHeartbeats 4000000 in
set_option maxRecDepth 100000 in
theorem x_sailingOf (l : Launch) (hst : l.stackTraces = false) {D : va_G} {A : Nat → Prop} {cI cO cJ : ClassId} {aE o : Nat} {g : Gh} {N : Nat → Nat} (σ : St) (f : Nat → Int64) (sailing : Int32) (what : Int32) (hAo : ¬ A o) : vx_Met l yL_sailingOf wsL_sailingOf ({ frames := 8, cells := 2, slots := 12, locals := 127 }) (va_Pc [.ref (g 0 0), .int sailing, .int what, .ref o] (wW D cI cO cJ A aE g N σ o f)) (va_Qi (WP (t_X5_sailingOf σ sailing what) (kA (t_X5_sailingOf σ sailing what)) (q_X5_sailingOf σ sailing what).toInt64 g N N (σ) (σ)) (wB D cI cO cJ A aE o) (fun q => A q ∨ q = o)) (fun _ _ _ => False) 2 12 (fun q => A q ∨ q = o) := by
  refine vx_ofWH (cc := cL_sailingOf) (maxL := 5) (ret := (some .int)) (hh := [(0, 10, 13, 21), (0, 10, 17, 13)]) (by decide) rfl ?_
  intro p e s m args below meth c s₁ B hml hv
  obtain ⟨rfl, ⟨⟨⟨⟨ga, cap, hG, hI, hP⟩, hK⟩, hY⟩, hX⟩, hO, hKJ, hNc⟩ := hv
  have E : kE p c cL_sailingOf s m ([.ref (g 0 0), .int sailing, .int what, .ref o] : List Value).toArray wsL_sailingOf RL D cI cO := ⟨⟨B.exec, B.bytes⟩, atoms_spec (ws := wsL_sailingOf) B.pre, findClass_of_methodNamed B.named, hK⟩
  have hx := E.1.1
  have hb := E.1.2
  have hts := E.2.1
  have hr := B.returns
  have hlocks := B.notSynchronized
  have htab := vx_table (x := yL_sailingOf) (hh := [(0, 10, 13, 21), (0, 10, 17, 13)]) B (hts (.codeWith yL_sailingOf cL_sailingOf 5 (some .int) [(0, 10, 13, 21), (0, 10, 17, 13)]) List.mem_cons_self)
  obtain ⟨n0, n4, n5, n6, n8, n7, n1, n2, n3⟩ := id hI.1
  have hS : va_S (fun q => A q ∨ q = o) s.heap s.heap [] := va_S.rf
  have hR : 8 ≤ ((headSpec wsL_sailingOf ({ frames := 8, cells := 2, slots := 12, locals := 127 })).room).frames ∧ 127 ≤ ((headSpec wsL_sailingOf ({ frames := 8, cells := 2, slots := 12, locals := 127 })).room).locals := ⟨Nat.le_refl _, Nat.le_refl _⟩
  have hfm : 0 + 2 ≤ ((headSpec wsL_sailingOf ({ frames := 8, cells := 2, slots := 12, locals := 127 })).room).cells ∧ 0 + 12 ≤ ((headSpec wsL_sailingOf ({ frames := 8, cells := 2, slots := 12, locals := 127 })).room).slots := ⟨Nat.le_of_eq (Nat.zero_add _), Nat.le_of_eq (Nat.zero_add _)⟩
  have hl := lv_entry ([.ref (g 0 0), .int sailing, .int what, .ref o]) (n := 5) (Nat.le_of_ble_eq_true rfl)
  rw [lg_entry_eq]
  generalize (lg_sl ([.ref (g 0 0), .int sailing, .int what, .ref o]) ++ List.replicate (5 - (lg_sl ([.ref (g 0 0), .int sailing, .int what, .ref o])).length) Slot.unset).toArray = ls at hl ⊢
  generalize (headSpec wsL_sailingOf ({ frames := 8, cells := 2, slots := 12, locals := 127 })).room = R at hR hfm ⊢
  refine lv_aload_n hx hb dL_sailingOf_0 rfl (lv_at hl 3 rfl) ?_
  refine lv_iconst (v := 0) hx hb dL_sailingOf_1 (by decide) ?_
  refine lv_aload_n hx hb dL_sailingOf_2 rfl (lv_at hl 0 rfl) ?_
  refine lv_iload_n hx hb dL_sailingOf_3 rfl (lv_at hl 1 rfl) ?_
  refine lv_iload_n hx hb dL_sailingOf_4 rfl (lv_at hl 2 rfl) ?_
  refine vx_calli (vx_runV (As := [.int sailing, .int what]) (rest := [.int 0, .ref o]) ⟨E.1.1, E.1.2, hml, E.2.2.1, E.2.1⟩ (u_sailingOf l hst (D := D) (A := A) (cI := cI) (cO := cO) (aE := aE) (g := g) (N := N) σ sailing what ) (cwV 2 hts gL_sailingOf_X5_sailingOf rfl rfl rfl (by decide +kernel) ⟨Nat.le_trans (Nat.le_of_ble_eq_true rfl) hR.1, Nat.le_trans (Nat.le_of_ble_eq_true rfl) hR.2⟩) ⟨gxBl, kr_0 (g := gw g ga) E.2.2.2 hP ⟨by decide, by omega, fun z => absurd z (by decide)⟩, fun U hU hW => ⟨rfl, ⟨⟨⟨by rw [hU]; exact ⟨ga, cap, hG, hI, hP⟩, va_K.moved hW.alike hK⟩, cY_at hY va_S.rf hU hW⟩, cX_at hX va_S.rf hU hW⟩⟩⟩ rfl rfl hl.1 rfl (lv_room (Nat.le_of_ble_eq_true rfl)) dL_sailingOf_5 hfm) hS (fun q _ h => Or.inl h) (fun q h => Or.inl h) (fun q _ h => Or.inl h) (fun E9 ce q9 u t9 H1 locs1 ht hvm hpx hB hz hk hS hce hcv hcl => ?_) (fun r u t9 H1 locs1 ht hvm hw hB hz hk hS => ?_)
  · obtain ⟨hE, hB1⟩ := hB
    have hB2 := hB1.1
    rw [ht] at hB2
    have hO1 : H1[o]? = some (vp_cell cJ (1, .inr (.inl f))) := (hk o (Array.getElem?_eq_some_iff.mp hO).1 hAo).trans hO
    rcases tv_sailingOf σ sailing what with h0 | h0 | h0
    · exact absurd h0 hpx
    · have hE2 : E9 = "java/lang/IllegalArgumentException" := by rw [hE, h0]; rfl
      subst hE2
      refine vx_catch (name := "java/lang/IllegalArgumentException") E.2.2.1 [⟨0, 10, 13, 21⟩] ⟨0, 10, 17, 13⟩ [] (htab.trans rfl) (fun z hz => by
        simp only [List.mem_cons, List.not_mem_nil, or_false] at hz
        subst hz
        exact Or.inr ⟨by decide, "java/lang/IndexOutOfBoundsException", hts (.classLink RL 21 "java/lang/IndexOutOfBoundsException") (by decide +kernel), hNc ("java/lang/IllegalArgumentException", "java/lang/IndexOutOfBoundsException") (by decide)⟩) rfl (by decide) (hts (.classLink RL 13 "java/lang/IllegalArgumentException") (by decide +kernel)) ((hX.2.2.2.1 (.castable "java/lang/IllegalArgumentException" "java/lang/IllegalArgumentException") (by decide)).use rfl) hce hcv hcl ?_
      show W p l e R s m _ below meth c H1 locs1 _ _ _ (F0 m 17 ls [.ref q9])
      refine lv_astore (lv' := [(4, .ref q9), (0, .ref (g 0 0)), (1, .int sailing), (2, .int what), (3, .ref o)]) hx hb dL_sailingOf_17 hl (by decide) rfl (fun ls hl => ?_)
      refine lv_iconst (v := 2) hx hb dL_sailingOf_19 (by decide) ?_
      exact W.widen (k := 2) (n := 12) (Nat.le_of_eq (Nat.zero_add _)) (Nat.le_of_eq (Nat.zero_add _)) (vx_ret (W.iret (v := 2) B.exec B.bytes hr (fun t ht hW => ⟨⟨2, ((g, N, σ), f), rfl, Or.inr ⟨hpx, by first | exact h0.symm | (rw [h0]; rfl), rfl⟩, ⟨by rw [ht]; exact hB2, va_K.moved hW.alike hK⟩, by rw [ht]; exact hO1⟩, hS.F ht⟩) hS.2.2 dL_sailingOf_20))
    · have hE2 : E9 = "java/lang/IndexOutOfBoundsException" := by rw [hE, h0]; rfl
      subst hE2
      refine vx_catch (name := "java/lang/IndexOutOfBoundsException") E.2.2.1 [] ⟨0, 10, 13, 21⟩ [⟨0, 10, 17, 13⟩] (htab.trans rfl) (fun z hz => absurd hz List.not_mem_nil) rfl (by decide) (hts (.classLink RL 21 "java/lang/IndexOutOfBoundsException") (by decide +kernel)) ((hX.2.2.2.1 (.castable "java/lang/IndexOutOfBoundsException" "java/lang/IndexOutOfBoundsException") (by decide)).use rfl) hce hcv hcl ?_
      show W p l e R s m _ below meth c H1 locs1 _ _ _ (F0 m 13 ls [.ref q9])
      refine lv_astore (lv' := [(4, .ref q9), (0, .ref (g 0 0)), (1, .int sailing), (2, .int what), (3, .ref o)]) hx hb dL_sailingOf_13 hl (by decide) rfl (fun ls hl => ?_)
      refine lv_iconst (v := 1) hx hb dL_sailingOf_15 (by decide) ?_
      exact W.widen (k := 2) (n := 12) (Nat.le_of_eq (Nat.zero_add _)) (Nat.le_of_eq (Nat.zero_add _)) (vx_ret (W.iret (v := 1) B.exec B.bytes hr (fun t ht hW => ⟨⟨1, ((g, N, σ), f), rfl, Or.inr ⟨hpx, by first | exact h0.symm | (rw [h0]; rfl), rfl⟩, ⟨by rw [ht]; exact hB2, va_K.moved hW.alike hK⟩, by rw [ht]; exact hO1⟩, hS.F ht⟩) hS.2.2 dL_sailingOf_16))
  · obtain ⟨hr1, ht0, hP2⟩ := hw
    have hB2 := hB.1
    rw [ht] at hB2
    have hO1 : H1[o]? = some (vp_cell cJ (1, .inr (.inl f))) := (hk o (Array.getElem?_eq_some_iff.mp hO).1 hAo).trans hO
    refine lv_i2l (v := r.toInt64) hx hb dL_sailingOf_8 rfl ?_
    refine k_last hx hb hKJ hO1 hS (Or.inr rfl) dL_sailingOf_9 (fun H2 locs2 hO2 hz2 oq2 hS => ?_)
    have hB3 := cG_kept hB2 (fun q _ hA => oq2 q (fun z => hAo (by rw [← z]; exact hA)))
    refine lv_goto (tgt := 21) hx hb dL_sailingOf_10 (by decide) ?_
    refine lv_iconst (v := 0) hx hb dL_sailingOf_21 (by decide) ?_
    exact W.widen (k := 2) (n := 12) (Nat.le_of_eq (Nat.zero_add _)) (Nat.le_of_eq (Nat.zero_add _)) (vx_ret (W.iret (v := 0) B.exec B.bytes hr (fun t ht hW => ⟨⟨0, (u, vp_updL f 0 r.toInt64), rfl, Or.inl ⟨ht0, rfl, hP2, by rw [hr1]; rfl⟩, ⟨by rw [ht]; exact hB3, va_K.moved hW.alike hK⟩, by rw [ht]; exact hO2⟩, hS.F ht⟩) hS.2.2 dL_sailingOf_22))
theorem tv_against (σ : St) (sailing : Int32) : t_X5_against σ sailing = 0 ∨ t_X5_against σ sailing = 2 ∨ t_X5_against σ sailing = 3 := by
  unfold t_X5_against
  repeat' split
  all_goals first | exact Or.inl rfl | exact Or.inr (Or.inl rfl) | exact Or.inr (Or.inr (rfl))
set_option maxHeartbeats 4000000 in
set_option maxRecDepth 100000 in
theorem x_against (l : Launch) (hst : l.stackTraces = false) {D : va_G} {A : Nat → Prop} {cI cO cJ : ClassId} {aE o : Nat} {g : Gh} {N : Nat → Nat} (σ : St) (f : Nat → Int64) (sailing : Int32) (hAo : ¬ A o) : vx_Met l yL_against wsL_against ({ frames := 8, cells := 2, slots := 12, locals := 136 }) (va_Pc [.ref (g 0 0), .int sailing, .ref o] (wW D cI cO cJ A aE g N σ o f)) (va_Qi (WP (t_X5_against σ sailing) (kB (t_X5_against σ sailing)) (q_X5_against σ sailing).toInt64 g N N (σ) (σ)) (wB D cI cO cJ A aE o) (fun q => A q ∨ q = o)) (fun _ _ _ => False) 2 12 (fun q => A q ∨ q = o) := by
  refine vx_ofWH (cc := cL_against) (maxL := 4) (ret := (some .int)) (hh := [(0, 9, 12, 21), (0, 9, 15, 15)]) (by decide) rfl ?_
  intro p e s m args below meth c s₁ B hml hv
  obtain ⟨rfl, ⟨⟨⟨⟨ga, cap, hG, hI, hP⟩, hK⟩, hY⟩, hX⟩, hO, hKJ, hNc⟩ := hv
  have E : kE p c cL_against s m ([.ref (g 0 0), .int sailing, .ref o] : List Value).toArray wsL_against RL D cI cO := ⟨⟨B.exec, B.bytes⟩, atoms_spec (ws := wsL_against) B.pre, findClass_of_methodNamed B.named, hK⟩
  have hx := E.1.1
  have hb := E.1.2
  have hts := E.2.1
  have hr := B.returns
  have hlocks := B.notSynchronized
  have htab := vx_table (x := yL_against) (hh := [(0, 9, 12, 21), (0, 9, 15, 15)]) B (hts (.codeWith yL_against cL_against 4 (some .int) [(0, 9, 12, 21), (0, 9, 15, 15)]) List.mem_cons_self)
  obtain ⟨n0, n4, n5, n6, n8, n7, n1, n2, n3⟩ := id hI.1
  have hS : va_S (fun q => A q ∨ q = o) s.heap s.heap [] := va_S.rf
  have hR : 8 ≤ ((headSpec wsL_against ({ frames := 8, cells := 2, slots := 12, locals := 136 })).room).frames ∧ 136 ≤ ((headSpec wsL_against ({ frames := 8, cells := 2, slots := 12, locals := 136 })).room).locals := ⟨Nat.le_refl _, Nat.le_refl _⟩
  have hfm : 0 + 2 ≤ ((headSpec wsL_against ({ frames := 8, cells := 2, slots := 12, locals := 136 })).room).cells ∧ 0 + 12 ≤ ((headSpec wsL_against ({ frames := 8, cells := 2, slots := 12, locals := 136 })).room).slots := ⟨Nat.le_of_eq (Nat.zero_add _), Nat.le_of_eq (Nat.zero_add _)⟩
  have hl := lv_entry ([.ref (g 0 0), .int sailing, .ref o]) (n := 4) (Nat.le_of_ble_eq_true rfl)
  rw [lg_entry_eq]
  generalize (lg_sl ([.ref (g 0 0), .int sailing, .ref o]) ++ List.replicate (4 - (lg_sl ([.ref (g 0 0), .int sailing, .ref o])).length) Slot.unset).toArray = ls at hl ⊢
  generalize (headSpec wsL_against ({ frames := 8, cells := 2, slots := 12, locals := 136 })).room = R at hR hfm ⊢
  refine lv_aload_n hx hb dL_against_0 rfl (lv_at hl 2 rfl) ?_
  refine lv_iconst (v := 0) hx hb dL_against_1 (by decide) ?_
  refine lv_aload_n hx hb dL_against_2 rfl (lv_at hl 0 rfl) ?_
  refine lv_iload_n hx hb dL_against_3 rfl (lv_at hl 1 rfl) ?_
  refine vx_calli (vx_runV (As := [.int sailing]) (rest := [.int 0, .ref o]) ⟨E.1.1, E.1.2, hml, E.2.2.1, E.2.1⟩ (u_against l hst (D := D) (A := A) (cI := cI) (cO := cO) (aE := aE) (g := g) (N := N) σ sailing ) (cwV 1 hts gL_against_X5_against rfl rfl rfl (by decide +kernel) ⟨Nat.le_trans (Nat.le_of_ble_eq_true rfl) hR.1, Nat.le_trans (Nat.le_of_ble_eq_true rfl) hR.2⟩) ⟨gxBl, kr_0 (g := gw g ga) E.2.2.2 hP ⟨by decide, by omega, fun z => absurd z (by decide)⟩, fun U hU hW => ⟨rfl, ⟨⟨⟨by rw [hU]; exact ⟨ga, cap, hG, hI, hP⟩, va_K.moved hW.alike hK⟩, cY_at hY va_S.rf hU hW⟩, cX_at hX va_S.rf hU hW⟩⟩⟩ rfl rfl hl.1 rfl (lv_room (Nat.le_of_ble_eq_true rfl)) dL_against_4 hfm) hS (fun q _ h => Or.inl h) (fun q h => Or.inl h) (fun q _ h => Or.inl h) (fun E9 ce q9 u t9 H1 locs1 ht hvm hpx hB hz hk hS hce hcv hcl => ?_) (fun r u t9 H1 locs1 ht hvm hw hB hz hk hS => ?_)
  · obtain ⟨hE, hB1⟩ := hB
    have hB2 := hB1.1
    rw [ht] at hB2
    have hO1 : H1[o]? = some (vp_cell cJ (1, .inr (.inl f))) := (hk o (Array.getElem?_eq_some_iff.mp hO).1 hAo).trans hO
    rcases tv_against σ sailing with h0 | h0 | h0
    · exact absurd h0 hpx
    · have hE2 : E9 = "java/lang/IllegalStateException" := by rw [hE, h0]; rfl
      subst hE2
      refine vx_catch (name := "java/lang/IllegalStateException") E.2.2.1 [⟨0, 9, 12, 21⟩] ⟨0, 9, 15, 15⟩ [] (htab.trans rfl) (fun z hz => by
        simp only [List.mem_cons, List.not_mem_nil, or_false] at hz
        subst hz
        exact Or.inr ⟨by decide, "java/lang/IndexOutOfBoundsException", hts (.classLink RL 21 "java/lang/IndexOutOfBoundsException") (by decide +kernel), hNc ("java/lang/IllegalStateException", "java/lang/IndexOutOfBoundsException") (by decide)⟩) rfl (by decide) (hts (.classLink RL 15 "java/lang/IllegalStateException") (by decide +kernel)) ((hX.2.2.2.1 (.castable "java/lang/IllegalStateException" "java/lang/IllegalStateException") (by decide)).use rfl) hce hcv hcl ?_
      show W p l e R s m _ below meth c H1 locs1 _ _ _ (F0 m 15 ls [.ref q9])
      refine lv_astore_n (lv' := [(3, .ref q9), (0, .ref (g 0 0)), (1, .int sailing), (2, .ref o)]) hx hb dL_against_15 rfl hl (by decide) rfl (fun ls hl => ?_)
      refine lv_iconst (v := 2) hx hb dL_against_16 (by decide) ?_
      exact W.widen (k := 2) (n := 12) (Nat.le_of_eq (Nat.zero_add _)) (Nat.le_of_eq (Nat.zero_add _)) (vx_ret (W.iret (v := 2) B.exec B.bytes hr (fun t ht hW => ⟨⟨2, ((g, N, σ), f), rfl, Or.inr ⟨hpx, by first | exact h0.symm | (rw [h0]; rfl), rfl⟩, ⟨by rw [ht]; exact hB2, va_K.moved hW.alike hK⟩, by rw [ht]; exact hO1⟩, hS.F ht⟩) hS.2.2 dL_against_17))
    · have hE2 : E9 = "java/lang/IndexOutOfBoundsException" := by rw [hE, h0]; rfl
      subst hE2
      refine vx_catch (name := "java/lang/IndexOutOfBoundsException") E.2.2.1 [] ⟨0, 9, 12, 21⟩ [⟨0, 9, 15, 15⟩] (htab.trans rfl) (fun z hz => absurd hz List.not_mem_nil) rfl (by decide) (hts (.classLink RL 21 "java/lang/IndexOutOfBoundsException") (by decide +kernel)) ((hX.2.2.2.1 (.castable "java/lang/IndexOutOfBoundsException" "java/lang/IndexOutOfBoundsException") (by decide)).use rfl) hce hcv hcl ?_
      show W p l e R s m _ below meth c H1 locs1 _ _ _ (F0 m 12 ls [.ref q9])
      refine lv_astore_n (lv' := [(3, .ref q9), (0, .ref (g 0 0)), (1, .int sailing), (2, .ref o)]) hx hb dL_against_12 rfl hl (by decide) rfl (fun ls hl => ?_)
      refine lv_iconst (v := 1) hx hb dL_against_13 (by decide) ?_
      exact W.widen (k := 2) (n := 12) (Nat.le_of_eq (Nat.zero_add _)) (Nat.le_of_eq (Nat.zero_add _)) (vx_ret (W.iret (v := 1) B.exec B.bytes hr (fun t ht hW => ⟨⟨1, ((g, N, σ), f), rfl, Or.inr ⟨hpx, by first | exact h0.symm | (rw [h0]; rfl), rfl⟩, ⟨by rw [ht]; exact hB2, va_K.moved hW.alike hK⟩, by rw [ht]; exact hO1⟩, hS.F ht⟩) hS.2.2 dL_against_14))
  · obtain ⟨hr1, ht0, hP2⟩ := hw
    have hB2 := hB.1
    rw [ht] at hB2
    have hO1 : H1[o]? = some (vp_cell cJ (1, .inr (.inl f))) := (hk o (Array.getElem?_eq_some_iff.mp hO).1 hAo).trans hO
    refine lv_i2l (v := r.toInt64) hx hb dL_against_7 rfl ?_
    refine k_last hx hb hKJ hO1 hS (Or.inr rfl) dL_against_8 (fun H2 locs2 hO2 hz2 oq2 hS => ?_)
    have hB3 := cG_kept hB2 (fun q _ hA => oq2 q (fun z => hAo (by rw [← z]; exact hA)))
    refine lv_goto (tgt := 18) hx hb dL_against_9 (by decide) ?_
    refine lv_iconst (v := 0) hx hb dL_against_18 (by decide) ?_
    exact W.widen (k := 2) (n := 12) (Nat.le_of_eq (Nat.zero_add _)) (Nat.le_of_eq (Nat.zero_add _)) (vx_ret (W.iret (v := 0) B.exec B.bytes hr (fun t ht hW => ⟨⟨0, (u, vp_updL f 0 r.toInt64), rfl, Or.inl ⟨ht0, rfl, hP2, by rw [hr1]; rfl⟩, ⟨by rw [ht]; exact hB3, va_K.moved hW.alike hK⟩, by rw [ht]; exact hO2⟩, hS.F ht⟩) hS.2.2 dL_against_19))
theorem tv_bookingOf (σ : St) (booking : Int32) (what : Int32) : t_X5_bookingOf σ booking what = 0 ∨ t_X5_bookingOf σ booking what = 1 ∨ t_X5_bookingOf σ booking what = 3 := by
  unfold t_X5_bookingOf
  repeat' split
  all_goals first | exact Or.inl rfl | exact Or.inr (Or.inl rfl) | exact Or.inr (Or.inr (rfl))
set_option maxHeartbeats 4000000 in
set_option maxRecDepth 100000 in
theorem x_bookingOf (l : Launch) (hst : l.stackTraces = false) {D : va_G} {A : Nat → Prop} {cI cO cJ : ClassId} {aE o : Nat} {g : Gh} {N : Nat → Nat} (σ : St) (f : Nat → Int64) (booking : Int32) (what : Int32) (hAo : ¬ A o) : vx_Met l yL_bookingOf wsL_bookingOf ({ frames := 8, cells := 2, slots := 12, locals := 127 }) (va_Pc [.ref (g 0 0), .int booking, .int what, .ref o] (wW D cI cO cJ A aE g N σ o f)) (va_Qi (WP (t_X5_bookingOf σ booking what) (kA (t_X5_bookingOf σ booking what)) (q_X5_bookingOf σ booking what).toInt64 g N N (σ) (σ)) (wB D cI cO cJ A aE o) (fun q => A q ∨ q = o)) (fun _ _ _ => False) 2 12 (fun q => A q ∨ q = o) := by
  refine vx_ofWH (cc := cL_bookingOf) (maxL := 5) (ret := (some .int)) (hh := [(0, 10, 13, 21), (0, 10, 17, 13)]) (by decide) rfl ?_
  intro p e s m args below meth c s₁ B hml hv
  obtain ⟨rfl, ⟨⟨⟨⟨ga, cap, hG, hI, hP⟩, hK⟩, hY⟩, hX⟩, hO, hKJ, hNc⟩ := hv
  have E : kE p c cL_bookingOf s m ([.ref (g 0 0), .int booking, .int what, .ref o] : List Value).toArray wsL_bookingOf RL D cI cO := ⟨⟨B.exec, B.bytes⟩, atoms_spec (ws := wsL_bookingOf) B.pre, findClass_of_methodNamed B.named, hK⟩
  have hx := E.1.1
  have hb := E.1.2
  have hts := E.2.1
  have hr := B.returns
  have hlocks := B.notSynchronized
  have htab := vx_table (x := yL_bookingOf) (hh := [(0, 10, 13, 21), (0, 10, 17, 13)]) B (hts (.codeWith yL_bookingOf cL_bookingOf 5 (some .int) [(0, 10, 13, 21), (0, 10, 17, 13)]) List.mem_cons_self)
  obtain ⟨n0, n4, n5, n6, n8, n7, n1, n2, n3⟩ := id hI.1
  have hS : va_S (fun q => A q ∨ q = o) s.heap s.heap [] := va_S.rf
  have hR : 8 ≤ ((headSpec wsL_bookingOf ({ frames := 8, cells := 2, slots := 12, locals := 127 })).room).frames ∧ 127 ≤ ((headSpec wsL_bookingOf ({ frames := 8, cells := 2, slots := 12, locals := 127 })).room).locals := ⟨Nat.le_refl _, Nat.le_refl _⟩
  have hfm : 0 + 2 ≤ ((headSpec wsL_bookingOf ({ frames := 8, cells := 2, slots := 12, locals := 127 })).room).cells ∧ 0 + 12 ≤ ((headSpec wsL_bookingOf ({ frames := 8, cells := 2, slots := 12, locals := 127 })).room).slots := ⟨Nat.le_of_eq (Nat.zero_add _), Nat.le_of_eq (Nat.zero_add _)⟩
  have hl := lv_entry ([.ref (g 0 0), .int booking, .int what, .ref o]) (n := 5) (Nat.le_of_ble_eq_true rfl)
  rw [lg_entry_eq]
  generalize (lg_sl ([.ref (g 0 0), .int booking, .int what, .ref o]) ++ List.replicate (5 - (lg_sl ([.ref (g 0 0), .int booking, .int what, .ref o])).length) Slot.unset).toArray = ls at hl ⊢
  generalize (headSpec wsL_bookingOf ({ frames := 8, cells := 2, slots := 12, locals := 127 })).room = R at hR hfm ⊢
  refine lv_aload_n hx hb dL_bookingOf_0 rfl (lv_at hl 3 rfl) ?_
  refine lv_iconst (v := 0) hx hb dL_bookingOf_1 (by decide) ?_
  refine lv_aload_n hx hb dL_bookingOf_2 rfl (lv_at hl 0 rfl) ?_
  refine lv_iload_n hx hb dL_bookingOf_3 rfl (lv_at hl 1 rfl) ?_
  refine lv_iload_n hx hb dL_bookingOf_4 rfl (lv_at hl 2 rfl) ?_
  refine vx_calli (vx_runV (As := [.int booking, .int what]) (rest := [.int 0, .ref o]) ⟨E.1.1, E.1.2, hml, E.2.2.1, E.2.1⟩ (u_bookingOf l hst (D := D) (A := A) (cI := cI) (cO := cO) (aE := aE) (g := g) (N := N) σ booking what ) (cwV 2 hts gL_bookingOf_X5_bookingOf rfl rfl rfl (by decide +kernel) ⟨Nat.le_trans (Nat.le_of_ble_eq_true rfl) hR.1, Nat.le_trans (Nat.le_of_ble_eq_true rfl) hR.2⟩) ⟨gxBl, kr_0 (g := gw g ga) E.2.2.2 hP ⟨by decide, by omega, fun z => absurd z (by decide)⟩, fun U hU hW => ⟨rfl, ⟨⟨⟨by rw [hU]; exact ⟨ga, cap, hG, hI, hP⟩, va_K.moved hW.alike hK⟩, cY_at hY va_S.rf hU hW⟩, cX_at hX va_S.rf hU hW⟩⟩⟩ rfl rfl hl.1 rfl (lv_room (Nat.le_of_ble_eq_true rfl)) dL_bookingOf_5 hfm) hS (fun q _ h => Or.inl h) (fun q h => Or.inl h) (fun q _ h => Or.inl h) (fun E9 ce q9 u t9 H1 locs1 ht hvm hpx hB hz hk hS hce hcv hcl => ?_) (fun r u t9 H1 locs1 ht hvm hw hB hz hk hS => ?_)
  · obtain ⟨hE, hB1⟩ := hB
    have hB2 := hB1.1
    rw [ht] at hB2
    have hO1 : H1[o]? = some (vp_cell cJ (1, .inr (.inl f))) := (hk o (Array.getElem?_eq_some_iff.mp hO).1 hAo).trans hO
    rcases tv_bookingOf σ booking what with h0 | h0 | h0
    · exact absurd h0 hpx
    · have hE2 : E9 = "java/lang/IllegalArgumentException" := by rw [hE, h0]; rfl
      subst hE2
      refine vx_catch (name := "java/lang/IllegalArgumentException") E.2.2.1 [⟨0, 10, 13, 21⟩] ⟨0, 10, 17, 13⟩ [] (htab.trans rfl) (fun z hz => by
        simp only [List.mem_cons, List.not_mem_nil, or_false] at hz
        subst hz
        exact Or.inr ⟨by decide, "java/lang/IndexOutOfBoundsException", hts (.classLink RL 21 "java/lang/IndexOutOfBoundsException") (by decide +kernel), hNc ("java/lang/IllegalArgumentException", "java/lang/IndexOutOfBoundsException") (by decide)⟩) rfl (by decide) (hts (.classLink RL 13 "java/lang/IllegalArgumentException") (by decide +kernel)) ((hX.2.2.2.1 (.castable "java/lang/IllegalArgumentException" "java/lang/IllegalArgumentException") (by decide)).use rfl) hce hcv hcl ?_
      show W p l e R s m _ below meth c H1 locs1 _ _ _ (F0 m 17 ls [.ref q9])
      refine lv_astore (lv' := [(4, .ref q9), (0, .ref (g 0 0)), (1, .int booking), (2, .int what), (3, .ref o)]) hx hb dL_bookingOf_17 hl (by decide) rfl (fun ls hl => ?_)
      refine lv_iconst (v := 2) hx hb dL_bookingOf_19 (by decide) ?_
      exact W.widen (k := 2) (n := 12) (Nat.le_of_eq (Nat.zero_add _)) (Nat.le_of_eq (Nat.zero_add _)) (vx_ret (W.iret (v := 2) B.exec B.bytes hr (fun t ht hW => ⟨⟨2, ((g, N, σ), f), rfl, Or.inr ⟨hpx, by first | exact h0.symm | (rw [h0]; rfl), rfl⟩, ⟨by rw [ht]; exact hB2, va_K.moved hW.alike hK⟩, by rw [ht]; exact hO1⟩, hS.F ht⟩) hS.2.2 dL_bookingOf_20))
    · have hE2 : E9 = "java/lang/IndexOutOfBoundsException" := by rw [hE, h0]; rfl
      subst hE2
      refine vx_catch (name := "java/lang/IndexOutOfBoundsException") E.2.2.1 [] ⟨0, 10, 13, 21⟩ [⟨0, 10, 17, 13⟩] (htab.trans rfl) (fun z hz => absurd hz List.not_mem_nil) rfl (by decide) (hts (.classLink RL 21 "java/lang/IndexOutOfBoundsException") (by decide +kernel)) ((hX.2.2.2.1 (.castable "java/lang/IndexOutOfBoundsException" "java/lang/IndexOutOfBoundsException") (by decide)).use rfl) hce hcv hcl ?_
      show W p l e R s m _ below meth c H1 locs1 _ _ _ (F0 m 13 ls [.ref q9])
      refine lv_astore (lv' := [(4, .ref q9), (0, .ref (g 0 0)), (1, .int booking), (2, .int what), (3, .ref o)]) hx hb dL_bookingOf_13 hl (by decide) rfl (fun ls hl => ?_)
      refine lv_iconst (v := 1) hx hb dL_bookingOf_15 (by decide) ?_
      exact W.widen (k := 2) (n := 12) (Nat.le_of_eq (Nat.zero_add _)) (Nat.le_of_eq (Nat.zero_add _)) (vx_ret (W.iret (v := 1) B.exec B.bytes hr (fun t ht hW => ⟨⟨1, ((g, N, σ), f), rfl, Or.inr ⟨hpx, by first | exact h0.symm | (rw [h0]; rfl), rfl⟩, ⟨by rw [ht]; exact hB2, va_K.moved hW.alike hK⟩, by rw [ht]; exact hO1⟩, hS.F ht⟩) hS.2.2 dL_bookingOf_16))
  · obtain ⟨hr1, ht0, hP2⟩ := hw
    have hB2 := hB.1
    rw [ht] at hB2
    have hO1 : H1[o]? = some (vp_cell cJ (1, .inr (.inl f))) := (hk o (Array.getElem?_eq_some_iff.mp hO).1 hAo).trans hO
    refine lv_i2l (v := r.toInt64) hx hb dL_bookingOf_8 rfl ?_
    refine k_last hx hb hKJ hO1 hS (Or.inr rfl) dL_bookingOf_9 (fun H2 locs2 hO2 hz2 oq2 hS => ?_)
    have hB3 := cG_kept hB2 (fun q _ hA => oq2 q (fun z => hAo (by rw [← z]; exact hA)))
    refine lv_goto (tgt := 21) hx hb dL_bookingOf_10 (by decide) ?_
    refine lv_iconst (v := 0) hx hb dL_bookingOf_21 (by decide) ?_
    exact W.widen (k := 2) (n := 12) (Nat.le_of_eq (Nat.zero_add _)) (Nat.le_of_eq (Nat.zero_add _)) (vx_ret (W.iret (v := 0) B.exec B.bytes hr (fun t ht hW => ⟨⟨0, (u, vp_updL f 0 r.toInt64), rfl, Or.inl ⟨ht0, rfl, hP2, by rw [hr1]; rfl⟩, ⟨by rw [ht]; exact hB3, va_K.moved hW.alike hK⟩, by rw [ht]; exact hO2⟩, hS.F ht⟩) hS.2.2 dL_bookingOf_22))
theorem tv_plan (σ : St) (sailing : Int32) (place : Int32) (isOff : Int32) : t_X5_plan σ sailing place isOff = 0 ∨ t_X5_plan σ sailing place isOff = 3 := by
  unfold t_X5_plan
  repeat' split
  all_goals first | exact Or.inl rfl | exact Or.inr (rfl)
set_option maxHeartbeats 4000000 in
set_option maxRecDepth 100000 in
theorem x_plan (l : Launch) (hst : l.stackTraces = false) {D : va_G} {A : Nat → Prop} {cI cO cJ : ClassId} {aE o : Nat} {g : Gh} {N : Nat → Nat} (σ : St) (f : Nat → Int64) (sailing : Int32) (place : Int32) (isOff : Int32) (hAo : ¬ A o) : vx_Met l yL_plan wsL_plan ({ frames := 8, cells := 2, slots := 12, locals := 128 }) (va_Pc [.ref (g 0 0), .int sailing, .int place, .int isOff, .ref o] (wW D cI cO cJ A aE g N σ o f)) (va_Qi (WP (t_X5_plan σ sailing place isOff) (kA (t_X5_plan σ sailing place isOff)) (q_X5_plan σ sailing place isOff).toInt64 g N N (σ) (σ)) (wB D cI cO cJ A aE o) (fun q => A q ∨ q = o)) (fun _ _ _ => False) 2 12 (fun q => A q ∨ q = o) := by
  refine vx_ofWH (cc := cL_plan) (maxL := 6) (ret := (some .int)) (hh := [(0, 12, 15, 21)]) (by decide) rfl ?_
  intro p e s m args below meth c s₁ B hml hv
  obtain ⟨rfl, ⟨⟨⟨⟨ga, cap, hG, hI, hP⟩, hK⟩, hY⟩, hX⟩, hO, hKJ, hNc⟩ := hv
  have E : kE p c cL_plan s m ([.ref (g 0 0), .int sailing, .int place, .int isOff, .ref o] : List Value).toArray wsL_plan RL D cI cO := ⟨⟨B.exec, B.bytes⟩, atoms_spec (ws := wsL_plan) B.pre, findClass_of_methodNamed B.named, hK⟩
  have hx := E.1.1
  have hb := E.1.2
  have hts := E.2.1
  have hr := B.returns
  have hlocks := B.notSynchronized
  have htab := vx_table (x := yL_plan) (hh := [(0, 12, 15, 21)]) B (hts (.codeWith yL_plan cL_plan 6 (some .int) [(0, 12, 15, 21)]) List.mem_cons_self)
  obtain ⟨n0, n4, n5, n6, n8, n7, n1, n2, n3⟩ := id hI.1
  have hS : va_S (fun q => A q ∨ q = o) s.heap s.heap [] := va_S.rf
  have hR : 8 ≤ ((headSpec wsL_plan ({ frames := 8, cells := 2, slots := 12, locals := 128 })).room).frames ∧ 128 ≤ ((headSpec wsL_plan ({ frames := 8, cells := 2, slots := 12, locals := 128 })).room).locals := ⟨Nat.le_refl _, Nat.le_refl _⟩
  have hfm : 0 + 2 ≤ ((headSpec wsL_plan ({ frames := 8, cells := 2, slots := 12, locals := 128 })).room).cells ∧ 0 + 12 ≤ ((headSpec wsL_plan ({ frames := 8, cells := 2, slots := 12, locals := 128 })).room).slots := ⟨Nat.le_of_eq (Nat.zero_add _), Nat.le_of_eq (Nat.zero_add _)⟩
  have hl := lv_entry ([.ref (g 0 0), .int sailing, .int place, .int isOff, .ref o]) (n := 6) (Nat.le_of_ble_eq_true rfl)
  rw [lg_entry_eq]
  generalize (lg_sl ([.ref (g 0 0), .int sailing, .int place, .int isOff, .ref o]) ++ List.replicate (6 - (lg_sl ([.ref (g 0 0), .int sailing, .int place, .int isOff, .ref o])).length) Slot.unset).toArray = ls at hl ⊢
  generalize (headSpec wsL_plan ({ frames := 8, cells := 2, slots := 12, locals := 128 })).room = R at hR hfm ⊢
  refine lv_aload hx hb dL_plan_0 (lv_at hl 4 rfl) ?_
  refine lv_iconst (v := 0) hx hb dL_plan_2 (by decide) ?_
  refine lv_aload_n hx hb dL_plan_3 rfl (lv_at hl 0 rfl) ?_
  refine lv_iload_n hx hb dL_plan_4 rfl (lv_at hl 1 rfl) ?_
  refine lv_iload_n hx hb dL_plan_5 rfl (lv_at hl 2 rfl) ?_
  refine lv_iload_n hx hb dL_plan_6 rfl (lv_at hl 3 rfl) ?_
  refine vx_calli (vx_runV (As := [.int sailing, .int place, .int isOff]) (rest := [.int 0, .ref o]) ⟨E.1.1, E.1.2, hml, E.2.2.1, E.2.1⟩ (u_plan l hst (D := D) (A := A) (cI := cI) (cO := cO) (aE := aE) (g := g) (N := N) σ sailing place isOff ) (cwV 3 hts gL_plan_X5_plan rfl rfl rfl (by decide +kernel) ⟨Nat.le_trans (Nat.le_of_ble_eq_true rfl) hR.1, Nat.le_trans (Nat.le_of_ble_eq_true rfl) hR.2⟩) ⟨gxBl, kr_0 (g := gw g ga) E.2.2.2 hP ⟨by decide, by omega, fun z => absurd z (by decide)⟩, fun U hU hW => ⟨rfl, ⟨⟨⟨by rw [hU]; exact ⟨ga, cap, hG, hI, hP⟩, va_K.moved hW.alike hK⟩, cY_at hY va_S.rf hU hW⟩, cX_at hX va_S.rf hU hW⟩⟩⟩ rfl rfl hl.1 rfl (lv_room (Nat.le_of_ble_eq_true rfl)) dL_plan_7 hfm) hS (fun q _ h => Or.inl h) (fun q h => Or.inl h) (fun q _ h => Or.inl h) (fun E9 ce q9 u t9 H1 locs1 ht hvm hpx hB hz hk hS hce hcv hcl => ?_) (fun r u t9 H1 locs1 ht hvm hw hB hz hk hS => ?_)
  · obtain ⟨hE, hB1⟩ := hB
    have hB2 := hB1.1
    rw [ht] at hB2
    have hO1 : H1[o]? = some (vp_cell cJ (1, .inr (.inl f))) := (hk o (Array.getElem?_eq_some_iff.mp hO).1 hAo).trans hO
    rcases tv_plan σ sailing place isOff with h0 | h0
    · exact absurd h0 hpx
    · have hE2 : E9 = "java/lang/IndexOutOfBoundsException" := by rw [hE, h0]; rfl
      subst hE2
      refine vx_catch (name := "java/lang/IndexOutOfBoundsException") E.2.2.1 [] ⟨0, 12, 15, 21⟩ [] (htab.trans rfl) (fun z hz => absurd hz List.not_mem_nil) rfl (by decide) (hts (.classLink RL 21 "java/lang/IndexOutOfBoundsException") (by decide +kernel)) ((hX.2.2.2.1 (.castable "java/lang/IndexOutOfBoundsException" "java/lang/IndexOutOfBoundsException") (by decide)).use rfl) hce hcv hcl ?_
      show W p l e R s m _ below meth c H1 locs1 _ _ _ (F0 m 15 ls [.ref q9])
      refine lv_astore (lv' := [(5, .ref q9), (0, .ref (g 0 0)), (1, .int sailing), (2, .int place), (3, .int isOff), (4, .ref o)]) hx hb dL_plan_15 hl (by decide) rfl (fun ls hl => ?_)
      refine lv_iconst (v := 1) hx hb dL_plan_17 (by decide) ?_
      exact W.widen (k := 2) (n := 12) (Nat.le_of_eq (Nat.zero_add _)) (Nat.le_of_eq (Nat.zero_add _)) (vx_ret (W.iret (v := 1) B.exec B.bytes hr (fun t ht hW => ⟨⟨1, ((g, N, σ), f), rfl, Or.inr ⟨hpx, by first | exact h0.symm | (rw [h0]; rfl), rfl⟩, ⟨by rw [ht]; exact hB2, va_K.moved hW.alike hK⟩, by rw [ht]; exact hO1⟩, hS.F ht⟩) hS.2.2 dL_plan_18))
  · obtain ⟨hr1, ht0, hP2⟩ := hw
    have hB2 := hB.1
    rw [ht] at hB2
    have hO1 : H1[o]? = some (vp_cell cJ (1, .inr (.inl f))) := (hk o (Array.getElem?_eq_some_iff.mp hO).1 hAo).trans hO
    refine lv_i2l (v := r.toInt64) hx hb dL_plan_10 rfl ?_
    refine k_last hx hb hKJ hO1 hS (Or.inr rfl) dL_plan_11 (fun H2 locs2 hO2 hz2 oq2 hS => ?_)
    have hB3 := cG_kept hB2 (fun q _ hA => oq2 q (fun z => hAo (by rw [← z]; exact hA)))
    refine lv_goto (tgt := 19) hx hb dL_plan_12 (by decide) ?_
    refine lv_iconst (v := 0) hx hb dL_plan_19 (by decide) ?_
    exact W.widen (k := 2) (n := 12) (Nat.le_of_eq (Nat.zero_add _)) (Nat.le_of_eq (Nat.zero_add _)) (vx_ret (W.iret (v := 0) B.exec B.bytes hr (fun t ht hW => ⟨⟨0, (u, vp_updL f 0 r.toInt64), rfl, Or.inl ⟨ht0, rfl, hP2, by rw [hr1]; rfl⟩, ⟨by rw [ht]; exact hB3, va_K.moved hW.alike hK⟩, by rw [ht]; exact hO2⟩, hS.F ht⟩) hS.2.2 dL_plan_20))
theorem tv_gap (σ : St) (pier : Int32) (what : Int32) : t_X5_gap σ pier what = 0 ∨ t_X5_gap σ pier what = 1 ∨ t_X5_gap σ pier what = 3 := by
  unfold t_X5_gap
  repeat' split
  all_goals first | exact Or.inl rfl | exact Or.inr (Or.inl rfl) | exact Or.inr (Or.inr (rfl))
set_option maxHeartbeats 4000000 in
set_option maxRecDepth 100000 in
theorem x_gap (l : Launch) (hst : l.stackTraces = false) {D : va_G} {A : Nat → Prop} {cI cO cJ : ClassId} {aE o : Nat} {g : Gh} {N : Nat → Nat} (σ : St) (f : Nat → Int64) (pier : Int32) (what : Int32) (hAo : ¬ A o) : vx_Met l yL_gap wsL_gap ({ frames := 8, cells := 2, slots := 12, locals := 127 }) (va_Pc [.ref (g 0 0), .int pier, .int what, .ref o] (wW D cI cO cJ A aE g N σ o f)) (va_Qi (WP (t_X5_gap σ pier what) (kA (t_X5_gap σ pier what)) (q_X5_gap σ pier what).toInt64 g N N (σ) (σ)) (wB D cI cO cJ A aE o) (fun q => A q ∨ q = o)) (fun _ _ _ => False) 2 12 (fun q => A q ∨ q = o) := by
  refine vx_ofWH (cc := cL_gap) (maxL := 5) (ret := (some .int)) (hh := [(0, 10, 13, 21), (0, 10, 17, 13)]) (by decide) rfl ?_
  intro p e s m args below meth c s₁ B hml hv
  obtain ⟨rfl, ⟨⟨⟨⟨ga, cap, hG, hI, hP⟩, hK⟩, hY⟩, hX⟩, hO, hKJ, hNc⟩ := hv
  have E : kE p c cL_gap s m ([.ref (g 0 0), .int pier, .int what, .ref o] : List Value).toArray wsL_gap RL D cI cO := ⟨⟨B.exec, B.bytes⟩, atoms_spec (ws := wsL_gap) B.pre, findClass_of_methodNamed B.named, hK⟩
  have hx := E.1.1
  have hb := E.1.2
  have hts := E.2.1
  have hr := B.returns
  have hlocks := B.notSynchronized
  have htab := vx_table (x := yL_gap) (hh := [(0, 10, 13, 21), (0, 10, 17, 13)]) B (hts (.codeWith yL_gap cL_gap 5 (some .int) [(0, 10, 13, 21), (0, 10, 17, 13)]) List.mem_cons_self)
  obtain ⟨n0, n4, n5, n6, n8, n7, n1, n2, n3⟩ := id hI.1
  have hS : va_S (fun q => A q ∨ q = o) s.heap s.heap [] := va_S.rf
  have hR : 8 ≤ ((headSpec wsL_gap ({ frames := 8, cells := 2, slots := 12, locals := 127 })).room).frames ∧ 127 ≤ ((headSpec wsL_gap ({ frames := 8, cells := 2, slots := 12, locals := 127 })).room).locals := ⟨Nat.le_refl _, Nat.le_refl _⟩
  have hfm : 0 + 2 ≤ ((headSpec wsL_gap ({ frames := 8, cells := 2, slots := 12, locals := 127 })).room).cells ∧ 0 + 12 ≤ ((headSpec wsL_gap ({ frames := 8, cells := 2, slots := 12, locals := 127 })).room).slots := ⟨Nat.le_of_eq (Nat.zero_add _), Nat.le_of_eq (Nat.zero_add _)⟩
  have hl := lv_entry ([.ref (g 0 0), .int pier, .int what, .ref o]) (n := 5) (Nat.le_of_ble_eq_true rfl)
  rw [lg_entry_eq]
  generalize (lg_sl ([.ref (g 0 0), .int pier, .int what, .ref o]) ++ List.replicate (5 - (lg_sl ([.ref (g 0 0), .int pier, .int what, .ref o])).length) Slot.unset).toArray = ls at hl ⊢
  generalize (headSpec wsL_gap ({ frames := 8, cells := 2, slots := 12, locals := 127 })).room = R at hR hfm ⊢
  refine lv_aload_n hx hb dL_gap_0 rfl (lv_at hl 3 rfl) ?_
  refine lv_iconst (v := 0) hx hb dL_gap_1 (by decide) ?_
  refine lv_aload_n hx hb dL_gap_2 rfl (lv_at hl 0 rfl) ?_
  refine lv_iload_n hx hb dL_gap_3 rfl (lv_at hl 1 rfl) ?_
  refine lv_iload_n hx hb dL_gap_4 rfl (lv_at hl 2 rfl) ?_
  refine vx_calli (vx_runV (As := [.int pier, .int what]) (rest := [.int 0, .ref o]) ⟨E.1.1, E.1.2, hml, E.2.2.1, E.2.1⟩ (u_gap l hst (D := D) (A := A) (cI := cI) (cO := cO) (aE := aE) (g := g) (N := N) σ pier what ) (cwV 2 hts gL_gap_X5_gap rfl rfl rfl (by decide +kernel) ⟨Nat.le_trans (Nat.le_of_ble_eq_true rfl) hR.1, Nat.le_trans (Nat.le_of_ble_eq_true rfl) hR.2⟩) ⟨gxBl, kr_0 (g := gw g ga) E.2.2.2 hP ⟨by decide, by omega, fun z => absurd z (by decide)⟩, fun U hU hW => ⟨rfl, ⟨⟨⟨by rw [hU]; exact ⟨ga, cap, hG, hI, hP⟩, va_K.moved hW.alike hK⟩, cY_at hY va_S.rf hU hW⟩, cX_at hX va_S.rf hU hW⟩⟩⟩ rfl rfl hl.1 rfl (lv_room (Nat.le_of_ble_eq_true rfl)) dL_gap_5 hfm) hS (fun q _ h => Or.inl h) (fun q h => Or.inl h) (fun q _ h => Or.inl h) (fun E9 ce q9 u t9 H1 locs1 ht hvm hpx hB hz hk hS hce hcv hcl => ?_) (fun r u t9 H1 locs1 ht hvm hw hB hz hk hS => ?_)
  · obtain ⟨hE, hB1⟩ := hB
    have hB2 := hB1.1
    rw [ht] at hB2
    have hO1 : H1[o]? = some (vp_cell cJ (1, .inr (.inl f))) := (hk o (Array.getElem?_eq_some_iff.mp hO).1 hAo).trans hO
    rcases tv_gap σ pier what with h0 | h0 | h0
    · exact absurd h0 hpx
    · have hE2 : E9 = "java/lang/IllegalArgumentException" := by rw [hE, h0]; rfl
      subst hE2
      refine vx_catch (name := "java/lang/IllegalArgumentException") E.2.2.1 [⟨0, 10, 13, 21⟩] ⟨0, 10, 17, 13⟩ [] (htab.trans rfl) (fun z hz => by
        simp only [List.mem_cons, List.not_mem_nil, or_false] at hz
        subst hz
        exact Or.inr ⟨by decide, "java/lang/IndexOutOfBoundsException", hts (.classLink RL 21 "java/lang/IndexOutOfBoundsException") (by decide +kernel), hNc ("java/lang/IllegalArgumentException", "java/lang/IndexOutOfBoundsException") (by decide)⟩) rfl (by decide) (hts (.classLink RL 13 "java/lang/IllegalArgumentException") (by decide +kernel)) ((hX.2.2.2.1 (.castable "java/lang/IllegalArgumentException" "java/lang/IllegalArgumentException") (by decide)).use rfl) hce hcv hcl ?_
      show W p l e R s m _ below meth c H1 locs1 _ _ _ (F0 m 17 ls [.ref q9])
      refine lv_astore (lv' := [(4, .ref q9), (0, .ref (g 0 0)), (1, .int pier), (2, .int what), (3, .ref o)]) hx hb dL_gap_17 hl (by decide) rfl (fun ls hl => ?_)
      refine lv_iconst (v := 2) hx hb dL_gap_19 (by decide) ?_
      exact W.widen (k := 2) (n := 12) (Nat.le_of_eq (Nat.zero_add _)) (Nat.le_of_eq (Nat.zero_add _)) (vx_ret (W.iret (v := 2) B.exec B.bytes hr (fun t ht hW => ⟨⟨2, ((g, N, σ), f), rfl, Or.inr ⟨hpx, by first | exact h0.symm | (rw [h0]; rfl), rfl⟩, ⟨by rw [ht]; exact hB2, va_K.moved hW.alike hK⟩, by rw [ht]; exact hO1⟩, hS.F ht⟩) hS.2.2 dL_gap_20))
    · have hE2 : E9 = "java/lang/IndexOutOfBoundsException" := by rw [hE, h0]; rfl
      subst hE2
      refine vx_catch (name := "java/lang/IndexOutOfBoundsException") E.2.2.1 [] ⟨0, 10, 13, 21⟩ [⟨0, 10, 17, 13⟩] (htab.trans rfl) (fun z hz => absurd hz List.not_mem_nil) rfl (by decide) (hts (.classLink RL 21 "java/lang/IndexOutOfBoundsException") (by decide +kernel)) ((hX.2.2.2.1 (.castable "java/lang/IndexOutOfBoundsException" "java/lang/IndexOutOfBoundsException") (by decide)).use rfl) hce hcv hcl ?_
      show W p l e R s m _ below meth c H1 locs1 _ _ _ (F0 m 13 ls [.ref q9])
      refine lv_astore (lv' := [(4, .ref q9), (0, .ref (g 0 0)), (1, .int pier), (2, .int what), (3, .ref o)]) hx hb dL_gap_13 hl (by decide) rfl (fun ls hl => ?_)
      refine lv_iconst (v := 1) hx hb dL_gap_15 (by decide) ?_
      exact W.widen (k := 2) (n := 12) (Nat.le_of_eq (Nat.zero_add _)) (Nat.le_of_eq (Nat.zero_add _)) (vx_ret (W.iret (v := 1) B.exec B.bytes hr (fun t ht hW => ⟨⟨1, ((g, N, σ), f), rfl, Or.inr ⟨hpx, by first | exact h0.symm | (rw [h0]; rfl), rfl⟩, ⟨by rw [ht]; exact hB2, va_K.moved hW.alike hK⟩, by rw [ht]; exact hO1⟩, hS.F ht⟩) hS.2.2 dL_gap_16))
  · obtain ⟨hr1, ht0, hP2⟩ := hw
    have hB2 := hB.1
    rw [ht] at hB2
    have hO1 : H1[o]? = some (vp_cell cJ (1, .inr (.inl f))) := (hk o (Array.getElem?_eq_some_iff.mp hO).1 hAo).trans hO
    refine lv_i2l (v := r.toInt64) hx hb dL_gap_8 rfl ?_
    refine k_last hx hb hKJ hO1 hS (Or.inr rfl) dL_gap_9 (fun H2 locs2 hO2 hz2 oq2 hS => ?_)
    have hB3 := cG_kept hB2 (fun q _ hA => oq2 q (fun z => hAo (by rw [← z]; exact hA)))
    refine lv_goto (tgt := 21) hx hb dL_gap_10 (by decide) ?_
    refine lv_iconst (v := 0) hx hb dL_gap_21 (by decide) ?_
    exact W.widen (k := 2) (n := 12) (Nat.le_of_eq (Nat.zero_add _)) (Nat.le_of_eq (Nat.zero_add _)) (vx_ret (W.iret (v := 0) B.exec B.bytes hr (fun t ht hW => ⟨⟨0, (u, vp_updL f 0 r.toInt64), rfl, Or.inl ⟨ht0, rfl, hP2, by rw [hr1]; rfl⟩, ⟨by rw [ht]; exact hB3, va_K.moved hW.alike hK⟩, by rw [ht]; exact hO2⟩, hS.F ht⟩) hS.2.2 dL_gap_22))
